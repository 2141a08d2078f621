section
/-! part 27: methods 15..: laid by wip/flat/dec.py -/
def zt_15 : zx_MT := (2, yX2_deeper, cX2_deeper, 7, none, 2, 0)
theorem zm_15 : zx_m 15 = zt_15 := rfl
theorem dX2_deeper_r0 : zdcP cX2_deeper 0 [(.aload_n 0, 1), (.iload_n 1, 1), (.iload_n 2, 1), (.invokevirtual 61, 3), (.ifCond .eq 4, 3), (.return_, 1), (.aload_n 0, 1), (.getfield 13, 3), (.iload_n 1, 1), (.aaload, 1), (.astore_n 3, 1), (.iconst 1, 1), (.istore 4, 2), (.iload_n 1, 1), (.aload_n 0, 1), (.getfield 24, 3)] := zdcA_ok (by decide +kernel)
theorem dX2_deeper_0 : decode cX2_deeper 0 = .ok (.aload_n 0, 1) := dX2_deeper_r0.1
theorem dX2_deeper_1 : decode cX2_deeper 1 = .ok (.iload_n 1, 1) := dX2_deeper_r0.2.1
theorem dX2_deeper_2 : decode cX2_deeper 2 = .ok (.iload_n 2, 1) := dX2_deeper_r0.2.2.1
theorem dX2_deeper_3 : decode cX2_deeper 3 = .ok (.invokevirtual 61, 3) := dX2_deeper_r0.2.2.2.1
theorem dX2_deeper_6 : decode cX2_deeper 6 = .ok (.ifCond .eq 4, 3) := dX2_deeper_r0.2.2.2.2.1
theorem dX2_deeper_9 : decode cX2_deeper 9 = .ok (.return_, 1) := dX2_deeper_r0.2.2.2.2.2.1
theorem dX2_deeper_10 : decode cX2_deeper 10 = .ok (.aload_n 0, 1) := dX2_deeper_r0.2.2.2.2.2.2.1
theorem dX2_deeper_11 : decode cX2_deeper 11 = .ok (.getfield 13, 3) := dX2_deeper_r0.2.2.2.2.2.2.2.1
theorem dX2_deeper_14 : decode cX2_deeper 14 = .ok (.iload_n 1, 1) := dX2_deeper_r0.2.2.2.2.2.2.2.2.1
theorem dX2_deeper_15 : decode cX2_deeper 15 = .ok (.aaload, 1) := dX2_deeper_r0.2.2.2.2.2.2.2.2.2.1
theorem dX2_deeper_16 : decode cX2_deeper 16 = .ok (.astore_n 3, 1) := dX2_deeper_r0.2.2.2.2.2.2.2.2.2.2.1
theorem dX2_deeper_17 : decode cX2_deeper 17 = .ok (.iconst 1, 1) := dX2_deeper_r0.2.2.2.2.2.2.2.2.2.2.2.1
theorem dX2_deeper_18 : decode cX2_deeper 18 = .ok (.istore 4, 2) := dX2_deeper_r0.2.2.2.2.2.2.2.2.2.2.2.2.1
theorem dX2_deeper_20 : decode cX2_deeper 20 = .ok (.iload_n 1, 1) := dX2_deeper_r0.2.2.2.2.2.2.2.2.2.2.2.2.2.1
theorem dX2_deeper_21 : decode cX2_deeper 21 = .ok (.aload_n 0, 1) := dX2_deeper_r0.2.2.2.2.2.2.2.2.2.2.2.2.2.2.1
theorem dX2_deeper_22 : decode cX2_deeper 22 = .ok (.getfield 24, 3) := dX2_deeper_r0.2.2.2.2.2.2.2.2.2.2.2.2.2.2.2.1
theorem dX2_deeper_r25 : zdcP cX2_deeper 25 [(.if_icmp .ge 85, 3), (.aload_n 3, 1), (.invokevirtual 65, 3), (.ifCond .ne 78, 3), (.iconst 0, 1), (.istore 5, 2), (.iload 5, 2), (.bipush 10, 2), (.if_icmp .ge 68, 3), (.aload_n 3, 1), (.iload 5, 2), (.invokevirtual 69, 3), (.ifCond .eq 53, 3), (.iconst 0, 1), (.istore 4, 2), (.aload_n 0, 1)] := zdcA_ok (by decide +kernel)
theorem dX2_deeper_25 : decode cX2_deeper 25 = .ok (.if_icmp .ge 85, 3) := dX2_deeper_r25.1
theorem dX2_deeper_28 : decode cX2_deeper 28 = .ok (.aload_n 3, 1) := dX2_deeper_r25.2.1
theorem dX2_deeper_29 : decode cX2_deeper 29 = .ok (.invokevirtual 65, 3) := dX2_deeper_r25.2.2.1
theorem dX2_deeper_32 : decode cX2_deeper 32 = .ok (.ifCond .ne 78, 3) := dX2_deeper_r25.2.2.2.1
theorem dX2_deeper_35 : decode cX2_deeper 35 = .ok (.iconst 0, 1) := dX2_deeper_r25.2.2.2.2.1
theorem dX2_deeper_36 : decode cX2_deeper 36 = .ok (.istore 5, 2) := dX2_deeper_r25.2.2.2.2.2.1
theorem dX2_deeper_38 : decode cX2_deeper 38 = .ok (.iload 5, 2) := dX2_deeper_r25.2.2.2.2.2.2.1
theorem dX2_deeper_40 : decode cX2_deeper 40 = .ok (.bipush 10, 2) := dX2_deeper_r25.2.2.2.2.2.2.2.1
theorem dX2_deeper_42 : decode cX2_deeper 42 = .ok (.if_icmp .ge 68, 3) := dX2_deeper_r25.2.2.2.2.2.2.2.2.1
theorem dX2_deeper_45 : decode cX2_deeper 45 = .ok (.aload_n 3, 1) := dX2_deeper_r25.2.2.2.2.2.2.2.2.2.1
theorem dX2_deeper_46 : decode cX2_deeper 46 = .ok (.iload 5, 2) := dX2_deeper_r25.2.2.2.2.2.2.2.2.2.2.1
theorem dX2_deeper_48 : decode cX2_deeper 48 = .ok (.invokevirtual 69, 3) := dX2_deeper_r25.2.2.2.2.2.2.2.2.2.2.2.1
theorem dX2_deeper_51 : decode cX2_deeper 51 = .ok (.ifCond .eq 53, 3) := dX2_deeper_r25.2.2.2.2.2.2.2.2.2.2.2.2.1
theorem dX2_deeper_54 : decode cX2_deeper 54 = .ok (.iconst 0, 1) := dX2_deeper_r25.2.2.2.2.2.2.2.2.2.2.2.2.2.1
theorem dX2_deeper_55 : decode cX2_deeper 55 = .ok (.istore 4, 2) := dX2_deeper_r25.2.2.2.2.2.2.2.2.2.2.2.2.2.2.1
theorem dX2_deeper_57 : decode cX2_deeper 57 = .ok (.aload_n 0, 1) := dX2_deeper_r25.2.2.2.2.2.2.2.2.2.2.2.2.2.2.2.1
theorem dX2_deeper_r58 : zdcP cX2_deeper 58 [(.getfield 17, 3), (.iload_n 1, 1), (.iload 5, 2), (.iastore, 1), (.aload_n 0, 1), (.getfield 13, 3), (.iload_n 1, 1), (.iconst 1, 1), (.iadd, 1), (.aaload, 1), (.astore 6, 2), (.aload 6, 2), (.aload_n 3, 1), (.invokevirtual 49, 3), (.aload 6, 2), (.iload 5, 2)] := zdcA_ok (by decide +kernel)
theorem dX2_deeper_58 : decode cX2_deeper 58 = .ok (.getfield 17, 3) := dX2_deeper_r58.1
theorem dX2_deeper_61 : decode cX2_deeper 61 = .ok (.iload_n 1, 1) := dX2_deeper_r58.2.1
theorem dX2_deeper_62 : decode cX2_deeper 62 = .ok (.iload 5, 2) := dX2_deeper_r58.2.2.1
theorem dX2_deeper_64 : decode cX2_deeper 64 = .ok (.iastore, 1) := dX2_deeper_r58.2.2.2.1
theorem dX2_deeper_65 : decode cX2_deeper 65 = .ok (.aload_n 0, 1) := dX2_deeper_r58.2.2.2.2.1
theorem dX2_deeper_66 : decode cX2_deeper 66 = .ok (.getfield 13, 3) := dX2_deeper_r58.2.2.2.2.2.1
theorem dX2_deeper_69 : decode cX2_deeper 69 = .ok (.iload_n 1, 1) := dX2_deeper_r58.2.2.2.2.2.2.1
theorem dX2_deeper_70 : decode cX2_deeper 70 = .ok (.iconst 1, 1) := dX2_deeper_r58.2.2.2.2.2.2.2.1
theorem dX2_deeper_71 : decode cX2_deeper 71 = .ok (.iadd, 1) := dX2_deeper_r58.2.2.2.2.2.2.2.2.1
theorem dX2_deeper_72 : decode cX2_deeper 72 = .ok (.aaload, 1) := dX2_deeper_r58.2.2.2.2.2.2.2.2.2.1
theorem dX2_deeper_73 : decode cX2_deeper 73 = .ok (.astore 6, 2) := dX2_deeper_r58.2.2.2.2.2.2.2.2.2.2.1
theorem dX2_deeper_75 : decode cX2_deeper 75 = .ok (.aload 6, 2) := dX2_deeper_r58.2.2.2.2.2.2.2.2.2.2.2.1
theorem dX2_deeper_77 : decode cX2_deeper 77 = .ok (.aload_n 3, 1) := dX2_deeper_r58.2.2.2.2.2.2.2.2.2.2.2.2.1
theorem dX2_deeper_78 : decode cX2_deeper 78 = .ok (.invokevirtual 49, 3) := dX2_deeper_r58.2.2.2.2.2.2.2.2.2.2.2.2.2.1
theorem dX2_deeper_81 : decode cX2_deeper 81 = .ok (.aload 6, 2) := dX2_deeper_r58.2.2.2.2.2.2.2.2.2.2.2.2.2.2.1
theorem dX2_deeper_83 : decode cX2_deeper 83 = .ok (.iload 5, 2) := dX2_deeper_r58.2.2.2.2.2.2.2.2.2.2.2.2.2.2.2.1
theorem dX2_deeper_r85 : zdcP cX2_deeper 85 [(.invokevirtual 73, 3), (.aload_n 0, 1), (.iload_n 1, 1), (.iconst 1, 1), (.iadd, 1), (.iload_n 2, 1), (.aload 6, 2), (.invokevirtual 53, 3), (.invokestatic 77, 3), (.invokevirtual 57, 3), (.iinc 5 1, 3), (.goto (-69), 3), (.iload 4, 2), (.ifCond .eq 9, 3), (.aload_n 0, 1), (.iload_n 1, 1)] := zdcA_ok (by decide +kernel)
theorem dX2_deeper_85 : decode cX2_deeper 85 = .ok (.invokevirtual 73, 3) := dX2_deeper_r85.1
theorem dX2_deeper_88 : decode cX2_deeper 88 = .ok (.aload_n 0, 1) := dX2_deeper_r85.2.1
theorem dX2_deeper_89 : decode cX2_deeper 89 = .ok (.iload_n 1, 1) := dX2_deeper_r85.2.2.1
theorem dX2_deeper_90 : decode cX2_deeper 90 = .ok (.iconst 1, 1) := dX2_deeper_r85.2.2.2.1
theorem dX2_deeper_91 : decode cX2_deeper 91 = .ok (.iadd, 1) := dX2_deeper_r85.2.2.2.2.1
theorem dX2_deeper_92 : decode cX2_deeper 92 = .ok (.iload_n 2, 1) := dX2_deeper_r85.2.2.2.2.2.1
theorem dX2_deeper_93 : decode cX2_deeper 93 = .ok (.aload 6, 2) := dX2_deeper_r85.2.2.2.2.2.2.1
theorem dX2_deeper_95 : decode cX2_deeper 95 = .ok (.invokevirtual 53, 3) := dX2_deeper_r85.2.2.2.2.2.2.2.1
theorem dX2_deeper_98 : decode cX2_deeper 98 = .ok (.invokestatic 77, 3) := dX2_deeper_r85.2.2.2.2.2.2.2.2.1
theorem dX2_deeper_101 : decode cX2_deeper 101 = .ok (.invokevirtual 57, 3) := dX2_deeper_r85.2.2.2.2.2.2.2.2.2.1
theorem dX2_deeper_104 : decode cX2_deeper 104 = .ok (.iinc 5 1, 3) := dX2_deeper_r85.2.2.2.2.2.2.2.2.2.2.1
theorem dX2_deeper_107 : decode cX2_deeper 107 = .ok (.goto (-69), 3) := dX2_deeper_r85.2.2.2.2.2.2.2.2.2.2.2.1
theorem dX2_deeper_110 : decode cX2_deeper 110 = .ok (.iload 4, 2) := dX2_deeper_r85.2.2.2.2.2.2.2.2.2.2.2.2.1
theorem dX2_deeper_112 : decode cX2_deeper 112 = .ok (.ifCond .eq 9, 3) := dX2_deeper_r85.2.2.2.2.2.2.2.2.2.2.2.2.2.1
theorem dX2_deeper_115 : decode cX2_deeper 115 = .ok (.aload_n 0, 1) := dX2_deeper_r85.2.2.2.2.2.2.2.2.2.2.2.2.2.2.1
theorem dX2_deeper_116 : decode cX2_deeper 116 = .ok (.iload_n 1, 1) := dX2_deeper_r85.2.2.2.2.2.2.2.2.2.2.2.2.2.2.2.1
theorem dX2_deeper_r117 : zdcP cX2_deeper 117 [(.iload_n 2, 1), (.invokevirtual 80, 3), (.return_, 1)] := zdcA_ok (by decide +kernel)
theorem dX2_deeper_117 : decode cX2_deeper 117 = .ok (.iload_n 2, 1) := dX2_deeper_r117.1
theorem dX2_deeper_118 : decode cX2_deeper 118 = .ok (.invokevirtual 80, 3) := dX2_deeper_r117.2.1
theorem dX2_deeper_121 : decode cX2_deeper 121 = .ok (.return_, 1) := dX2_deeper_r117.2.2.1
def wq_15_110 (R : Int32 → Int32 → zf_Me → (zf_Me → Prop) → Prop) (v1 : Int32) (v2 : Int32) (v4 : Int32) (m : zf_Me) (Q : zf_Me → Prop) : Prop := ((v4.toInt = 0 → Q m) ∧ (¬ v4.toInt = 0 → wp_17 v1 v2 m (fun m6 => Q m6)))
theorem zq_15_110 {e : Nat} (hd : 3 ≤ e) {R : Int32 → Int32 → zf_Me → (zf_Me → Prop) → Prop} (hR : ∀ (v1 : Int32) (v2 : Int32) (m : zf_Me) (Q : zf_Me → Prop), R v1 v2 m Q → zf_M e 15 [.inr (.inr (1, 21)), .inl v1, .inl v2] m (zf_O Q)) {v1 : Int32} {v2 : Int32} {Q : zf_Me → Prop} {v4 : Int32} {m : zf_Me} (h : wq_15_110 R v1 v2 v4 m Q) : zf_W none 0 0 (e + 1) zt_15 110 [some (.inr (.inr (1, 21))), some (.inl v1), some (.inl v2), none, some (.inl v4), none, none] [] m (zf_O Q) := by
  unfold wq_15_110 at h
  refine zf_ld (pc' := 112) (v := .inl v4) dX2_deeper_110 rfl (fun _ _ _ => rfl) rfl rfl rfl ?_
  refine zf_if_eq (tgt := 121) (pc' := 115) dX2_deeper_112 rfl rfl (fun g => ?_) (fun g => ?_)
  · replace h := h.1 g
    exact zf_rv dX2_deeper_121 rfl h
  · replace h := h.2 g
    refine zf_ld (pc' := 116) (v := .inr (.inr (1, 21))) dX2_deeper_115 rfl (fun _ _ _ => rfl) rfl rfl rfl ?_
    refine zf_ld (pc' := 117) (v := .inl v1) dX2_deeper_116 rfl (fun _ _ _ => rfl) rfl rfl rfl ?_
    refine zf_ld (pc' := 118) (v := .inl v2) dX2_deeper_117 rfl (fun _ _ _ => rfl) rfl rfl rfl ?_
    refine zf_iv (k := 17) (pc' := 121) (r := []) dX2_deeper_118 rfl rfl rfl rfl (by decide) rfl rfl rfl (zr_17 (by omega) h) (zf_kO (fun m6 h => ?_))
    exact zf_rv dX2_deeper_121 rfl h
def wq_15_38 (R : Int32 → Int32 → zf_Me → (zf_Me → Prop) → Prop) (v1 : Int32) (v2 : Int32) (Q : zf_Me → Prop) : Nat → Int32 → Int32 → zf_Me → Prop
  | 0, _, _, _ => False
  | n + 1, v4, v5, m => ((v5.toInt ≥ 10 → wq_15_110 R v1 v2 v4 m Q) ∧ (v5.toInt < 10 → wp_52 (25 + 2 * (Int32.toInt v1).toNat) 3 (26 + 2 * (Int32.toInt v1).toNat) v5 m (fun b9 m10 => ((b9 = false → wq_15_38 R v1 v2 Q n v4 (v5 + 1) m10) ∧ (b9 = true → ((0 ≤ (Int32.toInt v1) ∧ (Int32.toInt v1) < (4 : Int)) ∧ ∀ m11, m11 = zf_u m10 23 (Int32.toInt v1).toNat v5 → ((0 ≤ (Int32.toInt (v1 + 1)) ∧ (Int32.toInt (v1 + 1)) < 5) ∧ wp_43 (25 + 2 * (Int32.toInt (v1 + 1)).toNat) 3 (26 + 2 * (Int32.toInt (v1 + 1)).toNat) (25 + 2 * (Int32.toInt v1).toNat) 3 (26 + 2 * (Int32.toInt v1).toNat) m11 (fun m16 => wp_56 (25 + 2 * (Int32.toInt (v1 + 1)).toNat) 3 (26 + 2 * (Int32.toInt (v1 + 1)).toNat) v5 m16 (fun m18 => wp_49 (25 + 2 * (Int32.toInt (v1 + 1)).toNat) 3 (26 + 2 * (Int32.toInt (v1 + 1)).toNat) m18 (fun x19 m20 => R (v1 + 1) (if v2 < x19 then x19 else v2) m20 (fun m22 => wq_15_38 R v1 v2 Q n 0 (v5 + 1) m22)))))))))))
theorem zq_15_38 {e : Nat} (hd : 3 ≤ e) {R : Int32 → Int32 → zf_Me → (zf_Me → Prop) → Prop} (hR : ∀ (v1 : Int32) (v2 : Int32) (m : zf_Me) (Q : zf_Me → Prop), R v1 v2 m Q → zf_M e 15 [.inr (.inr (1, 21)), .inl v1, .inl v2] m (zf_O Q)) {v1 : Int32} {v2 : Int32} {Q : zf_Me → Prop} (hs3 : zf_walk (25 + 2 * (Int32.toInt v1).toNat) 3 (26 + 2 * (Int32.toInt v1).toNat)) : ∀ (n : Nat) (v4 : Int32) (v5 : Int32) (m : zf_Me), wq_15_38 R v1 v2 Q n v4 v5 m → zf_W none 0 0 (e + 1) zt_15 38 [some (.inr (.inr (1, 21))), some (.inl v1), some (.inl v2), some (.inr (.inr (1, (25 + 2 * (Int32.toInt v1).toNat)))), some (.inl v4), some (.inl v5), none] [] m (zf_O Q) := by
  intro n
  induction n with
  | zero =>
    intro v4 v5 m h
    exact h.elim
  | succ n ih =>
    intro v4 v5 m h
    unfold wq_15_38 at h
    refine zf_ld (pc' := 40) (v := .inl v5) dX2_deeper_38 rfl (fun _ _ _ => rfl) rfl rfl rfl ?_
    refine zf_bi (v := 10) (pc' := 42) dX2_deeper_40 rfl rfl ?_
    refine zf_icmp_ge (tgt := 110) (pc' := 45) dX2_deeper_42 rfl rfl (fun g => ?_) (fun g => ?_)
    · replace h := h.1 g
      exact zf_lo (zq_15_110 (by omega) hR h) ⟨rfl, rfl, rfl, rfl, trivial⟩
    · replace h := h.2 g
      refine zf_ld (pc' := 46) (v := .inr (.inr (1, (25 + 2 * (Int32.toInt v1).toNat)))) dX2_deeper_45 rfl (fun _ _ _ => rfl) rfl rfl rfl ?_
      refine zf_ld (pc' := 48) (v := .inl v5) dX2_deeper_46 rfl (fun _ _ _ => rfl) rfl rfl rfl ?_
      refine zf_iv (k := 52) (pc' := 51) (r := []) dX2_deeper_48 rfl rfl rfl rfl hs3.1 hs3.2.1 rfl rfl (zr_52 (by omega) hs3 h) (zf_kB (fun b9 m10 h => ?_))
      refine zf_ib_eq (tgt := 104) (pc' := 54) dX2_deeper_51 rfl rfl (fun g => ?_) (fun g => ?_)
      · replace h := h.1 g
        refine zf_ii (y := (v5 + 1)) (L2 := [some (.inr (.inr (1, 21))), some (.inl v1), some (.inl v2), some (.inr (.inr (1, (25 + 2 * (Int32.toInt v1).toNat)))), some (.inl v4), some (.inl (v5 + 1)), none]) (pc' := 107) dX2_deeper_104 rfl rfl rfl rfl rfl ?_
        refine zf_goto (tgt := 38) dX2_deeper_107 rfl ?_
        exact zf_lo (ih _ _ _ h) ⟨rfl, rfl, rfl, rfl, rfl, rfl, trivial⟩
      · replace h := h.2 g
        refine zf_ic (v := 0) (pc' := 55) dX2_deeper_54 rfl rfl ?_
        refine zf_st (pc' := 57) (L2 := [some (.inr (.inr (1, 21))), some (.inl v1), some (.inl v2), some (.inr (.inr (1, (25 + 2 * (Int32.toInt v1).toNat)))), some (.inl 0), some (.inl v5), none]) dX2_deeper_55 rfl (fun _ _ _ => rfl) rfl rfl rfl rfl rfl rfl ?_
        refine zf_ld (pc' := 58) (v := .inr (.inr (1, 21))) dX2_deeper_57 rfl (fun _ _ _ => rfl) rfl rfl rfl ?_
        refine zf_gfr (pc' := 61) (b := 23) dX2_deeper_58 rfl rfl (by decide) rfl rfl ?_
        refine zf_ld (pc' := 62) (v := .inl v1) dX2_deeper_61 rfl (fun _ _ _ => rfl) rfl rfl rfl ?_
        refine zf_ld (pc' := 64) (v := .inl v5) dX2_deeper_62 rfl (fun _ _ _ => rfl) rfl rfl rfl ?_
        refine zf_ias (pc' := 65) dX2_deeper_64 rfl (⟨by decide, rfl⟩ : zf_arr 23 4).1 (⟨by decide, rfl⟩ : zf_arr 23 4).2 h.1 rfl (fun m11 e12 => ?_)
        replace h := h.2 m11 e12
        refine zf_ld (pc' := 66) (v := .inr (.inr (1, 21))) dX2_deeper_65 rfl (fun _ _ _ => rfl) rfl rfl rfl ?_
        refine zf_gfr (pc' := 69) (b := 22) dX2_deeper_66 rfl rfl (by decide) rfl rfl ?_
        refine zf_ld (pc' := 70) (v := .inl v1) dX2_deeper_69 rfl (fun _ _ _ => rfl) rfl rfl rfl ?_
        refine zf_ic (v := 1) (pc' := 71) dX2_deeper_70 rfl rfl ?_
        refine zf_in (pc' := 72) (S' := [.inl (v1 + 1), .inr (.inr (1, 22))]) dX2_deeper_71 rfl (fun _ _ _ => rfl) ?_
        refine zf_aal (b := 25) (n := 5) (pc' := 73) dX2_deeper_72 rfl (by decide) rfl (by decide) rfl h.1 zf_row22 ?_
        have hb13 := h.1
        replace h := h.2
        have hx14 : zf_walk (25 + 2 * (Int32.toInt (v1 + 1)).toNat) 3 (26 + 2 * (Int32.toInt (v1 + 1)).toNat) := zf_walks (by omega)
        refine zf_st (pc' := 75) (L2 := [some (.inr (.inr (1, 21))), some (.inl v1), some (.inl v2), some (.inr (.inr (1, (25 + 2 * (Int32.toInt v1).toNat)))), some (.inl 0), some (.inl v5), some (.inr (.inr (1, (25 + 2 * (Int32.toInt (v1 + 1)).toNat))))]) dX2_deeper_73 rfl (fun _ _ _ => rfl) rfl rfl rfl rfl rfl rfl ?_
        refine zf_ld (pc' := 77) (v := .inr (.inr (1, (25 + 2 * (Int32.toInt (v1 + 1)).toNat)))) dX2_deeper_75 rfl (fun _ _ _ => rfl) rfl rfl rfl ?_
        refine zf_ld (pc' := 78) (v := .inr (.inr (1, (25 + 2 * (Int32.toInt v1).toNat)))) dX2_deeper_77 rfl (fun _ _ _ => rfl) rfl rfl rfl ?_
        refine zf_iv (k := 43) (pc' := 81) (r := []) dX2_deeper_78 rfl rfl rfl rfl hx14.1 hx14.2.1 rfl rfl (zr_43 (by omega) hx14 hs3 h) (zf_kO (fun m16 h => ?_))
        refine zf_ld (pc' := 83) (v := .inr (.inr (1, (25 + 2 * (Int32.toInt (v1 + 1)).toNat)))) dX2_deeper_81 rfl (fun _ _ _ => rfl) rfl rfl rfl ?_
        refine zf_ld (pc' := 85) (v := .inl v5) dX2_deeper_83 rfl (fun _ _ _ => rfl) rfl rfl rfl ?_
        refine zf_iv (k := 56) (pc' := 88) (r := []) dX2_deeper_85 rfl rfl rfl rfl hx14.1 hx14.2.1 rfl rfl (zr_56 (by omega) hx14 h) (zf_kO (fun m18 h => ?_))
        refine zf_ld (pc' := 89) (v := .inr (.inr (1, 21))) dX2_deeper_88 rfl (fun _ _ _ => rfl) rfl rfl rfl ?_
        refine zf_ld (pc' := 90) (v := .inl v1) dX2_deeper_89 rfl (fun _ _ _ => rfl) rfl rfl rfl ?_
        refine zf_ic (v := 1) (pc' := 91) dX2_deeper_90 rfl rfl ?_
        refine zf_in (pc' := 92) (S' := [.inl (v1 + 1), .inr (.inr (1, 21))]) dX2_deeper_91 rfl (fun _ _ _ => rfl) ?_
        refine zf_ld (pc' := 93) (v := .inl v2) dX2_deeper_92 rfl (fun _ _ _ => rfl) rfl rfl rfl ?_
        refine zf_ld (pc' := 95) (v := .inr (.inr (1, (25 + 2 * (Int32.toInt (v1 + 1)).toNat)))) dX2_deeper_93 rfl (fun _ _ _ => rfl) rfl rfl rfl ?_
        refine zf_iv (k := 49) (pc' := 98) (r := [.inl v2, .inl (v1 + 1), .inr (.inr (1, 21))]) dX2_deeper_95 rfl rfl rfl rfl hx14.1 hx14.2.1 rfl rfl (zr_49 (by omega) hx14 h) (zf_kI (fun x19 m20 h => ?_))
        refine zf_max (pc' := 101) dX2_deeper_98 rfl rfl rfl ?_
        refine zf_iv (k := 15) (pc' := 104) (r := []) dX2_deeper_101 rfl rfl rfl rfl (by decide) rfl rfl rfl (hR _ _ _ _ h) (zf_kO (fun m22 h => ?_))
        refine zf_ii (y := (v5 + 1)) (L2 := [some (.inr (.inr (1, 21))), some (.inl v1), some (.inl v2), some (.inr (.inr (1, (25 + 2 * (Int32.toInt v1).toNat)))), some (.inl 0), some (.inl (v5 + 1)), some (.inr (.inr (1, (25 + 2 * (Int32.toInt (v1 + 1)).toNat))))]) (pc' := 107) dX2_deeper_104 rfl rfl rfl rfl rfl ?_
        refine zf_goto (tgt := 38) dX2_deeper_107 rfl ?_
        exact zf_lo (ih _ _ _ h) ⟨rfl, rfl, rfl, rfl, rfl, rfl, trivial⟩
def wb_15 (R : Int32 → Int32 → zf_Me → (zf_Me → Prop) → Prop) (v1 : Int32) (v2 : Int32) (m : zf_Me) (Q : zf_Me → Prop) : Prop := wp_16 v1 v2 m (fun b1 m2 => ((b1 = false → ((0 ≤ (Int32.toInt v1) ∧ (Int32.toInt v1) < 5) ∧ ((v1.toInt ≥ ((m2.1 21 3)).toInt → wq_15_110 R v1 v2 1 m2 Q) ∧ (v1.toInt < ((m2.1 21 3)).toInt → wp_47 (25 + 2 * (Int32.toInt v1).toNat) 3 (26 + 2 * (Int32.toInt v1).toNat) m2 (fun b7 m8 => ((b7 = true → wq_15_110 R v1 v2 1 m8 Q) ∧ (b7 = false → (∃ n38, wq_15_38 R v1 v2 Q n38 1 0 m8)))))))) ∧ (b1 = true → Q m2)))
theorem zb_15 {e : Nat} (hd : 3 ≤ e) {R : Int32 → Int32 → zf_Me → (zf_Me → Prop) → Prop} (hR : ∀ (v1 : Int32) (v2 : Int32) (m : zf_Me) (Q : zf_Me → Prop), R v1 v2 m Q → zf_M e 15 [.inr (.inr (1, 21)), .inl v1, .inl v2] m (zf_O Q)) {v1 : Int32} {v2 : Int32} {Q : zf_Me → Prop} {m : zf_Me} (h : wb_15 R v1 v2 m Q) : zf_M (e + 1) 15 [.inr (.inr (1, 21)), .inl v1, .inl v2] m (zf_O Q) := by
  unfold wb_15 at h
  refine zf_M_of (Nat.le_of_ble_eq_true rfl) zm_15 (L := [some (.inr (.inr (1, 21))), some (.inl v1), some (.inl v2), none, none, none, none]) rfl ?_
  refine zf_ld (pc' := 1) (v := .inr (.inr (1, 21))) dX2_deeper_0 rfl (fun _ _ _ => rfl) rfl rfl rfl ?_
  refine zf_ld (pc' := 2) (v := .inl v1) dX2_deeper_1 rfl (fun _ _ _ => rfl) rfl rfl rfl ?_
  refine zf_ld (pc' := 3) (v := .inl v2) dX2_deeper_2 rfl (fun _ _ _ => rfl) rfl rfl rfl ?_
  refine zf_iv (k := 16) (pc' := 6) (r := []) dX2_deeper_3 rfl rfl rfl rfl (by decide) rfl rfl rfl (zr_16 (by omega) h) (zf_kB (fun b1 m2 h => ?_))
  refine zf_ib_eq (tgt := 10) (pc' := 9) dX2_deeper_6 rfl rfl (fun g => ?_) (fun g => ?_)
  · replace h := h.1 g
    refine zf_ld (pc' := 11) (v := .inr (.inr (1, 21))) dX2_deeper_10 rfl (fun _ _ _ => rfl) rfl rfl rfl ?_
    refine zf_gfr (pc' := 14) (b := 22) dX2_deeper_11 rfl rfl (by decide) rfl rfl ?_
    refine zf_ld (pc' := 15) (v := .inl v1) dX2_deeper_14 rfl (fun _ _ _ => rfl) rfl rfl rfl ?_
    refine zf_aal (b := 25) (n := 5) (pc' := 16) dX2_deeper_15 rfl (by decide) rfl (by decide) rfl h.1 zf_row22 ?_
    have hb3 := h.1
    replace h := h.2
    have hx4 : zf_walk (25 + 2 * (Int32.toInt v1).toNat) 3 (26 + 2 * (Int32.toInt v1).toNat) := zf_walks (by omega)
    refine zf_st (pc' := 17) (L2 := [some (.inr (.inr (1, 21))), some (.inl v1), some (.inl v2), some (.inr (.inr (1, (25 + 2 * (Int32.toInt v1).toNat)))), none, none, none]) dX2_deeper_16 rfl (fun _ _ _ => rfl) rfl rfl rfl rfl rfl rfl ?_
    refine zf_ic (v := 1) (pc' := 18) dX2_deeper_17 rfl rfl ?_
    refine zf_st (pc' := 20) (L2 := [some (.inr (.inr (1, 21))), some (.inl v1), some (.inl v2), some (.inr (.inr (1, (25 + 2 * (Int32.toInt v1).toNat)))), some (.inl 1), none, none]) dX2_deeper_18 rfl (fun _ _ _ => rfl) rfl rfl rfl rfl rfl rfl ?_
    refine zf_ld (pc' := 21) (v := .inl v1) dX2_deeper_20 rfl (fun _ _ _ => rfl) rfl rfl rfl ?_
    refine zf_ld (pc' := 22) (v := .inr (.inr (1, 21))) dX2_deeper_21 rfl (fun _ _ _ => rfl) rfl rfl rfl ?_
    refine zf_gfi (pc' := 25) dX2_deeper_22 rfl rfl (by decide) rfl rfl ?_
    refine zf_icmp_ge (tgt := 110) (pc' := 28) dX2_deeper_25 rfl rfl (fun g => ?_) (fun g => ?_)
    · replace h := h.1 g
      exact zf_lo (zq_15_110 (by omega) hR h) ⟨rfl, rfl, rfl, rfl, trivial⟩
    · replace h := h.2 g
      refine zf_ld (pc' := 29) (v := .inr (.inr (1, (25 + 2 * (Int32.toInt v1).toNat)))) dX2_deeper_28 rfl (fun _ _ _ => rfl) rfl rfl rfl ?_
      refine zf_iv (k := 47) (pc' := 32) (r := []) dX2_deeper_29 rfl rfl rfl rfl hx4.1 hx4.2.1 rfl rfl (zr_47 (by omega) hx4 h) (zf_kB (fun b7 m8 h => ?_))
      refine zf_ib_ne (tgt := 110) (pc' := 35) dX2_deeper_32 rfl rfl (fun g => ?_) (fun g => ?_)
      · replace h := h.1 g
        exact zf_lo (zq_15_110 (by omega) hR h) ⟨rfl, rfl, rfl, rfl, trivial⟩
      · replace h := h.2 g
        refine zf_ic (v := 0) (pc' := 36) dX2_deeper_35 rfl rfl ?_
        refine zf_st (pc' := 38) (L2 := [some (.inr (.inr (1, 21))), some (.inl v1), some (.inl v2), some (.inr (.inr (1, (25 + 2 * (Int32.toInt v1).toNat)))), some (.inl 1), some (.inl 0), none]) dX2_deeper_36 rfl (fun _ _ _ => rfl) rfl rfl rfl rfl rfl rfl ?_
        obtain ⟨n38, h⟩ := h
        exact zf_lo (zq_15_38 (by omega) hR hx4 n38 _ _ _ h) ⟨rfl, rfl, rfl, rfl, rfl, rfl, trivial⟩
  · replace h := h.2 g
    exact zf_rv dX2_deeper_9 rfl h
def wp_15 : Nat → Int32 → Int32 → zf_Me → (zf_Me → Prop) → Prop
  | 0, _, _, _, _ => False
  | n + 1, v1, v2, m, Q => wb_15 (wp_15 n) v1 v2 m Q
theorem zr_15 : ∀ (n : Nat) {d : Nat} (_ : 1 * n + 6 ≤ d) {v1 : Int32} {v2 : Int32} {m : zf_Me} {Q : zf_Me → Prop} (_ : wp_15 n v1 v2 m Q), zf_M d 15 [.inr (.inr (1, 21)), .inl v1, .inl v2] m (zf_O Q) := by
  intro n
  induction n with
  | zero => intro d _ _ _ m Q h; exact h.elim
  | succ n ih =>
    intro d hd _ _ m Q h
    obtain ⟨e, rfl⟩ : ∃ z, d = z + 1 := ⟨d - 1, by omega⟩
    exact zb_15 (e := e) (R := wp_15 n) (by omega) (fun _ _ m Q h => ih (by omega) h) h
def zt_14 : zx_MT := (2, yX2_look, cX2_look, 3, none, 2, 0)
theorem zm_14 : zx_m 14 = zt_14 := rfl
theorem dX2_look_r0 : zdcP cX2_look 0 [(.aload_n 0, 1), (.iload_n 2, 1), (.iconst 4, 1), (.invokestatic 43, 3), (.putfield 24, 3), (.aload_n 0, 1), (.iconst (-1), 1), (.putfield 31, 3), (.aload_n 0, 1), (.getfield 13, 3), (.iconst 0, 1), (.aaload, 1), (.aload_n 1, 1), (.invokevirtual 49, 3), (.aload_n 0, 1), (.iconst 0, 1)] := zdcA_ok (by decide +kernel)
theorem dX2_look_0 : decode cX2_look 0 = .ok (.aload_n 0, 1) := dX2_look_r0.1
theorem dX2_look_1 : decode cX2_look 1 = .ok (.iload_n 2, 1) := dX2_look_r0.2.1
theorem dX2_look_2 : decode cX2_look 2 = .ok (.iconst 4, 1) := dX2_look_r0.2.2.1
theorem dX2_look_3 : decode cX2_look 3 = .ok (.invokestatic 43, 3) := dX2_look_r0.2.2.2.1
theorem dX2_look_6 : decode cX2_look 6 = .ok (.putfield 24, 3) := dX2_look_r0.2.2.2.2.1
theorem dX2_look_9 : decode cX2_look 9 = .ok (.aload_n 0, 1) := dX2_look_r0.2.2.2.2.2.1
theorem dX2_look_10 : decode cX2_look 10 = .ok (.iconst (-1), 1) := dX2_look_r0.2.2.2.2.2.2.1
theorem dX2_look_11 : decode cX2_look 11 = .ok (.putfield 31, 3) := dX2_look_r0.2.2.2.2.2.2.2.1
theorem dX2_look_14 : decode cX2_look 14 = .ok (.aload_n 0, 1) := dX2_look_r0.2.2.2.2.2.2.2.2.1
theorem dX2_look_15 : decode cX2_look 15 = .ok (.getfield 13, 3) := dX2_look_r0.2.2.2.2.2.2.2.2.2.1
theorem dX2_look_18 : decode cX2_look 18 = .ok (.iconst 0, 1) := dX2_look_r0.2.2.2.2.2.2.2.2.2.2.1
theorem dX2_look_19 : decode cX2_look 19 = .ok (.aaload, 1) := dX2_look_r0.2.2.2.2.2.2.2.2.2.2.2.1
theorem dX2_look_20 : decode cX2_look 20 = .ok (.aload_n 1, 1) := dX2_look_r0.2.2.2.2.2.2.2.2.2.2.2.2.1
theorem dX2_look_21 : decode cX2_look 21 = .ok (.invokevirtual 49, 3) := dX2_look_r0.2.2.2.2.2.2.2.2.2.2.2.2.2.1
theorem dX2_look_24 : decode cX2_look 24 = .ok (.aload_n 0, 1) := dX2_look_r0.2.2.2.2.2.2.2.2.2.2.2.2.2.2.1
theorem dX2_look_25 : decode cX2_look 25 = .ok (.iconst 0, 1) := dX2_look_r0.2.2.2.2.2.2.2.2.2.2.2.2.2.2.2.1
theorem dX2_look_r26 : zdcP cX2_look 26 [(.aload_n 1, 1), (.invokevirtual 53, 3), (.invokevirtual 57, 3), (.return_, 1)] := zdcA_ok (by decide +kernel)
theorem dX2_look_26 : decode cX2_look 26 = .ok (.aload_n 1, 1) := dX2_look_r26.1
theorem dX2_look_27 : decode cX2_look 27 = .ok (.invokevirtual 53, 3) := dX2_look_r26.2.1
theorem dX2_look_30 : decode cX2_look 30 = .ok (.invokevirtual 57, 3) := dX2_look_r26.2.2.1
theorem dX2_look_33 : decode cX2_look 33 = .ok (.return_, 1) := dX2_look_r26.2.2.2.1
def wp_14 (w1 : Nat) (y1 : Nat) (r1 : Nat) (v2 : Int32) (m : zf_Me) (Q : zf_Me → Prop) : Prop := (∀ m1, m1 = zf_u m 21 3 (if 4 < v2 then 4 else v2) → (∀ m3, m3 = zf_u m1 21 5 (-1) → ((0 ≤ (Int32.toInt 0) ∧ (Int32.toInt 0) < 5) ∧ wp_43 (25 + 2 * (Int32.toInt 0).toNat) 3 (26 + 2 * (Int32.toInt 0).toNat) w1 y1 r1 m3 (fun m8 => wp_49 w1 y1 r1 m8 (fun x9 m10 => (∃ nz11, nz11 ≤ 6 ∧ wp_15 nz11 0 x9 m10 (fun m12 => Q m12)))))))
theorem zr_14 {d : Nat} (hd : 13 ≤ d) {w1 : Nat} {y1 : Nat} {r1 : Nat} (hp1 : zf_walk w1 y1 r1) {v2 : Int32} {Q : zf_Me → Prop} {m : zf_Me} (h : wp_14 w1 y1 r1 v2 m Q) : zf_M d 14 [.inr (.inr (1, 21)), .inr (.inr (1, w1)), .inl v2] m (zf_O Q) := by
  obtain ⟨e, rfl⟩ : ∃ z, d = z + 1 := ⟨d - 1, by omega⟩
  unfold wp_14 at h
  refine zf_M_of (Nat.le_of_ble_eq_true rfl) zm_14 (L := [some (.inr (.inr (1, 21))), some (.inr (.inr (1, w1))), some (.inl v2)]) rfl ?_
  refine zf_ld (pc' := 1) (v := .inr (.inr (1, 21))) dX2_look_0 rfl (fun _ _ _ => rfl) rfl rfl rfl ?_
  refine zf_ld (pc' := 2) (v := .inl v2) dX2_look_1 rfl (fun _ _ _ => rfl) rfl rfl rfl ?_
  refine zf_ic (v := 4) (pc' := 3) dX2_look_2 rfl rfl ?_
  refine zf_min (pc' := 6) dX2_look_3 rfl rfl rfl ?_
  refine zf_pf (pc' := 9) dX2_look_6 rfl rfl (by decide) rfl rfl rfl (fun m1 e2 => ?_)
  replace h := h m1 e2
  refine zf_ld (pc' := 10) (v := .inr (.inr (1, 21))) dX2_look_9 rfl (fun _ _ _ => rfl) rfl rfl rfl ?_
  refine zf_ic (v := (-1)) (pc' := 11) dX2_look_10 rfl rfl ?_
  refine zf_pf (pc' := 14) dX2_look_11 rfl rfl (by decide) rfl rfl rfl (fun m3 e4 => ?_)
  replace h := h m3 e4
  refine zf_ld (pc' := 15) (v := .inr (.inr (1, 21))) dX2_look_14 rfl (fun _ _ _ => rfl) rfl rfl rfl ?_
  refine zf_gfr (pc' := 18) (b := 22) dX2_look_15 rfl rfl (by decide) rfl rfl ?_
  refine zf_ic (v := 0) (pc' := 19) dX2_look_18 rfl rfl ?_
  refine zf_aal (b := 25) (n := 5) (pc' := 20) dX2_look_19 rfl (by decide) rfl (by decide) rfl h.1 zf_row22 ?_
  have hb5 := h.1
  replace h := h.2
  have hx6 : zf_walk (25 + 2 * (Int32.toInt 0).toNat) 3 (26 + 2 * (Int32.toInt 0).toNat) := zf_walks (by omega)
  refine zf_ld (pc' := 21) (v := .inr (.inr (1, w1))) dX2_look_20 rfl (fun _ _ _ => rfl) rfl rfl rfl ?_
  refine zf_iv (k := 43) (pc' := 24) (r := []) dX2_look_21 rfl rfl rfl rfl hx6.1 hx6.2.1 rfl rfl (zr_43 (by omega) hx6 hp1 h) (zf_kO (fun m8 h => ?_))
  refine zf_ld (pc' := 25) (v := .inr (.inr (1, 21))) dX2_look_24 rfl (fun _ _ _ => rfl) rfl rfl rfl ?_
  refine zf_ic (v := 0) (pc' := 26) dX2_look_25 rfl rfl ?_
  refine zf_ld (pc' := 27) (v := .inr (.inr (1, w1))) dX2_look_26 rfl (fun _ _ _ => rfl) rfl rfl rfl ?_
  refine zf_iv (k := 49) (pc' := 30) (r := [.inl 0, .inr (.inr (1, 21))]) dX2_look_27 rfl rfl rfl rfl hp1.1 hp1.2.1 rfl rfl (zr_49 (by omega) hp1 h) (zf_kI (fun x9 m10 h => ?_))
  obtain ⟨nz11, hnz11, h⟩ := h
  refine zf_iv (k := 15) (pc' := 33) (r := []) dX2_look_30 rfl rfl rfl rfl (by decide) rfl rfl rfl (zr_15 nz11 (by omega) h) (zf_kO (fun m12 h => ?_))
  exact zf_rv dX2_look_33 rfl h
def zt_19 : zx_MT := (3, yX3_holdsRow, cX3_holdsRow, 1, (some FieldType.boolean), 0, 0)
theorem zm_19 : zx_m 19 = zt_19 := rfl
theorem dX3_holdsRow_r0 : zdcP cX3_holdsRow 0 [(.aload_n 0, 1), (.getfield 15, 3), (.bipush 100, 2), (.if_icmp .lt 7, 3), (.iconst 1, 1), (.goto 4, 3), (.iconst 0, 1), (.ireturn, 1)] := zdcA_ok (by decide +kernel)
theorem dX3_holdsRow_0 : decode cX3_holdsRow 0 = .ok (.aload_n 0, 1) := dX3_holdsRow_r0.1
theorem dX3_holdsRow_1 : decode cX3_holdsRow 1 = .ok (.getfield 15, 3) := dX3_holdsRow_r0.2.1
theorem dX3_holdsRow_4 : decode cX3_holdsRow 4 = .ok (.bipush 100, 2) := dX3_holdsRow_r0.2.2.1
theorem dX3_holdsRow_6 : decode cX3_holdsRow 6 = .ok (.if_icmp .lt 7, 3) := dX3_holdsRow_r0.2.2.2.1
theorem dX3_holdsRow_9 : decode cX3_holdsRow 9 = .ok (.iconst 1, 1) := dX3_holdsRow_r0.2.2.2.2.1
theorem dX3_holdsRow_10 : decode cX3_holdsRow 10 = .ok (.goto 4, 3) := dX3_holdsRow_r0.2.2.2.2.2.1
theorem dX3_holdsRow_13 : decode cX3_holdsRow 13 = .ok (.iconst 0, 1) := dX3_holdsRow_r0.2.2.2.2.2.2.1
theorem dX3_holdsRow_14 : decode cX3_holdsRow 14 = .ok (.ireturn, 1) := dX3_holdsRow_r0.2.2.2.2.2.2.2.1
def wp_19 (c0 : Nat) (r0 : Nat) (m : zf_Me) (Q : Bool → zf_Me → Prop) : Prop := ((((m.1 c0 1)).toInt < 100 → Q false m) ∧ (((m.1 c0 1)).toInt ≥ 100 → Q true m))
theorem zr_19 {d : Nat} (hd : 0 ≤ d) {c0 : Nat} {r0 : Nat} (hp0 : zf_shelf c0 r0) {Q : Bool → zf_Me → Prop} {m : zf_Me} (h : wp_19 c0 r0 m Q) : zf_M d 19 [.inr (.inr (1, c0))] m (zf_B Q) := by
  unfold wp_19 at h
  refine zf_M_of (Nat.le_of_ble_eq_true rfl) zm_19 (L := [some (.inr (.inr (1, c0)))]) rfl ?_
  refine zf_ld (pc' := 1) (v := .inr (.inr (1, c0))) dX3_holdsRow_0 rfl (fun _ _ _ => rfl) rfl rfl rfl ?_
  refine zf_gfi (pc' := 4) dX3_holdsRow_1 rfl rfl hp0.1 hp0.2.1 rfl ?_
  refine zf_bi (v := 100) (pc' := 6) dX3_holdsRow_4 rfl rfl ?_
  refine zf_icmp_lt (tgt := 13) (pc' := 9) dX3_holdsRow_6 rfl rfl (fun g => ?_) (fun g => ?_)
  · replace h := h.1 g
    refine zf_ic (v := 0) (pc' := 14) dX3_holdsRow_13 rfl rfl ?_
    exact zf_rb (b := false) dX3_holdsRow_14 rfl h
  · replace h := h.2 g
    refine zf_ic (v := 1) (pc' := 10) dX3_holdsRow_9 rfl rfl ?_
    refine zf_goto (tgt := 14) dX3_holdsRow_10 rfl ?_
    exact zf_rb (b := true) dX3_holdsRow_14 rfl h
def zt_20 : zx_MT := (3, yX3_hasElement, cX3_hasElement, 2, (some FieldType.boolean), 1, 0)
theorem zm_20 : zx_m 20 = zt_20 := rfl
theorem dX3_hasElement_r0 : zdcP cX3_hasElement 0 [(.iload_n 1, 1), (.ifCond .lt 15, 3), (.iload_n 1, 1), (.aload_n 0, 1), (.getfield 19, 3), (.if_icmp .ge 7, 3), (.iconst 1, 1), (.goto 4, 3), (.iconst 0, 1), (.ireturn, 1)] := zdcA_ok (by decide +kernel)
theorem dX3_hasElement_0 : decode cX3_hasElement 0 = .ok (.iload_n 1, 1) := dX3_hasElement_r0.1
theorem dX3_hasElement_1 : decode cX3_hasElement 1 = .ok (.ifCond .lt 15, 3) := dX3_hasElement_r0.2.1
theorem dX3_hasElement_4 : decode cX3_hasElement 4 = .ok (.iload_n 1, 1) := dX3_hasElement_r0.2.2.1
theorem dX3_hasElement_5 : decode cX3_hasElement 5 = .ok (.aload_n 0, 1) := dX3_hasElement_r0.2.2.2.1
theorem dX3_hasElement_6 : decode cX3_hasElement 6 = .ok (.getfield 19, 3) := dX3_hasElement_r0.2.2.2.2.1
theorem dX3_hasElement_9 : decode cX3_hasElement 9 = .ok (.if_icmp .ge 7, 3) := dX3_hasElement_r0.2.2.2.2.2.1
theorem dX3_hasElement_12 : decode cX3_hasElement 12 = .ok (.iconst 1, 1) := dX3_hasElement_r0.2.2.2.2.2.2.1
theorem dX3_hasElement_13 : decode cX3_hasElement 13 = .ok (.goto 4, 3) := dX3_hasElement_r0.2.2.2.2.2.2.2.1
theorem dX3_hasElement_16 : decode cX3_hasElement 16 = .ok (.iconst 0, 1) := dX3_hasElement_r0.2.2.2.2.2.2.2.2.1
theorem dX3_hasElement_17 : decode cX3_hasElement 17 = .ok (.ireturn, 1) := dX3_hasElement_r0.2.2.2.2.2.2.2.2.2.1
def wp_20 (c0 : Nat) (r0 : Nat) (v1 : Int32) (m : zf_Me) (Q : Bool → zf_Me → Prop) : Prop := ((v1.toInt < 0 → Q false m) ∧ (v1.toInt ≥ 0 → ((v1.toInt ≥ ((m.1 c0 2)).toInt → Q false m) ∧ (v1.toInt < ((m.1 c0 2)).toInt → Q true m))))
theorem zr_20 {d : Nat} (hd : 0 ≤ d) {c0 : Nat} {r0 : Nat} (hp0 : zf_shelf c0 r0) {v1 : Int32} {Q : Bool → zf_Me → Prop} {m : zf_Me} (h : wp_20 c0 r0 v1 m Q) : zf_M d 20 [.inr (.inr (1, c0)), .inl v1] m (zf_B Q) := by
  unfold wp_20 at h
  refine zf_M_of (Nat.le_of_ble_eq_true rfl) zm_20 (L := [some (.inr (.inr (1, c0))), some (.inl v1)]) rfl ?_
  refine zf_ld (pc' := 1) (v := .inl v1) dX3_hasElement_0 rfl (fun _ _ _ => rfl) rfl rfl rfl ?_
  refine zf_if_lt (tgt := 16) (pc' := 4) dX3_hasElement_1 rfl rfl (fun g => ?_) (fun g => ?_)
  · replace h := h.1 g
    refine zf_ic (v := 0) (pc' := 17) dX3_hasElement_16 rfl rfl ?_
    exact zf_rb (b := false) dX3_hasElement_17 rfl h
  · replace h := h.2 g
    refine zf_ld (pc' := 5) (v := .inl v1) dX3_hasElement_4 rfl (fun _ _ _ => rfl) rfl rfl rfl ?_
    refine zf_ld (pc' := 6) (v := .inr (.inr (1, c0))) dX3_hasElement_5 rfl (fun _ _ _ => rfl) rfl rfl rfl ?_
    refine zf_gfi (pc' := 9) dX3_hasElement_6 rfl rfl hp0.1 hp0.2.1 rfl ?_
    refine zf_icmp_ge (tgt := 16) (pc' := 12) dX3_hasElement_9 rfl rfl (fun g => ?_) (fun g => ?_)
    · replace h := h.1 g
      refine zf_ic (v := 0) (pc' := 17) dX3_hasElement_16 rfl rfl ?_
      exact zf_rb (b := false) dX3_hasElement_17 rfl h
    · replace h := h.2 g
      refine zf_ic (v := 1) (pc' := 13) dX3_hasElement_12 rfl rfl ?_
      refine zf_goto (tgt := 17) dX3_hasElement_13 rfl ?_
      exact zf_rb (b := true) dX3_hasElement_17 rfl h
def zt_21 : zx_MT := (3, yX3_hasElements, cX3_hasElements, 3, (some FieldType.boolean), 2, 0)
theorem zm_21 : zx_m 21 = zt_21 := rfl
theorem dX3_hasElements_r0 : zdcP cX3_hasElements 0 [(.iload_n 1, 1), (.ifCond .lt 29, 3), (.iload_n 2, 1), (.ifCond .lt 25, 3), (.iload_n 2, 1), (.aload_n 0, 1), (.getfield 19, 3), (.if_icmp .gt 17, 3), (.iload_n 1, 1), (.aload_n 0, 1), (.getfield 19, 3), (.iload_n 2, 1), (.isub, 1), (.if_icmp .gt 7, 3), (.iconst 1, 1), (.goto 4, 3)] := zdcA_ok (by decide +kernel)
theorem dX3_hasElements_0 : decode cX3_hasElements 0 = .ok (.iload_n 1, 1) := dX3_hasElements_r0.1
theorem dX3_hasElements_1 : decode cX3_hasElements 1 = .ok (.ifCond .lt 29, 3) := dX3_hasElements_r0.2.1
theorem dX3_hasElements_4 : decode cX3_hasElements 4 = .ok (.iload_n 2, 1) := dX3_hasElements_r0.2.2.1
theorem dX3_hasElements_5 : decode cX3_hasElements 5 = .ok (.ifCond .lt 25, 3) := dX3_hasElements_r0.2.2.2.1
theorem dX3_hasElements_8 : decode cX3_hasElements 8 = .ok (.iload_n 2, 1) := dX3_hasElements_r0.2.2.2.2.1
theorem dX3_hasElements_9 : decode cX3_hasElements 9 = .ok (.aload_n 0, 1) := dX3_hasElements_r0.2.2.2.2.2.1
theorem dX3_hasElements_10 : decode cX3_hasElements 10 = .ok (.getfield 19, 3) := dX3_hasElements_r0.2.2.2.2.2.2.1
theorem dX3_hasElements_13 : decode cX3_hasElements 13 = .ok (.if_icmp .gt 17, 3) := dX3_hasElements_r0.2.2.2.2.2.2.2.1
theorem dX3_hasElements_16 : decode cX3_hasElements 16 = .ok (.iload_n 1, 1) := dX3_hasElements_r0.2.2.2.2.2.2.2.2.1
theorem dX3_hasElements_17 : decode cX3_hasElements 17 = .ok (.aload_n 0, 1) := dX3_hasElements_r0.2.2.2.2.2.2.2.2.2.1
theorem dX3_hasElements_18 : decode cX3_hasElements 18 = .ok (.getfield 19, 3) := dX3_hasElements_r0.2.2.2.2.2.2.2.2.2.2.1
theorem dX3_hasElements_21 : decode cX3_hasElements 21 = .ok (.iload_n 2, 1) := dX3_hasElements_r0.2.2.2.2.2.2.2.2.2.2.2.1
theorem dX3_hasElements_22 : decode cX3_hasElements 22 = .ok (.isub, 1) := dX3_hasElements_r0.2.2.2.2.2.2.2.2.2.2.2.2.1
theorem dX3_hasElements_23 : decode cX3_hasElements 23 = .ok (.if_icmp .gt 7, 3) := dX3_hasElements_r0.2.2.2.2.2.2.2.2.2.2.2.2.2.1
theorem dX3_hasElements_26 : decode cX3_hasElements 26 = .ok (.iconst 1, 1) := dX3_hasElements_r0.2.2.2.2.2.2.2.2.2.2.2.2.2.2.1
theorem dX3_hasElements_27 : decode cX3_hasElements 27 = .ok (.goto 4, 3) := dX3_hasElements_r0.2.2.2.2.2.2.2.2.2.2.2.2.2.2.2.1
theorem dX3_hasElements_r30 : zdcP cX3_hasElements 30 [(.iconst 0, 1), (.ireturn, 1)] := zdcA_ok (by decide +kernel)
theorem dX3_hasElements_30 : decode cX3_hasElements 30 = .ok (.iconst 0, 1) := dX3_hasElements_r30.1
theorem dX3_hasElements_31 : decode cX3_hasElements 31 = .ok (.ireturn, 1) := dX3_hasElements_r30.2.1
def wp_21 (c0 : Nat) (r0 : Nat) (v1 : Int32) (v2 : Int32) (m : zf_Me) (Q : Bool → zf_Me → Prop) : Prop := ((v1.toInt < 0 → Q false m) ∧ (v1.toInt ≥ 0 → ((v2.toInt < 0 → Q false m) ∧ (v2.toInt ≥ 0 → ((v2.toInt > ((m.1 c0 2)).toInt → Q false m) ∧ (v2.toInt ≤ ((m.1 c0 2)).toInt → ((v1.toInt > (((m.1 c0 2) - v2)).toInt → Q false m) ∧ (v1.toInt ≤ (((m.1 c0 2) - v2)).toInt → Q true m))))))))
theorem zr_21 {d : Nat} (hd : 0 ≤ d) {c0 : Nat} {r0 : Nat} (hp0 : zf_shelf c0 r0) {v1 : Int32} {v2 : Int32} {Q : Bool → zf_Me → Prop} {m : zf_Me} (h : wp_21 c0 r0 v1 v2 m Q) : zf_M d 21 [.inr (.inr (1, c0)), .inl v1, .inl v2] m (zf_B Q) := by
  unfold wp_21 at h
  refine zf_M_of (Nat.le_of_ble_eq_true rfl) zm_21 (L := [some (.inr (.inr (1, c0))), some (.inl v1), some (.inl v2)]) rfl ?_
  refine zf_ld (pc' := 1) (v := .inl v1) dX3_hasElements_0 rfl (fun _ _ _ => rfl) rfl rfl rfl ?_
  refine zf_if_lt (tgt := 30) (pc' := 4) dX3_hasElements_1 rfl rfl (fun g => ?_) (fun g => ?_)
  · replace h := h.1 g
    refine zf_ic (v := 0) (pc' := 31) dX3_hasElements_30 rfl rfl ?_
    exact zf_rb (b := false) dX3_hasElements_31 rfl h
  · replace h := h.2 g
    refine zf_ld (pc' := 5) (v := .inl v2) dX3_hasElements_4 rfl (fun _ _ _ => rfl) rfl rfl rfl ?_
    refine zf_if_lt (tgt := 30) (pc' := 8) dX3_hasElements_5 rfl rfl (fun g => ?_) (fun g => ?_)
    · replace h := h.1 g
      refine zf_ic (v := 0) (pc' := 31) dX3_hasElements_30 rfl rfl ?_
      exact zf_rb (b := false) dX3_hasElements_31 rfl h
    · replace h := h.2 g
      refine zf_ld (pc' := 9) (v := .inl v2) dX3_hasElements_8 rfl (fun _ _ _ => rfl) rfl rfl rfl ?_
      refine zf_ld (pc' := 10) (v := .inr (.inr (1, c0))) dX3_hasElements_9 rfl (fun _ _ _ => rfl) rfl rfl rfl ?_
      refine zf_gfi (pc' := 13) dX3_hasElements_10 rfl rfl hp0.1 hp0.2.1 rfl ?_
      refine zf_icmp_gt (tgt := 30) (pc' := 16) dX3_hasElements_13 rfl rfl (fun g => ?_) (fun g => ?_)
      · replace h := h.1 g
        refine zf_ic (v := 0) (pc' := 31) dX3_hasElements_30 rfl rfl ?_
        exact zf_rb (b := false) dX3_hasElements_31 rfl h
      · replace h := h.2 g
        refine zf_ld (pc' := 17) (v := .inl v1) dX3_hasElements_16 rfl (fun _ _ _ => rfl) rfl rfl rfl ?_
        refine zf_ld (pc' := 18) (v := .inr (.inr (1, c0))) dX3_hasElements_17 rfl (fun _ _ _ => rfl) rfl rfl rfl ?_
        refine zf_gfi (pc' := 21) dX3_hasElements_18 rfl rfl hp0.1 hp0.2.1 rfl ?_
        refine zf_ld (pc' := 22) (v := .inl v2) dX3_hasElements_21 rfl (fun _ _ _ => rfl) rfl rfl rfl ?_
        refine zf_in (pc' := 23) (S' := [.inl ((m.1 c0 2) - v2), .inl v1]) dX3_hasElements_22 rfl (fun _ _ _ => rfl) ?_
        refine zf_icmp_gt (tgt := 30) (pc' := 26) dX3_hasElements_23 rfl rfl (fun g => ?_) (fun g => ?_)
        · replace h := h.1 g
          refine zf_ic (v := 0) (pc' := 31) dX3_hasElements_30 rfl rfl ?_
          exact zf_rb (b := false) dX3_hasElements_31 rfl h
        · replace h := h.2 g
          refine zf_ic (v := 1) (pc' := 27) dX3_hasElements_26 rfl rfl ?_
          refine zf_goto (tgt := 31) dX3_hasElements_27 rfl ?_
          exact zf_rb (b := true) dX3_hasElements_31 rfl h
def zt_22 : zx_MT := (3, yX3_makeRow, cX3_makeRow, 4, none, 2, 0)
theorem zm_22 : zx_m 22 = zt_22 := rfl
theorem dX3_makeRow_r0 : zdcP cX3_makeRow 0 [(.aload_n 0, 1), (.bipush 100, 2), (.iload_n 1, 1), (.iadd, 1), (.putfield 15, 3), (.aload_n 0, 1), (.iload_n 2, 1), (.putfield 19, 3), (.iconst 0, 1), (.istore_n 3, 1), (.iload_n 3, 1), (.iload_n 2, 1), (.if_icmp .ge 16, 3), (.aload_n 0, 1), (.getfield 9, 3), (.iload_n 3, 1)] := zdcA_ok (by decide +kernel)
theorem dX3_makeRow_0 : decode cX3_makeRow 0 = .ok (.aload_n 0, 1) := dX3_makeRow_r0.1
theorem dX3_makeRow_1 : decode cX3_makeRow 1 = .ok (.bipush 100, 2) := dX3_makeRow_r0.2.1
theorem dX3_makeRow_3 : decode cX3_makeRow 3 = .ok (.iload_n 1, 1) := dX3_makeRow_r0.2.2.1
theorem dX3_makeRow_4 : decode cX3_makeRow 4 = .ok (.iadd, 1) := dX3_makeRow_r0.2.2.2.1
theorem dX3_makeRow_5 : decode cX3_makeRow 5 = .ok (.putfield 15, 3) := dX3_makeRow_r0.2.2.2.2.1
theorem dX3_makeRow_8 : decode cX3_makeRow 8 = .ok (.aload_n 0, 1) := dX3_makeRow_r0.2.2.2.2.2.1
theorem dX3_makeRow_9 : decode cX3_makeRow 9 = .ok (.iload_n 2, 1) := dX3_makeRow_r0.2.2.2.2.2.2.1
theorem dX3_makeRow_10 : decode cX3_makeRow 10 = .ok (.putfield 19, 3) := dX3_makeRow_r0.2.2.2.2.2.2.2.1
theorem dX3_makeRow_13 : decode cX3_makeRow 13 = .ok (.iconst 0, 1) := dX3_makeRow_r0.2.2.2.2.2.2.2.2.1
theorem dX3_makeRow_14 : decode cX3_makeRow 14 = .ok (.istore_n 3, 1) := dX3_makeRow_r0.2.2.2.2.2.2.2.2.2.1
theorem dX3_makeRow_15 : decode cX3_makeRow 15 = .ok (.iload_n 3, 1) := dX3_makeRow_r0.2.2.2.2.2.2.2.2.2.2.1
theorem dX3_makeRow_16 : decode cX3_makeRow 16 = .ok (.iload_n 2, 1) := dX3_makeRow_r0.2.2.2.2.2.2.2.2.2.2.2.1
theorem dX3_makeRow_17 : decode cX3_makeRow 17 = .ok (.if_icmp .ge 16, 3) := dX3_makeRow_r0.2.2.2.2.2.2.2.2.2.2.2.2.1
theorem dX3_makeRow_20 : decode cX3_makeRow 20 = .ok (.aload_n 0, 1) := dX3_makeRow_r0.2.2.2.2.2.2.2.2.2.2.2.2.2.1
theorem dX3_makeRow_21 : decode cX3_makeRow 21 = .ok (.getfield 9, 3) := dX3_makeRow_r0.2.2.2.2.2.2.2.2.2.2.2.2.2.2.1
theorem dX3_makeRow_24 : decode cX3_makeRow 24 = .ok (.iload_n 3, 1) := dX3_makeRow_r0.2.2.2.2.2.2.2.2.2.2.2.2.2.2.2.1
theorem dX3_makeRow_r25 : zdcP cX3_makeRow 25 [(.lconst 0, 1), (.lastore, 1), (.iinc 3 1, 3), (.goto (-15), 3), (.return_, 1)] := zdcA_ok (by decide +kernel)
theorem dX3_makeRow_25 : decode cX3_makeRow 25 = .ok (.lconst 0, 1) := dX3_makeRow_r25.1
theorem dX3_makeRow_26 : decode cX3_makeRow 26 = .ok (.lastore, 1) := dX3_makeRow_r25.2.1
theorem dX3_makeRow_27 : decode cX3_makeRow 27 = .ok (.iinc 3 1, 3) := dX3_makeRow_r25.2.2.1
theorem dX3_makeRow_30 : decode cX3_makeRow 30 = .ok (.goto (-15), 3) := dX3_makeRow_r25.2.2.2.1
theorem dX3_makeRow_33 : decode cX3_makeRow 33 = .ok (.return_, 1) := dX3_makeRow_r25.2.2.2.2.1
def wq_22_15 (c0 : Nat) (r0 : Nat) (v1 : Int32) (v2 : Int32) (Q : zf_Me → Prop) : Nat → Int32 → zf_Me → Prop
  | 0, _, _ => False
  | n + 1, v3, m => ((v3.toInt ≥ v2.toInt → Q m) ∧ (v3.toInt < v2.toInt → ((0 ≤ (Int32.toInt v3) ∧ (Int32.toInt v3) < (160 : Int)) ∧ ∀ m5, m5 = zf_ul m r0 (Int32.toInt v3).toNat 0 → wq_22_15 c0 r0 v1 v2 Q n (v3 + 1) m5)))
theorem zq_22_15 {d : Nat} (hd : 0 ≤ d) {c0 : Nat} {r0 : Nat} (hp0 : zf_shelf c0 r0) {v1 : Int32} {v2 : Int32} {Q : zf_Me → Prop} : ∀ (n : Nat) (v3 : Int32) (m : zf_Me), wq_22_15 c0 r0 v1 v2 Q n v3 m → zf_W none 0 0 d zt_22 15 [some (.inr (.inr (1, c0))), none, some (.inl v2), some (.inl v3)] [] m (zf_O Q) := by
  intro n
  induction n with
  | zero =>
    intro v3 m h
    exact h.elim
  | succ n ih =>
    intro v3 m h
    unfold wq_22_15 at h
    refine zf_ld (pc' := 16) (v := .inl v3) dX3_makeRow_15 rfl (fun _ _ _ => rfl) rfl rfl rfl ?_
    refine zf_ld (pc' := 17) (v := .inl v2) dX3_makeRow_16 rfl (fun _ _ _ => rfl) rfl rfl rfl ?_
    refine zf_icmp_ge (tgt := 33) (pc' := 20) dX3_makeRow_17 rfl rfl (fun g => ?_) (fun g => ?_)
    · replace h := h.1 g
      exact zf_rv dX3_makeRow_33 rfl h
    · replace h := h.2 g
      refine zf_ld (pc' := 21) (v := .inr (.inr (1, c0))) dX3_makeRow_20 rfl (fun _ _ _ => rfl) rfl rfl rfl ?_
      refine zf_gfr (pc' := 24) (b := r0) dX3_makeRow_21 rfl rfl hp0.1 hp0.2.1 rfl ?_
      refine zf_ld (pc' := 25) (v := .inl v3) dX3_makeRow_24 rfl (fun _ _ _ => rfl) rfl rfl rfl ?_
      refine zf_in (pc' := 26) (S' := [.inr (.inl 0), .inl v3, .inr (.inr (1, r0))]) dX3_makeRow_25 rfl (fun _ _ _ => rfl) ?_
      refine zf_las (pc' := 27) dX3_makeRow_26 rfl hp0.2.2.1 hp0.2.2.2 h.1 rfl (fun m5 e6 => ?_)
      replace h := h.2 m5 e6
      refine zf_ii (y := (v3 + 1)) (L2 := [some (.inr (.inr (1, c0))), none, some (.inl v2), some (.inl (v3 + 1))]) (pc' := 30) dX3_makeRow_27 rfl rfl rfl rfl rfl ?_
      refine zf_goto (tgt := 15) dX3_makeRow_30 rfl ?_
      exact zf_lo (ih _ _ h) ⟨rfl, rfl, rfl, trivial⟩
def wp_22 (c0 : Nat) (r0 : Nat) (v1 : Int32) (v2 : Int32) (m : zf_Me) (Q : zf_Me → Prop) : Prop := (∀ m1, m1 = zf_u m c0 1 (100 + v1) → (∀ m3, m3 = zf_u m1 c0 2 v2 → (∃ n15, wq_22_15 c0 r0 v1 v2 Q n15 0 m3)))
theorem zr_22 {d : Nat} (hd : 0 ≤ d) {c0 : Nat} {r0 : Nat} (hp0 : zf_shelf c0 r0) {v1 : Int32} {v2 : Int32} {Q : zf_Me → Prop} {m : zf_Me} (h : wp_22 c0 r0 v1 v2 m Q) : zf_M d 22 [.inr (.inr (1, c0)), .inl v1, .inl v2] m (zf_O Q) := by
  unfold wp_22 at h
  refine zf_M_of (Nat.le_of_ble_eq_true rfl) zm_22 (L := [some (.inr (.inr (1, c0))), some (.inl v1), some (.inl v2), none]) rfl ?_
  refine zf_ld (pc' := 1) (v := .inr (.inr (1, c0))) dX3_makeRow_0 rfl (fun _ _ _ => rfl) rfl rfl rfl ?_
  refine zf_bi (v := 100) (pc' := 3) dX3_makeRow_1 rfl rfl ?_
  refine zf_ld (pc' := 4) (v := .inl v1) dX3_makeRow_3 rfl (fun _ _ _ => rfl) rfl rfl rfl ?_
  refine zf_in (pc' := 5) (S' := [.inl (100 + v1), .inr (.inr (1, c0))]) dX3_makeRow_4 rfl (fun _ _ _ => rfl) ?_
  refine zf_pf (pc' := 8) dX3_makeRow_5 rfl rfl hp0.1 hp0.2.1 rfl rfl (fun m1 e2 => ?_)
  replace h := h m1 e2
  refine zf_ld (pc' := 9) (v := .inr (.inr (1, c0))) dX3_makeRow_8 rfl (fun _ _ _ => rfl) rfl rfl rfl ?_
  refine zf_ld (pc' := 10) (v := .inl v2) dX3_makeRow_9 rfl (fun _ _ _ => rfl) rfl rfl rfl ?_
  refine zf_pf (pc' := 13) dX3_makeRow_10 rfl rfl hp0.1 hp0.2.1 rfl rfl (fun m3 e4 => ?_)
  replace h := h m3 e4
  refine zf_ic (v := 0) (pc' := 14) dX3_makeRow_13 rfl rfl ?_
  refine zf_st (pc' := 15) (L2 := [some (.inr (.inr (1, c0))), some (.inl v1), some (.inl v2), some (.inl 0)]) dX3_makeRow_14 rfl (fun _ _ _ => rfl) rfl rfl rfl rfl rfl rfl ?_
  obtain ⟨n15, h⟩ := h
  exact zf_lo (zq_22_15 (by omega) hp0 n15 _ _ h) ⟨rfl, rfl, rfl, trivial⟩
def zt_23 : zx_MT := (3, yX3_put, cX3_put, 4, none, 2, 0)
theorem zm_23 : zx_m 23 = zt_23 := rfl
theorem dX3_put_r0 : zdcP cX3_put 0 [(.aload_n 0, 1), (.getfield 15, 3), (.bipush 100, 2), (.isub, 1)] := zdcA_ok (by decide +kernel)
theorem dX3_put_0 : decode cX3_put 0 = .ok (.aload_n 0, 1) := dX3_put_r0.1
theorem dX3_put_1 : decode cX3_put 1 = .ok (.getfield 15, 3) := dX3_put_r0.2.1
theorem dX3_put_4 : decode cX3_put 4 = .ok (.bipush 100, 2) := dX3_put_r0.2.2.1
theorem dX3_put_6 : decode cX3_put 6 = .ok (.isub, 1) := dX3_put_r0.2.2.2.1
theorem dX3_put_7 : decode cX3_put 7 = .ok (.tableswitch 63 0 2 #[25, 38, 51], 25) := by decide +kernel
theorem dX3_put_r32 : zdcP cX3_put 32 [(.aload_n 0, 1), (.getfield 9, 3), (.iload_n 1, 1), (.lload_n 2, 1), (.l2i, 1), (.i2b, 1), (.i2l, 1), (.lastore, 1), (.goto 35, 3), (.aload_n 0, 1), (.getfield 9, 3), (.iload_n 1, 1), (.lload_n 2, 1), (.l2i, 1), (.i2s, 1), (.i2l, 1)] := zdcA_ok (by decide +kernel)
theorem dX3_put_32 : decode cX3_put 32 = .ok (.aload_n 0, 1) := dX3_put_r32.1
theorem dX3_put_33 : decode cX3_put 33 = .ok (.getfield 9, 3) := dX3_put_r32.2.1
theorem dX3_put_36 : decode cX3_put 36 = .ok (.iload_n 1, 1) := dX3_put_r32.2.2.1
theorem dX3_put_37 : decode cX3_put 37 = .ok (.lload_n 2, 1) := dX3_put_r32.2.2.2.1
theorem dX3_put_38 : decode cX3_put 38 = .ok (.l2i, 1) := dX3_put_r32.2.2.2.2.1
theorem dX3_put_39 : decode cX3_put 39 = .ok (.i2b, 1) := dX3_put_r32.2.2.2.2.2.1
theorem dX3_put_40 : decode cX3_put 40 = .ok (.i2l, 1) := dX3_put_r32.2.2.2.2.2.2.1
theorem dX3_put_41 : decode cX3_put 41 = .ok (.lastore, 1) := dX3_put_r32.2.2.2.2.2.2.2.1
theorem dX3_put_42 : decode cX3_put 42 = .ok (.goto 35, 3) := dX3_put_r32.2.2.2.2.2.2.2.2.1
theorem dX3_put_45 : decode cX3_put 45 = .ok (.aload_n 0, 1) := dX3_put_r32.2.2.2.2.2.2.2.2.2.1
theorem dX3_put_46 : decode cX3_put 46 = .ok (.getfield 9, 3) := dX3_put_r32.2.2.2.2.2.2.2.2.2.2.1
theorem dX3_put_49 : decode cX3_put 49 = .ok (.iload_n 1, 1) := dX3_put_r32.2.2.2.2.2.2.2.2.2.2.2.1
theorem dX3_put_50 : decode cX3_put 50 = .ok (.lload_n 2, 1) := dX3_put_r32.2.2.2.2.2.2.2.2.2.2.2.2.1
theorem dX3_put_51 : decode cX3_put 51 = .ok (.l2i, 1) := dX3_put_r32.2.2.2.2.2.2.2.2.2.2.2.2.2.1
theorem dX3_put_52 : decode cX3_put 52 = .ok (.i2s, 1) := dX3_put_r32.2.2.2.2.2.2.2.2.2.2.2.2.2.2.1
theorem dX3_put_53 : decode cX3_put 53 = .ok (.i2l, 1) := dX3_put_r32.2.2.2.2.2.2.2.2.2.2.2.2.2.2.2.1
theorem dX3_put_r54 : zdcP cX3_put 54 [(.lastore, 1), (.goto 22, 3), (.aload_n 0, 1), (.getfield 9, 3), (.iload_n 1, 1), (.lload_n 2, 1), (.l2i, 1), (.i2l, 1), (.lastore, 1), (.goto 10, 3), (.aload_n 0, 1), (.getfield 9, 3), (.iload_n 1, 1), (.lload_n 2, 1), (.lastore, 1), (.return_, 1)] := zdcA_ok (by decide +kernel)
theorem dX3_put_54 : decode cX3_put 54 = .ok (.lastore, 1) := dX3_put_r54.1
theorem dX3_put_55 : decode cX3_put 55 = .ok (.goto 22, 3) := dX3_put_r54.2.1
theorem dX3_put_58 : decode cX3_put 58 = .ok (.aload_n 0, 1) := dX3_put_r54.2.2.1
theorem dX3_put_59 : decode cX3_put 59 = .ok (.getfield 9, 3) := dX3_put_r54.2.2.2.1
theorem dX3_put_62 : decode cX3_put 62 = .ok (.iload_n 1, 1) := dX3_put_r54.2.2.2.2.1
theorem dX3_put_63 : decode cX3_put 63 = .ok (.lload_n 2, 1) := dX3_put_r54.2.2.2.2.2.1
theorem dX3_put_64 : decode cX3_put 64 = .ok (.l2i, 1) := dX3_put_r54.2.2.2.2.2.2.1
theorem dX3_put_65 : decode cX3_put 65 = .ok (.i2l, 1) := dX3_put_r54.2.2.2.2.2.2.2.1
theorem dX3_put_66 : decode cX3_put 66 = .ok (.lastore, 1) := dX3_put_r54.2.2.2.2.2.2.2.2.1
theorem dX3_put_67 : decode cX3_put 67 = .ok (.goto 10, 3) := dX3_put_r54.2.2.2.2.2.2.2.2.2.1
theorem dX3_put_70 : decode cX3_put 70 = .ok (.aload_n 0, 1) := dX3_put_r54.2.2.2.2.2.2.2.2.2.2.1
theorem dX3_put_71 : decode cX3_put 71 = .ok (.getfield 9, 3) := dX3_put_r54.2.2.2.2.2.2.2.2.2.2.2.1
theorem dX3_put_74 : decode cX3_put 74 = .ok (.iload_n 1, 1) := dX3_put_r54.2.2.2.2.2.2.2.2.2.2.2.2.1
theorem dX3_put_75 : decode cX3_put 75 = .ok (.lload_n 2, 1) := dX3_put_r54.2.2.2.2.2.2.2.2.2.2.2.2.2.1
theorem dX3_put_76 : decode cX3_put 76 = .ok (.lastore, 1) := dX3_put_r54.2.2.2.2.2.2.2.2.2.2.2.2.2.2.1
theorem dX3_put_77 : decode cX3_put 77 = .ok (.return_, 1) := dX3_put_r54.2.2.2.2.2.2.2.2.2.2.2.2.2.2.2.1
def wp_23 (c0 : Nat) (r0 : Nat) (v1 : Int32) (v2 : Int64) (m : zf_Me) (Q : zf_Me → Prop) : Prop := ((((((m.1 c0 1) - 100)).toInt < 0 ∨ (((m.1 c0 1) - 100)).toInt > 2) → ((0 ≤ (Int32.toInt v1) ∧ (Int32.toInt v1) < (160 : Int)) ∧ ∀ m1, m1 = zf_ul m r0 (Int32.toInt v1).toNat v2 → Q m1)) ∧ ((((m.1 c0 1) - 100)).toInt = 0 → ((0 ≤ (Int32.toInt v1) ∧ (Int32.toInt v1) < (160 : Int)) ∧ ∀ m3, m3 = zf_ul m r0 (Int32.toInt v1).toNat (Int32.toInt64 (Int8.toInt32 (Int32.toInt8 (Int64.toInt32 v2)))) → Q m3)) ∧ ((((m.1 c0 1) - 100)).toInt = 1 → ((0 ≤ (Int32.toInt v1) ∧ (Int32.toInt v1) < (160 : Int)) ∧ ∀ m5, m5 = zf_ul m r0 (Int32.toInt v1).toNat (Int32.toInt64 (Int16.toInt32 (Int32.toInt16 (Int64.toInt32 v2)))) → Q m5)) ∧ ((((m.1 c0 1) - 100)).toInt = 2 → ((0 ≤ (Int32.toInt v1) ∧ (Int32.toInt v1) < (160 : Int)) ∧ ∀ m7, m7 = zf_ul m r0 (Int32.toInt v1).toNat (Int32.toInt64 (Int64.toInt32 v2)) → Q m7)))
theorem zr_23 {d : Nat} (hd : 0 ≤ d) {c0 : Nat} {r0 : Nat} (hp0 : zf_shelf c0 r0) {v1 : Int32} {v2 : Int64} {Q : zf_Me → Prop} {m : zf_Me} (h : wp_23 c0 r0 v1 v2 m Q) : zf_M d 23 [.inr (.inr (1, c0)), .inl v1, .inr (.inl v2)] m (zf_O Q) := by
  unfold wp_23 at h
  refine zf_M_of (Nat.le_of_ble_eq_true rfl) zm_23 (L := [some (.inr (.inr (1, c0))), some (.inl v1), some (.inr (.inl v2)), none]) rfl ?_
  refine zf_ld (pc' := 1) (v := .inr (.inr (1, c0))) dX3_put_0 rfl (fun _ _ _ => rfl) rfl rfl rfl ?_
  refine zf_gfi (pc' := 4) dX3_put_1 rfl rfl hp0.1 hp0.2.1 rfl ?_
  refine zf_bi (v := 100) (pc' := 6) dX3_put_4 rfl rfl ?_
  refine zf_in (pc' := 7) (S' := [.inl ((m.1 c0 1) - 100)]) dX3_put_6 rfl (fun _ _ _ => rfl) ?_
  refine zf_tsc (tgd := 70) dX3_put_7 rfl [32, 45, 58] (by decide) (by decide) (fun g => ?_) (zl_cons (fun g => ?_) (zl_cons (fun g => ?_) (zl_cons (fun g => ?_) (zl_nil))))
  · replace h := h.1 (by omega)
    refine zf_ld (pc' := 71) (v := .inr (.inr (1, c0))) dX3_put_70 rfl (fun _ _ _ => rfl) rfl rfl rfl ?_
    refine zf_gfr (pc' := 74) (b := r0) dX3_put_71 rfl rfl hp0.1 hp0.2.1 rfl ?_
    refine zf_ld (pc' := 75) (v := .inl v1) dX3_put_74 rfl (fun _ _ _ => rfl) rfl rfl rfl ?_
    refine zf_ld (pc' := 76) (v := .inr (.inl v2)) dX3_put_75 rfl (fun _ _ _ => rfl) rfl rfl rfl ?_
    refine zf_las (pc' := 77) dX3_put_76 rfl hp0.2.2.1 hp0.2.2.2 h.1 rfl (fun m1 e2 => ?_)
    replace h := h.2 m1 e2
    exact zf_rv dX3_put_77 rfl h
  · replace h := h.2.1 (by omega)
    refine zf_ld (pc' := 33) (v := .inr (.inr (1, c0))) dX3_put_32 rfl (fun _ _ _ => rfl) rfl rfl rfl ?_
    refine zf_gfr (pc' := 36) (b := r0) dX3_put_33 rfl rfl hp0.1 hp0.2.1 rfl ?_
    refine zf_ld (pc' := 37) (v := .inl v1) dX3_put_36 rfl (fun _ _ _ => rfl) rfl rfl rfl ?_
    refine zf_ld (pc' := 38) (v := .inr (.inl v2)) dX3_put_37 rfl (fun _ _ _ => rfl) rfl rfl rfl ?_
    refine zf_in (pc' := 39) (S' := [.inl (Int64.toInt32 v2), .inl v1, .inr (.inr (1, r0))]) dX3_put_38 rfl (fun _ _ _ => rfl) ?_
    refine zf_in (pc' := 40) (S' := [.inl (Int8.toInt32 (Int32.toInt8 (Int64.toInt32 v2))), .inl v1, .inr (.inr (1, r0))]) dX3_put_39 rfl (fun _ _ _ => rfl) ?_
    refine zf_in (pc' := 41) (S' := [.inr (.inl (Int32.toInt64 (Int8.toInt32 (Int32.toInt8 (Int64.toInt32 v2))))), .inl v1, .inr (.inr (1, r0))]) dX3_put_40 rfl (fun _ _ _ => rfl) ?_
    refine zf_las (pc' := 42) dX3_put_41 rfl hp0.2.2.1 hp0.2.2.2 h.1 rfl (fun m3 e4 => ?_)
    replace h := h.2 m3 e4
    refine zf_goto (tgt := 77) dX3_put_42 rfl ?_
    exact zf_rv dX3_put_77 rfl h
  · replace h := h.2.2.1 (by omega)
    refine zf_ld (pc' := 46) (v := .inr (.inr (1, c0))) dX3_put_45 rfl (fun _ _ _ => rfl) rfl rfl rfl ?_
    refine zf_gfr (pc' := 49) (b := r0) dX3_put_46 rfl rfl hp0.1 hp0.2.1 rfl ?_
    refine zf_ld (pc' := 50) (v := .inl v1) dX3_put_49 rfl (fun _ _ _ => rfl) rfl rfl rfl ?_
    refine zf_ld (pc' := 51) (v := .inr (.inl v2)) dX3_put_50 rfl (fun _ _ _ => rfl) rfl rfl rfl ?_
    refine zf_in (pc' := 52) (S' := [.inl (Int64.toInt32 v2), .inl v1, .inr (.inr (1, r0))]) dX3_put_51 rfl (fun _ _ _ => rfl) ?_
    refine zf_in (pc' := 53) (S' := [.inl (Int16.toInt32 (Int32.toInt16 (Int64.toInt32 v2))), .inl v1, .inr (.inr (1, r0))]) dX3_put_52 rfl (fun _ _ _ => rfl) ?_
    refine zf_in (pc' := 54) (S' := [.inr (.inl (Int32.toInt64 (Int16.toInt32 (Int32.toInt16 (Int64.toInt32 v2))))), .inl v1, .inr (.inr (1, r0))]) dX3_put_53 rfl (fun _ _ _ => rfl) ?_
    refine zf_las (pc' := 55) dX3_put_54 rfl hp0.2.2.1 hp0.2.2.2 h.1 rfl (fun m5 e6 => ?_)
    replace h := h.2 m5 e6
    refine zf_goto (tgt := 77) dX3_put_55 rfl ?_
    exact zf_rv dX3_put_77 rfl h
  · replace h := h.2.2.2 (by omega)
    refine zf_ld (pc' := 59) (v := .inr (.inr (1, c0))) dX3_put_58 rfl (fun _ _ _ => rfl) rfl rfl rfl ?_
    refine zf_gfr (pc' := 62) (b := r0) dX3_put_59 rfl rfl hp0.1 hp0.2.1 rfl ?_
    refine zf_ld (pc' := 63) (v := .inl v1) dX3_put_62 rfl (fun _ _ _ => rfl) rfl rfl rfl ?_
    refine zf_ld (pc' := 64) (v := .inr (.inl v2)) dX3_put_63 rfl (fun _ _ _ => rfl) rfl rfl rfl ?_
    refine zf_in (pc' := 65) (S' := [.inl (Int64.toInt32 v2), .inl v1, .inr (.inr (1, r0))]) dX3_put_64 rfl (fun _ _ _ => rfl) ?_
    refine zf_in (pc' := 66) (S' := [.inr (.inl (Int32.toInt64 (Int64.toInt32 v2))), .inl v1, .inr (.inr (1, r0))]) dX3_put_65 rfl (fun _ _ _ => rfl) ?_
    refine zf_las (pc' := 67) dX3_put_66 rfl hp0.2.2.1 hp0.2.2.2 h.1 rfl (fun m7 e8 => ?_)
    replace h := h.2 m7 e8
    refine zf_goto (tgt := 77) dX3_put_67 rfl ?_
    exact zf_rv dX3_put_77 rfl h
def zt_24 : zx_MT := (3, yX3_number, cX3_number, 2, (some FieldType.int), 1, 0)
theorem zm_24 : zx_m 24 = zt_24 := rfl
theorem dX3_number_r0 : zdcP cX3_number 0 [(.aload_n 0, 1), (.getfield 9, 3), (.iload_n 1, 1), (.laload, 1), (.l2i, 1), (.ireturn, 1)] := zdcA_ok (by decide +kernel)
theorem dX3_number_0 : decode cX3_number 0 = .ok (.aload_n 0, 1) := dX3_number_r0.1
theorem dX3_number_1 : decode cX3_number 1 = .ok (.getfield 9, 3) := dX3_number_r0.2.1
theorem dX3_number_4 : decode cX3_number 4 = .ok (.iload_n 1, 1) := dX3_number_r0.2.2.1
theorem dX3_number_5 : decode cX3_number 5 = .ok (.laload, 1) := dX3_number_r0.2.2.2.1
theorem dX3_number_6 : decode cX3_number 6 = .ok (.l2i, 1) := dX3_number_r0.2.2.2.2.1
theorem dX3_number_7 : decode cX3_number 7 = .ok (.ireturn, 1) := dX3_number_r0.2.2.2.2.2.1
def wp_24 (c0 : Nat) (r0 : Nat) (v1 : Int32) (m : zf_Me) (Q : Int32 → zf_Me → Prop) : Prop := ((0 ≤ (Int32.toInt v1) ∧ (Int32.toInt v1) < (160 : Int)) ∧ Q (Int64.toInt32 (m.2 r0 (Int32.toInt v1).toNat)) m)
theorem zr_24 {d : Nat} (hd : 0 ≤ d) {c0 : Nat} {r0 : Nat} (hp0 : zf_shelf c0 r0) {v1 : Int32} {Q : Int32 → zf_Me → Prop} {m : zf_Me} (h : wp_24 c0 r0 v1 m Q) : zf_M d 24 [.inr (.inr (1, c0)), .inl v1] m (zf_I Q) := by
  unfold wp_24 at h
  refine zf_M_of (Nat.le_of_ble_eq_true rfl) zm_24 (L := [some (.inr (.inr (1, c0))), some (.inl v1)]) rfl ?_
  refine zf_ld (pc' := 1) (v := .inr (.inr (1, c0))) dX3_number_0 rfl (fun _ _ _ => rfl) rfl rfl rfl ?_
  refine zf_gfr (pc' := 4) (b := r0) dX3_number_1 rfl rfl hp0.1 hp0.2.1 rfl ?_
  refine zf_ld (pc' := 5) (v := .inl v1) dX3_number_4 rfl (fun _ _ _ => rfl) rfl rfl rfl ?_
  refine zf_lal (pc' := 6) dX3_number_5 rfl hp0.2.2.1 hp0.2.2.2 h.1 rfl ?_
  replace h := h.2
  refine zf_in (pc' := 7) (S' := [.inl (Int64.toInt32 (m.2 r0 (Int32.toInt v1).toNat))]) dX3_number_6 rfl (fun _ _ _ => rfl) ?_
  exact zf_ri dX3_number_7 rfl h
def zt_63 : zx_MT := (6, yX6_copyFrom, cX6_copyFrom, 2, none, 1, 0)
theorem zm_63 : zx_m 63 = zt_63 := rfl
theorem dX6_copyFrom_r0 : zdcP cX6_copyFrom 0 [(.aload_n 1, 1), (.getfield 9, 3), (.iconst 0, 1), (.aload_n 0, 1), (.getfield 9, 3), (.iconst 0, 1), (.bipush 24, 2), (.invokestatic 31, 3), (.aload_n 1, 1), (.getfield 15, 3), (.iconst 0, 1), (.aload_n 0, 1), (.getfield 15, 3), (.iconst 0, 1), (.bipush 24, 2), (.invokestatic 31, 3)] := zdcA_ok (by decide +kernel)
theorem dX6_copyFrom_0 : decode cX6_copyFrom 0 = .ok (.aload_n 1, 1) := dX6_copyFrom_r0.1
theorem dX6_copyFrom_1 : decode cX6_copyFrom 1 = .ok (.getfield 9, 3) := dX6_copyFrom_r0.2.1
theorem dX6_copyFrom_4 : decode cX6_copyFrom 4 = .ok (.iconst 0, 1) := dX6_copyFrom_r0.2.2.1
theorem dX6_copyFrom_5 : decode cX6_copyFrom 5 = .ok (.aload_n 0, 1) := dX6_copyFrom_r0.2.2.2.1
theorem dX6_copyFrom_6 : decode cX6_copyFrom 6 = .ok (.getfield 9, 3) := dX6_copyFrom_r0.2.2.2.2.1
theorem dX6_copyFrom_9 : decode cX6_copyFrom 9 = .ok (.iconst 0, 1) := dX6_copyFrom_r0.2.2.2.2.2.1
theorem dX6_copyFrom_10 : decode cX6_copyFrom 10 = .ok (.bipush 24, 2) := dX6_copyFrom_r0.2.2.2.2.2.2.1
theorem dX6_copyFrom_12 : decode cX6_copyFrom 12 = .ok (.invokestatic 31, 3) := dX6_copyFrom_r0.2.2.2.2.2.2.2.1
theorem dX6_copyFrom_15 : decode cX6_copyFrom 15 = .ok (.aload_n 1, 1) := dX6_copyFrom_r0.2.2.2.2.2.2.2.2.1
theorem dX6_copyFrom_16 : decode cX6_copyFrom 16 = .ok (.getfield 15, 3) := dX6_copyFrom_r0.2.2.2.2.2.2.2.2.2.1
theorem dX6_copyFrom_19 : decode cX6_copyFrom 19 = .ok (.iconst 0, 1) := dX6_copyFrom_r0.2.2.2.2.2.2.2.2.2.2.1
theorem dX6_copyFrom_20 : decode cX6_copyFrom 20 = .ok (.aload_n 0, 1) := dX6_copyFrom_r0.2.2.2.2.2.2.2.2.2.2.2.1
theorem dX6_copyFrom_21 : decode cX6_copyFrom 21 = .ok (.getfield 15, 3) := dX6_copyFrom_r0.2.2.2.2.2.2.2.2.2.2.2.2.1
theorem dX6_copyFrom_24 : decode cX6_copyFrom 24 = .ok (.iconst 0, 1) := dX6_copyFrom_r0.2.2.2.2.2.2.2.2.2.2.2.2.2.1
theorem dX6_copyFrom_25 : decode cX6_copyFrom 25 = .ok (.bipush 24, 2) := dX6_copyFrom_r0.2.2.2.2.2.2.2.2.2.2.2.2.2.2.1
theorem dX6_copyFrom_27 : decode cX6_copyFrom 27 = .ok (.invokestatic 31, 3) := dX6_copyFrom_r0.2.2.2.2.2.2.2.2.2.2.2.2.2.2.2.1
theorem dX6_copyFrom_r30 : zdcP cX6_copyFrom 30 [(.aload_n 1, 1), (.getfield 18, 3), (.iconst 0, 1), (.aload_n 0, 1), (.getfield 18, 3), (.iconst 0, 1), (.bipush 6, 2), (.invokestatic 31, 3), (.aload_n 1, 1), (.getfield 21, 3), (.iconst 0, 1), (.aload_n 0, 1), (.getfield 21, 3), (.iconst 0, 1), (.bipush 6, 2), (.invokestatic 31, 3)] := zdcA_ok (by decide +kernel)
theorem dX6_copyFrom_30 : decode cX6_copyFrom 30 = .ok (.aload_n 1, 1) := dX6_copyFrom_r30.1
theorem dX6_copyFrom_31 : decode cX6_copyFrom 31 = .ok (.getfield 18, 3) := dX6_copyFrom_r30.2.1
theorem dX6_copyFrom_34 : decode cX6_copyFrom 34 = .ok (.iconst 0, 1) := dX6_copyFrom_r30.2.2.1
theorem dX6_copyFrom_35 : decode cX6_copyFrom 35 = .ok (.aload_n 0, 1) := dX6_copyFrom_r30.2.2.2.1
theorem dX6_copyFrom_36 : decode cX6_copyFrom 36 = .ok (.getfield 18, 3) := dX6_copyFrom_r30.2.2.2.2.1
theorem dX6_copyFrom_39 : decode cX6_copyFrom 39 = .ok (.iconst 0, 1) := dX6_copyFrom_r30.2.2.2.2.2.1
theorem dX6_copyFrom_40 : decode cX6_copyFrom 40 = .ok (.bipush 6, 2) := dX6_copyFrom_r30.2.2.2.2.2.2.1
theorem dX6_copyFrom_42 : decode cX6_copyFrom 42 = .ok (.invokestatic 31, 3) := dX6_copyFrom_r30.2.2.2.2.2.2.2.1
theorem dX6_copyFrom_45 : decode cX6_copyFrom 45 = .ok (.aload_n 1, 1) := dX6_copyFrom_r30.2.2.2.2.2.2.2.2.1
theorem dX6_copyFrom_46 : decode cX6_copyFrom 46 = .ok (.getfield 21, 3) := dX6_copyFrom_r30.2.2.2.2.2.2.2.2.2.1
theorem dX6_copyFrom_49 : decode cX6_copyFrom 49 = .ok (.iconst 0, 1) := dX6_copyFrom_r30.2.2.2.2.2.2.2.2.2.2.1
theorem dX6_copyFrom_50 : decode cX6_copyFrom 50 = .ok (.aload_n 0, 1) := dX6_copyFrom_r30.2.2.2.2.2.2.2.2.2.2.2.1
theorem dX6_copyFrom_51 : decode cX6_copyFrom 51 = .ok (.getfield 21, 3) := dX6_copyFrom_r30.2.2.2.2.2.2.2.2.2.2.2.2.1
theorem dX6_copyFrom_54 : decode cX6_copyFrom 54 = .ok (.iconst 0, 1) := dX6_copyFrom_r30.2.2.2.2.2.2.2.2.2.2.2.2.2.1
theorem dX6_copyFrom_55 : decode cX6_copyFrom 55 = .ok (.bipush 6, 2) := dX6_copyFrom_r30.2.2.2.2.2.2.2.2.2.2.2.2.2.2.1
theorem dX6_copyFrom_57 : decode cX6_copyFrom 57 = .ok (.invokestatic 31, 3) := dX6_copyFrom_r30.2.2.2.2.2.2.2.2.2.2.2.2.2.2.2.1
theorem dX6_copyFrom_r60 : zdcP cX6_copyFrom 60 [(.aload_n 0, 1), (.aload_n 1, 1), (.getfield 24, 3), (.putfield 24, 3), (.aload_n 0, 1), (.aload_n 1, 1), (.getfield 28, 3), (.putfield 28, 3), (.return_, 1)] := zdcA_ok (by decide +kernel)
theorem dX6_copyFrom_60 : decode cX6_copyFrom 60 = .ok (.aload_n 0, 1) := dX6_copyFrom_r60.1
theorem dX6_copyFrom_61 : decode cX6_copyFrom 61 = .ok (.aload_n 1, 1) := dX6_copyFrom_r60.2.1
theorem dX6_copyFrom_62 : decode cX6_copyFrom 62 = .ok (.getfield 24, 3) := dX6_copyFrom_r60.2.2.1
theorem dX6_copyFrom_65 : decode cX6_copyFrom 65 = .ok (.putfield 24, 3) := dX6_copyFrom_r60.2.2.2.1
theorem dX6_copyFrom_68 : decode cX6_copyFrom 68 = .ok (.aload_n 0, 1) := dX6_copyFrom_r60.2.2.2.2.1
theorem dX6_copyFrom_69 : decode cX6_copyFrom 69 = .ok (.aload_n 1, 1) := dX6_copyFrom_r60.2.2.2.2.2.1
theorem dX6_copyFrom_70 : decode cX6_copyFrom 70 = .ok (.getfield 28, 3) := dX6_copyFrom_r60.2.2.2.2.2.2.1
theorem dX6_copyFrom_73 : decode cX6_copyFrom 73 = .ok (.putfield 28, 3) := dX6_copyFrom_r60.2.2.2.2.2.2.2.1
theorem dX6_copyFrom_76 : decode cX6_copyFrom 76 = .ok (.return_, 1) := dX6_copyFrom_r60.2.2.2.2.2.2.2.2.1
def wp_63 (y0 : Nat) (y1 : Nat) (m : zf_Me) (Q : zf_Me → Prop) : Prop := (∀ m1, m1 = zf_cp m (y1 + 1) (y0 + 1) 0 0 24 → (∀ m3, m3 = zf_cp m1 (y1 + 2) (y0 + 2) 0 0 24 → (∀ m5, m5 = zf_cp m3 (y1 + 3) (y0 + 3) 0 0 6 → (∀ m7, m7 = zf_cp m5 (y1 + 4) (y0 + 4) 0 0 6 → (∀ m9, m9 = zf_u m7 y0 4 (m7.1 y1 4) → (∀ m11, m11 = zf_u m9 y0 5 (m9.1 y1 5) → Q m11))))))
theorem zr_63 {d : Nat} (hd : 0 ≤ d) {y0 : Nat} {y1 : Nat} (hp0 : zf_way y0) (hp1 : zf_way y1) {Q : zf_Me → Prop} {m : zf_Me} (h : wp_63 y0 y1 m Q) : zf_M d 63 [.inr (.inr (1, y0)), .inr (.inr (1, y1))] m (zf_O Q) := by
  unfold wp_63 at h
  refine zf_M_of (Nat.le_of_ble_eq_true rfl) zm_63 (L := [some (.inr (.inr (1, y0))), some (.inr (.inr (1, y1)))]) rfl ?_
  refine zf_ld (pc' := 1) (v := .inr (.inr (1, y1))) dX6_copyFrom_0 rfl (fun _ _ _ => rfl) rfl rfl rfl ?_
  refine zf_gfr (pc' := 4) (b := (y1 + 1)) dX6_copyFrom_1 rfl rfl hp1.1 hp1.2.1 rfl ?_
  refine zf_ic (v := 0) (pc' := 5) dX6_copyFrom_4 rfl rfl ?_
  refine zf_ld (pc' := 6) (v := .inr (.inr (1, y0))) dX6_copyFrom_5 rfl (fun _ _ _ => rfl) rfl rfl rfl ?_
  refine zf_gfr (pc' := 9) (b := (y0 + 1)) dX6_copyFrom_6 rfl rfl hp0.1 hp0.2.1 rfl ?_
  refine zf_ic (v := 0) (pc' := 10) dX6_copyFrom_9 rfl rfl ?_
  refine zf_bi (v := 24) (pc' := 12) dX6_copyFrom_10 rfl rfl ?_
  refine zf_ac (pc' := 15) dX6_copyFrom_12 rfl rfl (q0 := _) rfl hp1.2.2.1.1 hp0.2.2.1.1 hp1.2.2.1.2 hp0.2.2.1.2 rfl (by decide) (fun m1 e2 => ?_)
  replace h := h m1 e2
  refine zf_ld (pc' := 16) (v := .inr (.inr (1, y1))) dX6_copyFrom_15 rfl (fun _ _ _ => rfl) rfl rfl rfl ?_
  refine zf_gfr (pc' := 19) (b := (y1 + 2)) dX6_copyFrom_16 rfl rfl hp1.1 hp1.2.1 rfl ?_
  refine zf_ic (v := 0) (pc' := 20) dX6_copyFrom_19 rfl rfl ?_
  refine zf_ld (pc' := 21) (v := .inr (.inr (1, y0))) dX6_copyFrom_20 rfl (fun _ _ _ => rfl) rfl rfl rfl ?_
  refine zf_gfr (pc' := 24) (b := (y0 + 2)) dX6_copyFrom_21 rfl rfl hp0.1 hp0.2.1 rfl ?_
  refine zf_ic (v := 0) (pc' := 25) dX6_copyFrom_24 rfl rfl ?_
  refine zf_bi (v := 24) (pc' := 27) dX6_copyFrom_25 rfl rfl ?_
  refine zf_ac (pc' := 30) dX6_copyFrom_27 rfl rfl (q0 := _) rfl hp1.2.2.2.1.1 hp0.2.2.2.1.1 hp1.2.2.2.1.2 hp0.2.2.2.1.2 rfl (by decide) (fun m3 e4 => ?_)
  replace h := h m3 e4
  refine zf_ld (pc' := 31) (v := .inr (.inr (1, y1))) dX6_copyFrom_30 rfl (fun _ _ _ => rfl) rfl rfl rfl ?_
  refine zf_gfr (pc' := 34) (b := (y1 + 3)) dX6_copyFrom_31 rfl rfl hp1.1 hp1.2.1 rfl ?_
  refine zf_ic (v := 0) (pc' := 35) dX6_copyFrom_34 rfl rfl ?_
  refine zf_ld (pc' := 36) (v := .inr (.inr (1, y0))) dX6_copyFrom_35 rfl (fun _ _ _ => rfl) rfl rfl rfl ?_
  refine zf_gfr (pc' := 39) (b := (y0 + 3)) dX6_copyFrom_36 rfl rfl hp0.1 hp0.2.1 rfl ?_
  refine zf_ic (v := 0) (pc' := 40) dX6_copyFrom_39 rfl rfl ?_
  refine zf_bi (v := 6) (pc' := 42) dX6_copyFrom_40 rfl rfl ?_
  refine zf_ac (pc' := 45) dX6_copyFrom_42 rfl rfl (q0 := _) rfl hp1.2.2.2.2.1.1 hp0.2.2.2.2.1.1 hp1.2.2.2.2.1.2 hp0.2.2.2.2.1.2 rfl (by decide) (fun m5 e6 => ?_)
  replace h := h m5 e6
  refine zf_ld (pc' := 46) (v := .inr (.inr (1, y1))) dX6_copyFrom_45 rfl (fun _ _ _ => rfl) rfl rfl rfl ?_
  refine zf_gfr (pc' := 49) (b := (y1 + 4)) dX6_copyFrom_46 rfl rfl hp1.1 hp1.2.1 rfl ?_
  refine zf_ic (v := 0) (pc' := 50) dX6_copyFrom_49 rfl rfl ?_
  refine zf_ld (pc' := 51) (v := .inr (.inr (1, y0))) dX6_copyFrom_50 rfl (fun _ _ _ => rfl) rfl rfl rfl ?_
  refine zf_gfr (pc' := 54) (b := (y0 + 4)) dX6_copyFrom_51 rfl rfl hp0.1 hp0.2.1 rfl ?_
  refine zf_ic (v := 0) (pc' := 55) dX6_copyFrom_54 rfl rfl ?_
  refine zf_bi (v := 6) (pc' := 57) dX6_copyFrom_55 rfl rfl ?_
  refine zf_ac (pc' := 60) dX6_copyFrom_57 rfl rfl (q0 := _) rfl hp1.2.2.2.2.2.1 hp0.2.2.2.2.2.1 hp1.2.2.2.2.2.2 hp0.2.2.2.2.2.2 rfl (by decide) (fun m7 e8 => ?_)
  replace h := h m7 e8
  refine zf_ld (pc' := 61) (v := .inr (.inr (1, y0))) dX6_copyFrom_60 rfl (fun _ _ _ => rfl) rfl rfl rfl ?_
  refine zf_ld (pc' := 62) (v := .inr (.inr (1, y1))) dX6_copyFrom_61 rfl (fun _ _ _ => rfl) rfl rfl rfl ?_
  refine zf_gfi (pc' := 65) dX6_copyFrom_62 rfl rfl hp1.1 hp1.2.1 rfl ?_
  refine zf_pf (pc' := 68) dX6_copyFrom_65 rfl rfl hp0.1 hp0.2.1 rfl rfl (fun m9 e10 => ?_)
  replace h := h m9 e10
  refine zf_ld (pc' := 69) (v := .inr (.inr (1, y0))) dX6_copyFrom_68 rfl (fun _ _ _ => rfl) rfl rfl rfl ?_
  refine zf_ld (pc' := 70) (v := .inr (.inr (1, y1))) dX6_copyFrom_69 rfl (fun _ _ _ => rfl) rfl rfl rfl ?_
  refine zf_gfi (pc' := 73) dX6_copyFrom_70 rfl rfl hp1.1 hp1.2.1 rfl ?_
  refine zf_pf (pc' := 76) dX6_copyFrom_73 rfl rfl hp0.1 hp0.2.1 rfl rfl (fun m11 e12 => ?_)
  replace h := h m11 e12
  exact zf_rv dX6_copyFrom_76 rfl h
def zt_38 : zx_MT := (4, yX4_spelling, cX4_spelling, 1, (some (FieldType.object "java/lang/String")), 1, 1)
theorem zm_38 : zx_m 38 = zt_38 := rfl
theorem dX4_spelling_0 : decode cX4_spelling 0 = .ok (.iload_n 0, 1) := zdc_ok (by decide +kernel)
theorem dX4_spelling_1 : decode cX4_spelling 1 = .ok (.tableswitch 92 0 10 #[59, 62, 65, 68, 71, 74, 77, 80, 83, 86, 89], 59) := by decide +kernel
theorem dX4_spelling_r60 : zdcP cX4_spelling 60 [(.ldc 156, 2), (.areturn, 1), (.ldc 158, 2), (.areturn, 1), (.ldc 160, 2), (.areturn, 1), (.ldc 162, 2), (.areturn, 1), (.ldc 164, 2), (.areturn, 1), (.ldc 165, 2), (.areturn, 1), (.ldc 166, 2), (.areturn, 1), (.ldc 168, 2), (.areturn, 1)] := zdcA_ok (by decide +kernel)
theorem dX4_spelling_60 : decode cX4_spelling 60 = .ok (.ldc 156, 2) := dX4_spelling_r60.1
theorem dX4_spelling_62 : decode cX4_spelling 62 = .ok (.areturn, 1) := dX4_spelling_r60.2.1
theorem dX4_spelling_63 : decode cX4_spelling 63 = .ok (.ldc 158, 2) := dX4_spelling_r60.2.2.1
theorem dX4_spelling_65 : decode cX4_spelling 65 = .ok (.areturn, 1) := dX4_spelling_r60.2.2.2.1
theorem dX4_spelling_66 : decode cX4_spelling 66 = .ok (.ldc 160, 2) := dX4_spelling_r60.2.2.2.2.1
theorem dX4_spelling_68 : decode cX4_spelling 68 = .ok (.areturn, 1) := dX4_spelling_r60.2.2.2.2.2.1
theorem dX4_spelling_69 : decode cX4_spelling 69 = .ok (.ldc 162, 2) := dX4_spelling_r60.2.2.2.2.2.2.1
theorem dX4_spelling_71 : decode cX4_spelling 71 = .ok (.areturn, 1) := dX4_spelling_r60.2.2.2.2.2.2.2.1
theorem dX4_spelling_72 : decode cX4_spelling 72 = .ok (.ldc 164, 2) := dX4_spelling_r60.2.2.2.2.2.2.2.2.1
theorem dX4_spelling_74 : decode cX4_spelling 74 = .ok (.areturn, 1) := dX4_spelling_r60.2.2.2.2.2.2.2.2.2.1
theorem dX4_spelling_75 : decode cX4_spelling 75 = .ok (.ldc 165, 2) := dX4_spelling_r60.2.2.2.2.2.2.2.2.2.2.1
theorem dX4_spelling_77 : decode cX4_spelling 77 = .ok (.areturn, 1) := dX4_spelling_r60.2.2.2.2.2.2.2.2.2.2.2.1
theorem dX4_spelling_78 : decode cX4_spelling 78 = .ok (.ldc 166, 2) := dX4_spelling_r60.2.2.2.2.2.2.2.2.2.2.2.2.1
theorem dX4_spelling_80 : decode cX4_spelling 80 = .ok (.areturn, 1) := dX4_spelling_r60.2.2.2.2.2.2.2.2.2.2.2.2.2.1
theorem dX4_spelling_81 : decode cX4_spelling 81 = .ok (.ldc 168, 2) := dX4_spelling_r60.2.2.2.2.2.2.2.2.2.2.2.2.2.2.1
theorem dX4_spelling_83 : decode cX4_spelling 83 = .ok (.areturn, 1) := dX4_spelling_r60.2.2.2.2.2.2.2.2.2.2.2.2.2.2.2.1
theorem dX4_spelling_r84 : zdcP cX4_spelling 84 [(.ldc 170, 2), (.areturn, 1), (.ldc 172, 2), (.areturn, 1), (.ldc 174, 2), (.areturn, 1), (.ldc 176, 2), (.areturn, 1)] := zdcA_ok (by decide +kernel)
theorem dX4_spelling_84 : decode cX4_spelling 84 = .ok (.ldc 170, 2) := dX4_spelling_r84.1
theorem dX4_spelling_86 : decode cX4_spelling 86 = .ok (.areturn, 1) := dX4_spelling_r84.2.1
theorem dX4_spelling_87 : decode cX4_spelling 87 = .ok (.ldc 172, 2) := dX4_spelling_r84.2.2.1
theorem dX4_spelling_89 : decode cX4_spelling 89 = .ok (.areturn, 1) := dX4_spelling_r84.2.2.2.1
theorem dX4_spelling_90 : decode cX4_spelling 90 = .ok (.ldc 174, 2) := dX4_spelling_r84.2.2.2.2.1
theorem dX4_spelling_92 : decode cX4_spelling 92 = .ok (.areturn, 1) := dX4_spelling_r84.2.2.2.2.2.1
theorem dX4_spelling_93 : decode cX4_spelling 93 = .ok (.ldc 176, 2) := dX4_spelling_r84.2.2.2.2.2.2.1
theorem dX4_spelling_95 : decode cX4_spelling 95 = .ok (.areturn, 1) := dX4_spelling_r84.2.2.2.2.2.2.2.1
def wp_38 (v0 : Int32) (m : zf_Me) (Q : Nat → zf_Me → Prop) : Prop := (((v0.toInt < 0 ∨ v0.toInt > 10) → Q 11 m) ∧ (v0.toInt = 0 → Q 0 m) ∧ (v0.toInt = 1 → Q 1 m) ∧ (v0.toInt = 2 → Q 2 m) ∧ (v0.toInt = 3 → Q 3 m) ∧ (v0.toInt = 4 → Q 4 m) ∧ (v0.toInt = 5 → Q 5 m) ∧ (v0.toInt = 6 → Q 6 m) ∧ (v0.toInt = 7 → Q 7 m) ∧ (v0.toInt = 8 → Q 8 m) ∧ (v0.toInt = 9 → Q 9 m) ∧ (v0.toInt = 10 → Q 10 m))
theorem zr_38 {d : Nat} (hd : 0 ≤ d) {v0 : Int32} {Q : Nat → zf_Me → Prop} {m : zf_Me} (h : wp_38 v0 m Q) : zf_M d 38 [.inl v0] m (zf_T Q) := by
  unfold wp_38 at h
  refine zf_M_of (Nat.le_of_ble_eq_true rfl) zm_38 (L := [some (.inl v0)]) rfl ?_
  refine zf_ld (pc' := 1) (v := .inl v0) dX4_spelling_0 rfl (fun _ _ _ => rfl) rfl rfl rfl ?_
  refine zf_tsc (tgd := 93) dX4_spelling_1 rfl [60, 63, 66, 69, 72, 75, 78, 81, 84, 87, 90] (by decide) (by decide) (fun g => ?_) (zl_cons (fun g => ?_) (zl_cons (fun g => ?_) (zl_cons (fun g => ?_) (zl_cons (fun g => ?_) (zl_cons (fun g => ?_) (zl_cons (fun g => ?_) (zl_cons (fun g => ?_) (zl_cons (fun g => ?_) (zl_cons (fun g => ?_) (zl_cons (fun g => ?_) (zl_cons (fun g => ?_) (zl_nil))))))))))))
  · replace h := h.1 (by omega)
    refine zf_lds (i := 11) (pc' := 95) dX4_spelling_93 rfl rfl rfl rfl (by decide) ?_
    exact zf_rt dX4_spelling_95 rfl (by decide) h
  · replace h := h.2.1 (by omega)
    refine zf_lds (i := 0) (pc' := 62) dX4_spelling_60 rfl rfl rfl rfl (by decide) ?_
    exact zf_rt dX4_spelling_62 rfl (by decide) h
  · replace h := h.2.2.1 (by omega)
    refine zf_lds (i := 1) (pc' := 65) dX4_spelling_63 rfl rfl rfl rfl (by decide) ?_
    exact zf_rt dX4_spelling_65 rfl (by decide) h
  · replace h := h.2.2.2.1 (by omega)
    refine zf_lds (i := 2) (pc' := 68) dX4_spelling_66 rfl rfl rfl rfl (by decide) ?_
    exact zf_rt dX4_spelling_68 rfl (by decide) h
  · replace h := h.2.2.2.2.1 (by omega)
    refine zf_lds (i := 3) (pc' := 71) dX4_spelling_69 rfl rfl rfl rfl (by decide) ?_
    exact zf_rt dX4_spelling_71 rfl (by decide) h
  · replace h := h.2.2.2.2.2.1 (by omega)
    refine zf_lds (i := 4) (pc' := 74) dX4_spelling_72 rfl rfl rfl rfl (by decide) ?_
    exact zf_rt dX4_spelling_74 rfl (by decide) h
  · replace h := h.2.2.2.2.2.2.1 (by omega)
    refine zf_lds (i := 5) (pc' := 77) dX4_spelling_75 rfl rfl rfl rfl (by decide) ?_
    exact zf_rt dX4_spelling_77 rfl (by decide) h
  · replace h := h.2.2.2.2.2.2.2.1 (by omega)
    refine zf_lds (i := 6) (pc' := 80) dX4_spelling_78 rfl rfl rfl rfl (by decide) ?_
    exact zf_rt dX4_spelling_80 rfl (by decide) h
  · replace h := h.2.2.2.2.2.2.2.2.1 (by omega)
    refine zf_lds (i := 7) (pc' := 83) dX4_spelling_81 rfl rfl rfl rfl (by decide) ?_
    exact zf_rt dX4_spelling_83 rfl (by decide) h
  · replace h := h.2.2.2.2.2.2.2.2.2.1 (by omega)
    refine zf_lds (i := 8) (pc' := 86) dX4_spelling_84 rfl rfl rfl rfl (by decide) ?_
    exact zf_rt dX4_spelling_86 rfl (by decide) h
  · replace h := h.2.2.2.2.2.2.2.2.2.2.1 (by omega)
    refine zf_lds (i := 9) (pc' := 89) dX4_spelling_87 rfl rfl rfl rfl (by decide) ?_
    exact zf_rt dX4_spelling_89 rfl (by decide) h
  · replace h := h.2.2.2.2.2.2.2.2.2.2.2 (by omega)
    refine zf_lds (i := 10) (pc' := 92) dX4_spelling_90 rfl rfl rfl rfl (by decide) ?_
    exact zf_rt dX4_spelling_92 rfl (by decide) h
def zt_37 : zx_MT := (4, yX4_beginsThere, cX4_beginsThere, 5, (some FieldType.boolean), 3, 0)
theorem zm_37 : zx_m 37 = zt_37 := rfl
theorem dX4_beginsThere_r0 : zdcP cX4_beginsThere 0 [(.iload_n 3, 1), (.aload_n 1, 1), (.invokevirtual 143, 3), (.if_icmp .gt 13, 3), (.iload_n 2, 1), (.iload_n 3, 1), (.iadd, 1), (.aload_n 0, 1), (.getfield 27, 3), (.if_icmp .le 5, 3), (.iconst 0, 1), (.ireturn, 1), (.iconst 0, 1), (.istore 4, 2), (.iload 4, 2), (.iload_n 3, 1)] := zdcA_ok (by decide +kernel)
theorem dX4_beginsThere_0 : decode cX4_beginsThere 0 = .ok (.iload_n 3, 1) := dX4_beginsThere_r0.1
theorem dX4_beginsThere_1 : decode cX4_beginsThere 1 = .ok (.aload_n 1, 1) := dX4_beginsThere_r0.2.1
theorem dX4_beginsThere_2 : decode cX4_beginsThere 2 = .ok (.invokevirtual 143, 3) := dX4_beginsThere_r0.2.2.1
theorem dX4_beginsThere_5 : decode cX4_beginsThere 5 = .ok (.if_icmp .gt 13, 3) := dX4_beginsThere_r0.2.2.2.1
theorem dX4_beginsThere_8 : decode cX4_beginsThere 8 = .ok (.iload_n 2, 1) := dX4_beginsThere_r0.2.2.2.2.1
theorem dX4_beginsThere_9 : decode cX4_beginsThere 9 = .ok (.iload_n 3, 1) := dX4_beginsThere_r0.2.2.2.2.2.1
theorem dX4_beginsThere_10 : decode cX4_beginsThere 10 = .ok (.iadd, 1) := dX4_beginsThere_r0.2.2.2.2.2.2.1
theorem dX4_beginsThere_11 : decode cX4_beginsThere 11 = .ok (.aload_n 0, 1) := dX4_beginsThere_r0.2.2.2.2.2.2.2.1
theorem dX4_beginsThere_12 : decode cX4_beginsThere 12 = .ok (.getfield 27, 3) := dX4_beginsThere_r0.2.2.2.2.2.2.2.2.1
theorem dX4_beginsThere_15 : decode cX4_beginsThere 15 = .ok (.if_icmp .le 5, 3) := dX4_beginsThere_r0.2.2.2.2.2.2.2.2.2.1
theorem dX4_beginsThere_18 : decode cX4_beginsThere 18 = .ok (.iconst 0, 1) := dX4_beginsThere_r0.2.2.2.2.2.2.2.2.2.2.1
theorem dX4_beginsThere_19 : decode cX4_beginsThere 19 = .ok (.ireturn, 1) := dX4_beginsThere_r0.2.2.2.2.2.2.2.2.2.2.2.1
theorem dX4_beginsThere_20 : decode cX4_beginsThere 20 = .ok (.iconst 0, 1) := dX4_beginsThere_r0.2.2.2.2.2.2.2.2.2.2.2.2.1
theorem dX4_beginsThere_21 : decode cX4_beginsThere 21 = .ok (.istore 4, 2) := dX4_beginsThere_r0.2.2.2.2.2.2.2.2.2.2.2.2.2.1
theorem dX4_beginsThere_23 : decode cX4_beginsThere 23 = .ok (.iload 4, 2) := dX4_beginsThere_r0.2.2.2.2.2.2.2.2.2.2.2.2.2.2.1
theorem dX4_beginsThere_25 : decode cX4_beginsThere 25 = .ok (.iload_n 3, 1) := dX4_beginsThere_r0.2.2.2.2.2.2.2.2.2.2.2.2.2.2.2.1
theorem dX4_beginsThere_r26 : zdcP cX4_beginsThere 26 [(.if_icmp .ge 29, 3), (.aload_n 0, 1), (.getfield 23, 3), (.iload_n 2, 1), (.iload 4, 2), (.iadd, 1), (.iaload, 1), (.aload_n 1, 1), (.iload 4, 2), (.invokevirtual 152, 3), (.if_icmp .eq 5, 3), (.iconst 0, 1), (.ireturn, 1), (.iinc 4 1, 3), (.goto (-29), 3), (.iconst 1, 1)] := zdcA_ok (by decide +kernel)
theorem dX4_beginsThere_26 : decode cX4_beginsThere 26 = .ok (.if_icmp .ge 29, 3) := dX4_beginsThere_r26.1
theorem dX4_beginsThere_29 : decode cX4_beginsThere 29 = .ok (.aload_n 0, 1) := dX4_beginsThere_r26.2.1
theorem dX4_beginsThere_30 : decode cX4_beginsThere 30 = .ok (.getfield 23, 3) := dX4_beginsThere_r26.2.2.1
theorem dX4_beginsThere_33 : decode cX4_beginsThere 33 = .ok (.iload_n 2, 1) := dX4_beginsThere_r26.2.2.2.1
theorem dX4_beginsThere_34 : decode cX4_beginsThere 34 = .ok (.iload 4, 2) := dX4_beginsThere_r26.2.2.2.2.1
theorem dX4_beginsThere_36 : decode cX4_beginsThere 36 = .ok (.iadd, 1) := dX4_beginsThere_r26.2.2.2.2.2.1
theorem dX4_beginsThere_37 : decode cX4_beginsThere 37 = .ok (.iaload, 1) := dX4_beginsThere_r26.2.2.2.2.2.2.1
theorem dX4_beginsThere_38 : decode cX4_beginsThere 38 = .ok (.aload_n 1, 1) := dX4_beginsThere_r26.2.2.2.2.2.2.2.1
theorem dX4_beginsThere_39 : decode cX4_beginsThere 39 = .ok (.iload 4, 2) := dX4_beginsThere_r26.2.2.2.2.2.2.2.2.1
theorem dX4_beginsThere_41 : decode cX4_beginsThere 41 = .ok (.invokevirtual 152, 3) := dX4_beginsThere_r26.2.2.2.2.2.2.2.2.2.1
theorem dX4_beginsThere_44 : decode cX4_beginsThere 44 = .ok (.if_icmp .eq 5, 3) := dX4_beginsThere_r26.2.2.2.2.2.2.2.2.2.2.1
theorem dX4_beginsThere_47 : decode cX4_beginsThere 47 = .ok (.iconst 0, 1) := dX4_beginsThere_r26.2.2.2.2.2.2.2.2.2.2.2.1
theorem dX4_beginsThere_48 : decode cX4_beginsThere 48 = .ok (.ireturn, 1) := dX4_beginsThere_r26.2.2.2.2.2.2.2.2.2.2.2.2.1
theorem dX4_beginsThere_49 : decode cX4_beginsThere 49 = .ok (.iinc 4 1, 3) := dX4_beginsThere_r26.2.2.2.2.2.2.2.2.2.2.2.2.2.1
theorem dX4_beginsThere_52 : decode cX4_beginsThere 52 = .ok (.goto (-29), 3) := dX4_beginsThere_r26.2.2.2.2.2.2.2.2.2.2.2.2.2.2.1
theorem dX4_beginsThere_55 : decode cX4_beginsThere 55 = .ok (.iconst 1, 1) := dX4_beginsThere_r26.2.2.2.2.2.2.2.2.2.2.2.2.2.2.2.1
theorem dX4_beginsThere_56 : decode cX4_beginsThere 56 = .ok (.ireturn, 1) := zdc_ok (by decide +kernel)
def wq_37_23 (t1 : Nat) (v2 : Int32) (v3 : Int32) (Q : Bool → zf_Me → Prop) : Nat → Int32 → zf_Me → Prop
  | 0, _, _ => False
  | n + 1, v4, m => ((v4.toInt ≥ v3.toInt → Q true m) ∧ (v4.toInt < v3.toInt → ((0 ≤ (Int32.toInt (v2 + v4)) ∧ (Int32.toInt (v2 + v4)) < (160 : Int)) ∧ wp_215 t1 v4 m (fun x3 m4 => ((((m.1 43 (Int32.toInt (v2 + v4)).toNat)).toInt = x3.toInt → wq_37_23 t1 v2 v3 Q n (v4 + 1) m4) ∧ (¬ ((m.1 43 (Int32.toInt (v2 + v4)).toNat)).toInt = x3.toInt → Q false m4))))))
theorem zq_37_23 {d : Nat} (hd : 5 ≤ d) {t1 : Nat} (hp1 : t1 < 12) {v2 : Int32} {v3 : Int32} {Q : Bool → zf_Me → Prop} : ∀ (n : Nat) (v4 : Int32) (m : zf_Me), wq_37_23 t1 v2 v3 Q n v4 m → zf_W none 0 0 d zt_37 23 [some (.inr (.inr (1, 35))), some (.inr (.inr (2, t1))), some (.inl v2), some (.inl v3), some (.inl v4)] [] m (zf_B Q) := by
  obtain ⟨e, rfl⟩ : ∃ z, d = z + 1 := ⟨d - 1, by omega⟩
  intro n
  induction n with
  | zero =>
    intro v4 m h
    exact h.elim
  | succ n ih =>
    intro v4 m h
    unfold wq_37_23 at h
    refine zf_ld (pc' := 25) (v := .inl v4) dX4_beginsThere_23 rfl (fun _ _ _ => rfl) rfl rfl rfl ?_
    refine zf_ld (pc' := 26) (v := .inl v3) dX4_beginsThere_25 rfl (fun _ _ _ => rfl) rfl rfl rfl ?_
    refine zf_icmp_ge (tgt := 55) (pc' := 29) dX4_beginsThere_26 rfl rfl (fun g => ?_) (fun g => ?_)
    · replace h := h.1 g
      refine zf_ic (v := 1) (pc' := 56) dX4_beginsThere_55 rfl rfl ?_
      exact zf_rb (b := true) dX4_beginsThere_56 rfl h
    · replace h := h.2 g
      refine zf_ld (pc' := 30) (v := .inr (.inr (1, 35))) dX4_beginsThere_29 rfl (fun _ _ _ => rfl) rfl rfl rfl ?_
      refine zf_gfr (pc' := 33) (b := 43) dX4_beginsThere_30 rfl rfl (by decide) rfl rfl ?_
      refine zf_ld (pc' := 34) (v := .inl v2) dX4_beginsThere_33 rfl (fun _ _ _ => rfl) rfl rfl rfl ?_
      refine zf_ld (pc' := 36) (v := .inl v4) dX4_beginsThere_34 rfl (fun _ _ _ => rfl) rfl rfl rfl ?_
      refine zf_in (pc' := 37) (S' := [.inl (v2 + v4), .inr (.inr (1, 43))]) dX4_beginsThere_36 rfl (fun _ _ _ => rfl) ?_
      refine zf_ial (pc' := 38) dX4_beginsThere_37 rfl (⟨by decide, rfl⟩ : zf_arr 43 160).1 (⟨by decide, rfl⟩ : zf_arr 43 160).2 h.1 rfl ?_
      replace h := h.2
      refine zf_ld (pc' := 39) (v := .inr (.inr (2, t1))) dX4_beginsThere_38 rfl (fun _ _ _ => rfl) rfl rfl rfl ?_
      refine zf_ld (pc' := 41) (v := .inl v4) dX4_beginsThere_39 rfl (fun _ _ _ => rfl) rfl rfl rfl ?_
      refine zf_iv2 (k := 215) (pc' := 44) (r := [.inl (m.1 43 (Int32.toInt (v2 + v4)).toNat)]) dX4_beginsThere_41 rfl rfl rfl rfl hp1 rfl rfl (zr_215 (by omega) hp1 h) (zf_kI (fun x3 m4 h => ?_))
      refine zf_icmp_eq (tgt := 49) (pc' := 47) dX4_beginsThere_44 rfl rfl (fun g => ?_) (fun g => ?_)
      · replace h := h.1 g
        refine zf_ii (y := (v4 + 1)) (L2 := [some (.inr (.inr (1, 35))), some (.inr (.inr (2, t1))), some (.inl v2), some (.inl v3), some (.inl (v4 + 1))]) (pc' := 52) dX4_beginsThere_49 rfl rfl rfl rfl rfl ?_
        refine zf_goto (tgt := 23) dX4_beginsThere_52 rfl ?_
        exact zf_lo (ih _ _ h) ⟨rfl, rfl, rfl, rfl, rfl, trivial⟩
      · replace h := h.2 g
        refine zf_ic (v := 0) (pc' := 48) dX4_beginsThere_47 rfl rfl ?_
        exact zf_rb (b := false) dX4_beginsThere_48 rfl h
def wp_37 (t1 : Nat) (v2 : Int32) (v3 : Int32) (m : zf_Me) (Q : Bool → zf_Me → Prop) : Prop := wp_214 t1 m (fun x1 m2 => ((v3.toInt > x1.toInt → Q false m2) ∧ (v3.toInt ≤ x1.toInt → ((((v2 + v3)).toInt ≤ ((m2.1 35 2)).toInt → (∃ n23, wq_37_23 t1 v2 v3 Q n23 0 m2)) ∧ (((v2 + v3)).toInt > ((m2.1 35 2)).toInt → Q false m2)))))
theorem zr_37 {d : Nat} (hd : 5 ≤ d) {t1 : Nat} (hp1 : t1 < 12) {v2 : Int32} {v3 : Int32} {Q : Bool → zf_Me → Prop} {m : zf_Me} (h : wp_37 t1 v2 v3 m Q) : zf_M d 37 [.inr (.inr (1, 35)), .inr (.inr (2, t1)), .inl v2, .inl v3] m (zf_B Q) := by
  obtain ⟨e, rfl⟩ : ∃ z, d = z + 1 := ⟨d - 1, by omega⟩
  unfold wp_37 at h
  refine zf_M_of (Nat.le_of_ble_eq_true rfl) zm_37 (L := [some (.inr (.inr (1, 35))), some (.inr (.inr (2, t1))), some (.inl v2), some (.inl v3), none]) rfl ?_
  refine zf_ld (pc' := 1) (v := .inl v3) dX4_beginsThere_0 rfl (fun _ _ _ => rfl) rfl rfl rfl ?_
  refine zf_ld (pc' := 2) (v := .inr (.inr (2, t1))) dX4_beginsThere_1 rfl (fun _ _ _ => rfl) rfl rfl rfl ?_
  refine zf_iv2 (k := 214) (pc' := 5) (r := [.inl v3]) dX4_beginsThere_2 rfl rfl rfl rfl hp1 rfl rfl (zr_214 (by omega) hp1 h) (zf_kI (fun x1 m2 h => ?_))
  refine zf_icmp_gt (tgt := 18) (pc' := 8) dX4_beginsThere_5 rfl rfl (fun g => ?_) (fun g => ?_)
  · replace h := h.1 g
    refine zf_ic (v := 0) (pc' := 19) dX4_beginsThere_18 rfl rfl ?_
    exact zf_rb (b := false) dX4_beginsThere_19 rfl h
  · replace h := h.2 g
    refine zf_ld (pc' := 9) (v := .inl v2) dX4_beginsThere_8 rfl (fun _ _ _ => rfl) rfl rfl rfl ?_
    refine zf_ld (pc' := 10) (v := .inl v3) dX4_beginsThere_9 rfl (fun _ _ _ => rfl) rfl rfl rfl ?_
    refine zf_in (pc' := 11) (S' := [.inl (v2 + v3)]) dX4_beginsThere_10 rfl (fun _ _ _ => rfl) ?_
    refine zf_ld (pc' := 12) (v := .inr (.inr (1, 35))) dX4_beginsThere_11 rfl (fun _ _ _ => rfl) rfl rfl rfl ?_
    refine zf_gfi (pc' := 15) dX4_beginsThere_12 rfl rfl (by decide) rfl rfl ?_
    refine zf_icmp_le (tgt := 20) (pc' := 18) dX4_beginsThere_15 rfl rfl (fun g => ?_) (fun g => ?_)
    · replace h := h.1 g
      refine zf_ic (v := 0) (pc' := 21) dX4_beginsThere_20 rfl rfl ?_
      refine zf_st (pc' := 23) (L2 := [some (.inr (.inr (1, 35))), some (.inr (.inr (2, t1))), some (.inl v2), some (.inl v3), some (.inl 0)]) dX4_beginsThere_21 rfl (fun _ _ _ => rfl) rfl rfl rfl rfl rfl rfl ?_
      obtain ⟨n23, h⟩ := h
      exact zf_lo (zq_37_23 (by omega) hp1 n23 _ _ h) ⟨rfl, rfl, rfl, rfl, rfl, trivial⟩
    · replace h := h.2 g
      refine zf_ic (v := 0) (pc' := 19) dX4_beginsThere_18 rfl rfl ?_
      exact zf_rb (b := false) dX4_beginsThere_19 rfl h
def zt_36 : zx_MT := (4, yX4_wordBeginning, cX4_wordBeginning, 4, (some FieldType.int), 2, 0)
theorem zm_36 : zx_m 36 = zt_36 := rfl
theorem dX4_wordBeginning_r0 : zdcP cX4_wordBeginning 0 [(.iconst 0, 1), (.istore_n 3, 1), (.iload_n 3, 1), (.bipush 12, 2), (.if_icmp .ge 24, 3), (.aload_n 0, 1), (.iload_n 3, 1), (.invokestatic 139, 3), (.iload_n 1, 1), (.iload_n 2, 1), (.invokevirtual 148, 3), (.ifCond .eq 5, 3), (.iload_n 3, 1), (.ireturn, 1), (.iinc 3 1, 3), (.goto (-24), 3)] := zdcA_ok (by decide +kernel)
theorem dX4_wordBeginning_0 : decode cX4_wordBeginning 0 = .ok (.iconst 0, 1) := dX4_wordBeginning_r0.1
theorem dX4_wordBeginning_1 : decode cX4_wordBeginning 1 = .ok (.istore_n 3, 1) := dX4_wordBeginning_r0.2.1
theorem dX4_wordBeginning_2 : decode cX4_wordBeginning 2 = .ok (.iload_n 3, 1) := dX4_wordBeginning_r0.2.2.1
theorem dX4_wordBeginning_3 : decode cX4_wordBeginning 3 = .ok (.bipush 12, 2) := dX4_wordBeginning_r0.2.2.2.1
theorem dX4_wordBeginning_5 : decode cX4_wordBeginning 5 = .ok (.if_icmp .ge 24, 3) := dX4_wordBeginning_r0.2.2.2.2.1
theorem dX4_wordBeginning_8 : decode cX4_wordBeginning 8 = .ok (.aload_n 0, 1) := dX4_wordBeginning_r0.2.2.2.2.2.1
theorem dX4_wordBeginning_9 : decode cX4_wordBeginning 9 = .ok (.iload_n 3, 1) := dX4_wordBeginning_r0.2.2.2.2.2.2.1
theorem dX4_wordBeginning_10 : decode cX4_wordBeginning 10 = .ok (.invokestatic 139, 3) := dX4_wordBeginning_r0.2.2.2.2.2.2.2.1
theorem dX4_wordBeginning_13 : decode cX4_wordBeginning 13 = .ok (.iload_n 1, 1) := dX4_wordBeginning_r0.2.2.2.2.2.2.2.2.1
theorem dX4_wordBeginning_14 : decode cX4_wordBeginning 14 = .ok (.iload_n 2, 1) := dX4_wordBeginning_r0.2.2.2.2.2.2.2.2.2.1
theorem dX4_wordBeginning_15 : decode cX4_wordBeginning 15 = .ok (.invokevirtual 148, 3) := dX4_wordBeginning_r0.2.2.2.2.2.2.2.2.2.2.1
theorem dX4_wordBeginning_18 : decode cX4_wordBeginning 18 = .ok (.ifCond .eq 5, 3) := dX4_wordBeginning_r0.2.2.2.2.2.2.2.2.2.2.2.1
theorem dX4_wordBeginning_21 : decode cX4_wordBeginning 21 = .ok (.iload_n 3, 1) := dX4_wordBeginning_r0.2.2.2.2.2.2.2.2.2.2.2.2.1
theorem dX4_wordBeginning_22 : decode cX4_wordBeginning 22 = .ok (.ireturn, 1) := dX4_wordBeginning_r0.2.2.2.2.2.2.2.2.2.2.2.2.2.1
theorem dX4_wordBeginning_23 : decode cX4_wordBeginning 23 = .ok (.iinc 3 1, 3) := dX4_wordBeginning_r0.2.2.2.2.2.2.2.2.2.2.2.2.2.2.1
theorem dX4_wordBeginning_26 : decode cX4_wordBeginning 26 = .ok (.goto (-24), 3) := dX4_wordBeginning_r0.2.2.2.2.2.2.2.2.2.2.2.2.2.2.2.1
theorem dX4_wordBeginning_r29 : zdcP cX4_wordBeginning 29 [(.iconst (-1), 1), (.ireturn, 1)] := zdcA_ok (by decide +kernel)
theorem dX4_wordBeginning_29 : decode cX4_wordBeginning 29 = .ok (.iconst (-1), 1) := dX4_wordBeginning_r29.1
theorem dX4_wordBeginning_30 : decode cX4_wordBeginning 30 = .ok (.ireturn, 1) := dX4_wordBeginning_r29.2.1
def wq_36_2 (v1 : Int32) (v2 : Int32) (Q : Int32 → zf_Me → Prop) : Nat → Int32 → zf_Me → Prop
  | 0, _, _ => False
  | n + 1, v3, m => ((v3.toInt ≥ 12 → Q (-1) m) ∧ (v3.toInt < 12 → wp_38 v3 m (fun t1 m2 => wp_37 t1 v1 v2 m2 (fun b3 m4 => ((b3 = false → wq_36_2 v1 v2 Q n (v3 + 1) m4) ∧ (b3 = true → Q v3 m4))))))
theorem zq_36_2 {d : Nat} (hd : 6 ≤ d) {v1 : Int32} {v2 : Int32} {Q : Int32 → zf_Me → Prop} : ∀ (n : Nat) (v3 : Int32) (m : zf_Me), wq_36_2 v1 v2 Q n v3 m → zf_W none 0 0 d zt_36 2 [some (.inr (.inr (1, 35))), some (.inl v1), some (.inl v2), some (.inl v3)] [] m (zf_I Q) := by
  obtain ⟨e, rfl⟩ : ∃ z, d = z + 1 := ⟨d - 1, by omega⟩
  intro n
  induction n with
  | zero =>
    intro v3 m h
    exact h.elim
  | succ n ih =>
    intro v3 m h
    unfold wq_36_2 at h
    refine zf_ld (pc' := 3) (v := .inl v3) dX4_wordBeginning_2 rfl (fun _ _ _ => rfl) rfl rfl rfl ?_
    refine zf_bi (v := 12) (pc' := 5) dX4_wordBeginning_3 rfl rfl ?_
    refine zf_icmp_ge (tgt := 29) (pc' := 8) dX4_wordBeginning_5 rfl rfl (fun g => ?_) (fun g => ?_)
    · replace h := h.1 g
      refine zf_ic (v := (-1)) (pc' := 30) dX4_wordBeginning_29 rfl rfl ?_
      exact zf_ri dX4_wordBeginning_30 rfl h
    · replace h := h.2 g
      refine zf_ld (pc' := 9) (v := .inr (.inr (1, 35))) dX4_wordBeginning_8 rfl (fun _ _ _ => rfl) rfl rfl rfl ?_
      refine zf_ld (pc' := 10) (v := .inl v3) dX4_wordBeginning_9 rfl (fun _ _ _ => rfl) rfl rfl rfl ?_
      refine zf_is (k := 38) (pc' := 13) (r := [.inr (.inr (1, 35))]) dX4_wordBeginning_10 rfl rfl rfl rfl rfl (zr_38 (by omega) h) (zf_kT (fun t1 m2 htt1 h => ?_))
      refine zf_ld (pc' := 14) (v := .inl v1) dX4_wordBeginning_13 rfl (fun _ _ _ => rfl) rfl rfl rfl ?_
      refine zf_ld (pc' := 15) (v := .inl v2) dX4_wordBeginning_14 rfl (fun _ _ _ => rfl) rfl rfl rfl ?_
      refine zf_iv (k := 37) (pc' := 18) (r := []) dX4_wordBeginning_15 rfl rfl rfl rfl (by decide) rfl rfl rfl (zr_37 (by omega) htt1 h) (zf_kB (fun b3 m4 h => ?_))
      refine zf_ib_eq (tgt := 23) (pc' := 21) dX4_wordBeginning_18 rfl rfl (fun g => ?_) (fun g => ?_)
      · replace h := h.1 g
        refine zf_ii (y := (v3 + 1)) (L2 := [some (.inr (.inr (1, 35))), some (.inl v1), some (.inl v2), some (.inl (v3 + 1))]) (pc' := 26) dX4_wordBeginning_23 rfl rfl rfl rfl rfl ?_
        refine zf_goto (tgt := 2) dX4_wordBeginning_26 rfl ?_
        exact zf_lo (ih _ _ h) ⟨rfl, rfl, rfl, rfl, trivial⟩
      · replace h := h.2 g
        refine zf_ld (pc' := 22) (v := .inl v3) dX4_wordBeginning_21 rfl (fun _ _ _ => rfl) rfl rfl rfl ?_
        exact zf_ri dX4_wordBeginning_22 rfl h
def wp_36 (v1 : Int32) (v2 : Int32) (m : zf_Me) (Q : Int32 → zf_Me → Prop) : Prop := (∃ n2, wq_36_2 v1 v2 Q n2 0 m)
theorem zr_36 {d : Nat} (hd : 6 ≤ d) {v1 : Int32} {v2 : Int32} {Q : Int32 → zf_Me → Prop} {m : zf_Me} (h : wp_36 v1 v2 m Q) : zf_M d 36 [.inr (.inr (1, 35)), .inl v1, .inl v2] m (zf_I Q) := by
  unfold wp_36 at h
  refine zf_M_of (Nat.le_of_ble_eq_true rfl) zm_36 (L := [some (.inr (.inr (1, 35))), some (.inl v1), some (.inl v2), none]) rfl ?_
  refine zf_ic (v := 0) (pc' := 1) dX4_wordBeginning_0 rfl rfl ?_
  refine zf_st (pc' := 2) (L2 := [some (.inr (.inr (1, 35))), some (.inl v1), some (.inl v2), some (.inl 0)]) dX4_wordBeginning_1 rfl (fun _ _ _ => rfl) rfl rfl rfl rfl rfl rfl ?_
  obtain ⟨n2, h⟩ := h
  exact zf_lo (zq_36_2 (by omega) n2 _ _ h) ⟨rfl, rfl, rfl, rfl, trivial⟩
def zt_35 : zx_MT := (4, yX4_readWord, cX4_readWord, 4, (some FieldType.int), 0, 0)
theorem zm_35 : zx_m 35 = zt_35 := rfl
theorem dX4_readWord_r0 : zdcP cX4_readWord 0 [(.aload_n 0, 1), (.getfield 31, 3), (.istore_n 1, 1), (.iconst 1, 1), (.istore_n 2, 1), (.iload_n 2, 1), (.bipush 8, 2), (.if_icmp .gt 54, 3), (.aload_n 0, 1), (.iload_n 1, 1), (.iload_n 2, 1), (.invokevirtual 136, 3), (.istore_n 3, 1), (.iload_n 3, 1), (.iconst (-1), 1), (.if_icmp .ne 13, 3)] := zdcA_ok (by decide +kernel)
theorem dX4_readWord_0 : decode cX4_readWord 0 = .ok (.aload_n 0, 1) := dX4_readWord_r0.1
theorem dX4_readWord_1 : decode cX4_readWord 1 = .ok (.getfield 31, 3) := dX4_readWord_r0.2.1
theorem dX4_readWord_4 : decode cX4_readWord 4 = .ok (.istore_n 1, 1) := dX4_readWord_r0.2.2.1
theorem dX4_readWord_5 : decode cX4_readWord 5 = .ok (.iconst 1, 1) := dX4_readWord_r0.2.2.2.1
theorem dX4_readWord_6 : decode cX4_readWord 6 = .ok (.istore_n 2, 1) := dX4_readWord_r0.2.2.2.2.1
theorem dX4_readWord_7 : decode cX4_readWord 7 = .ok (.iload_n 2, 1) := dX4_readWord_r0.2.2.2.2.2.1
theorem dX4_readWord_8 : decode cX4_readWord 8 = .ok (.bipush 8, 2) := dX4_readWord_r0.2.2.2.2.2.2.1
theorem dX4_readWord_10 : decode cX4_readWord 10 = .ok (.if_icmp .gt 54, 3) := dX4_readWord_r0.2.2.2.2.2.2.2.1
theorem dX4_readWord_13 : decode cX4_readWord 13 = .ok (.aload_n 0, 1) := dX4_readWord_r0.2.2.2.2.2.2.2.2.1
theorem dX4_readWord_14 : decode cX4_readWord 14 = .ok (.iload_n 1, 1) := dX4_readWord_r0.2.2.2.2.2.2.2.2.2.1
theorem dX4_readWord_15 : decode cX4_readWord 15 = .ok (.iload_n 2, 1) := dX4_readWord_r0.2.2.2.2.2.2.2.2.2.2.1
theorem dX4_readWord_16 : decode cX4_readWord 16 = .ok (.invokevirtual 136, 3) := dX4_readWord_r0.2.2.2.2.2.2.2.2.2.2.2.1
theorem dX4_readWord_19 : decode cX4_readWord 19 = .ok (.istore_n 3, 1) := dX4_readWord_r0.2.2.2.2.2.2.2.2.2.2.2.2.1
theorem dX4_readWord_20 : decode cX4_readWord 20 = .ok (.iload_n 3, 1) := dX4_readWord_r0.2.2.2.2.2.2.2.2.2.2.2.2.2.1
theorem dX4_readWord_21 : decode cX4_readWord 21 = .ok (.iconst (-1), 1) := dX4_readWord_r0.2.2.2.2.2.2.2.2.2.2.2.2.2.2.1
theorem dX4_readWord_22 : decode cX4_readWord 22 = .ok (.if_icmp .ne 13, 3) := dX4_readWord_r0.2.2.2.2.2.2.2.2.2.2.2.2.2.2.2.1
theorem dX4_readWord_r25 : zdcP cX4_readWord 25 [(.aload_n 0, 1), (.aload_n 0, 1), (.getfield 31, 3), (.putfield 40, 3), (.iconst (-1), 1), (.ireturn, 1), (.aload_n 0, 1), (.dup, 1), (.getfield 31, 3), (.iconst 1, 1), (.iadd, 1), (.putfield 31, 3), (.iload_n 3, 1), (.invokestatic 139, 3), (.invokevirtual 143, 3), (.iload_n 2, 1)] := zdcA_ok (by decide +kernel)
theorem dX4_readWord_25 : decode cX4_readWord 25 = .ok (.aload_n 0, 1) := dX4_readWord_r25.1
theorem dX4_readWord_26 : decode cX4_readWord 26 = .ok (.aload_n 0, 1) := dX4_readWord_r25.2.1
theorem dX4_readWord_27 : decode cX4_readWord 27 = .ok (.getfield 31, 3) := dX4_readWord_r25.2.2.1
theorem dX4_readWord_30 : decode cX4_readWord 30 = .ok (.putfield 40, 3) := dX4_readWord_r25.2.2.2.1
theorem dX4_readWord_33 : decode cX4_readWord 33 = .ok (.iconst (-1), 1) := dX4_readWord_r25.2.2.2.2.1
theorem dX4_readWord_34 : decode cX4_readWord 34 = .ok (.ireturn, 1) := dX4_readWord_r25.2.2.2.2.2.1
theorem dX4_readWord_35 : decode cX4_readWord 35 = .ok (.aload_n 0, 1) := dX4_readWord_r25.2.2.2.2.2.2.1
theorem dX4_readWord_36 : decode cX4_readWord 36 = .ok (.dup, 1) := dX4_readWord_r25.2.2.2.2.2.2.2.1
theorem dX4_readWord_37 : decode cX4_readWord 37 = .ok (.getfield 31, 3) := dX4_readWord_r25.2.2.2.2.2.2.2.2.1
theorem dX4_readWord_40 : decode cX4_readWord 40 = .ok (.iconst 1, 1) := dX4_readWord_r25.2.2.2.2.2.2.2.2.2.1
theorem dX4_readWord_41 : decode cX4_readWord 41 = .ok (.iadd, 1) := dX4_readWord_r25.2.2.2.2.2.2.2.2.2.2.1
theorem dX4_readWord_42 : decode cX4_readWord 42 = .ok (.putfield 31, 3) := dX4_readWord_r25.2.2.2.2.2.2.2.2.2.2.2.1
theorem dX4_readWord_45 : decode cX4_readWord 45 = .ok (.iload_n 3, 1) := dX4_readWord_r25.2.2.2.2.2.2.2.2.2.2.2.2.1
theorem dX4_readWord_46 : decode cX4_readWord 46 = .ok (.invokestatic 139, 3) := dX4_readWord_r25.2.2.2.2.2.2.2.2.2.2.2.2.2.1
theorem dX4_readWord_49 : decode cX4_readWord 49 = .ok (.invokevirtual 143, 3) := dX4_readWord_r25.2.2.2.2.2.2.2.2.2.2.2.2.2.2.1
theorem dX4_readWord_52 : decode cX4_readWord 52 = .ok (.iload_n 2, 1) := dX4_readWord_r25.2.2.2.2.2.2.2.2.2.2.2.2.2.2.2.1
theorem dX4_readWord_r53 : zdcP cX4_readWord 53 [(.if_icmp .ne 5, 3), (.iload_n 3, 1), (.ireturn, 1), (.iinc 2 1, 3), (.goto (-54), 3), (.iconst (-1), 1), (.ireturn, 1)] := zdcA_ok (by decide +kernel)
theorem dX4_readWord_53 : decode cX4_readWord 53 = .ok (.if_icmp .ne 5, 3) := dX4_readWord_r53.1
theorem dX4_readWord_56 : decode cX4_readWord 56 = .ok (.iload_n 3, 1) := dX4_readWord_r53.2.1
theorem dX4_readWord_57 : decode cX4_readWord 57 = .ok (.ireturn, 1) := dX4_readWord_r53.2.2.1
theorem dX4_readWord_58 : decode cX4_readWord 58 = .ok (.iinc 2 1, 3) := dX4_readWord_r53.2.2.2.1
theorem dX4_readWord_61 : decode cX4_readWord 61 = .ok (.goto (-54), 3) := dX4_readWord_r53.2.2.2.2.1
theorem dX4_readWord_64 : decode cX4_readWord 64 = .ok (.iconst (-1), 1) := dX4_readWord_r53.2.2.2.2.2.1
theorem dX4_readWord_65 : decode cX4_readWord 65 = .ok (.ireturn, 1) := dX4_readWord_r53.2.2.2.2.2.2.1
def wq_35_7 (Q : Int32 → zf_Me → Prop) : Nat → Int32 → Int32 → zf_Me → Prop
  | 0, _, _, _ => False
  | n + 1, v1, v2, m => ((v2.toInt > 8 → Q (-1) m) ∧ (v2.toInt ≤ 8 → wp_36 v1 v2 m (fun x1 m2 => ((¬ x1.toInt = (-1) → (∀ m3, m3 = zf_u m2 35 3 ((m2.1 35 3) + 1) → wp_38 x1 m3 (fun t5 m6 => wp_214 t5 m6 (fun x7 m8 => ((¬ x7.toInt = v2.toInt → wq_35_7 Q n v1 (v2 + 1) m8) ∧ (x7.toInt = v2.toInt → Q x1 m8)))))) ∧ (x1.toInt = (-1) → (∀ m9, m9 = zf_u m2 35 6 (m2.1 35 3) → Q (-1) m9))))))
theorem zq_35_7 {d : Nat} (hd : 7 ≤ d) {Q : Int32 → zf_Me → Prop} : ∀ (n : Nat) (v1 : Int32) (v2 : Int32) (m : zf_Me), wq_35_7 Q n v1 v2 m → zf_W none 0 0 d zt_35 7 [some (.inr (.inr (1, 35))), some (.inl v1), some (.inl v2), none] [] m (zf_I Q) := by
  obtain ⟨e, rfl⟩ : ∃ z, d = z + 1 := ⟨d - 1, by omega⟩
  intro n
  induction n with
  | zero =>
    intro v1 v2 m h
    exact h.elim
  | succ n ih =>
    intro v1 v2 m h
    unfold wq_35_7 at h
    refine zf_ld (pc' := 8) (v := .inl v2) dX4_readWord_7 rfl (fun _ _ _ => rfl) rfl rfl rfl ?_
    refine zf_bi (v := 8) (pc' := 10) dX4_readWord_8 rfl rfl ?_
    refine zf_icmp_gt (tgt := 64) (pc' := 13) dX4_readWord_10 rfl rfl (fun g => ?_) (fun g => ?_)
    · replace h := h.1 g
      refine zf_ic (v := (-1)) (pc' := 65) dX4_readWord_64 rfl rfl ?_
      exact zf_ri dX4_readWord_65 rfl h
    · replace h := h.2 g
      refine zf_ld (pc' := 14) (v := .inr (.inr (1, 35))) dX4_readWord_13 rfl (fun _ _ _ => rfl) rfl rfl rfl ?_
      refine zf_ld (pc' := 15) (v := .inl v1) dX4_readWord_14 rfl (fun _ _ _ => rfl) rfl rfl rfl ?_
      refine zf_ld (pc' := 16) (v := .inl v2) dX4_readWord_15 rfl (fun _ _ _ => rfl) rfl rfl rfl ?_
      refine zf_iv (k := 36) (pc' := 19) (r := []) dX4_readWord_16 rfl rfl rfl rfl (by decide) rfl rfl rfl (zr_36 (by omega) h) (zf_kI (fun x1 m2 h => ?_))
      refine zf_st (pc' := 20) (L2 := [some (.inr (.inr (1, 35))), some (.inl v1), some (.inl v2), some (.inl x1)]) dX4_readWord_19 rfl (fun _ _ _ => rfl) rfl rfl rfl rfl rfl rfl ?_
      refine zf_ld (pc' := 21) (v := .inl x1) dX4_readWord_20 rfl (fun _ _ _ => rfl) rfl rfl rfl ?_
      refine zf_ic (v := (-1)) (pc' := 22) dX4_readWord_21 rfl rfl ?_
      refine zf_icmp_ne (tgt := 35) (pc' := 25) dX4_readWord_22 rfl rfl (fun g => ?_) (fun g => ?_)
      · replace h := h.1 g
        refine zf_ld (pc' := 36) (v := .inr (.inr (1, 35))) dX4_readWord_35 rfl (fun _ _ _ => rfl) rfl rfl rfl ?_
        refine zf_in (pc' := 37) (S' := [.inr (.inr (1, 35)), .inr (.inr (1, 35))]) dX4_readWord_36 rfl (fun _ _ _ => rfl) ?_
        refine zf_gfi (pc' := 40) dX4_readWord_37 rfl rfl (by decide) rfl rfl ?_
        refine zf_ic (v := 1) (pc' := 41) dX4_readWord_40 rfl rfl ?_
        refine zf_in (pc' := 42) (S' := [.inl ((m2.1 35 3) + 1), .inr (.inr (1, 35))]) dX4_readWord_41 rfl (fun _ _ _ => rfl) ?_
        refine zf_pf (pc' := 45) dX4_readWord_42 rfl rfl (by decide) rfl rfl rfl (fun m3 e4 => ?_)
        replace h := h m3 e4
        refine zf_ld (pc' := 46) (v := .inl x1) dX4_readWord_45 rfl (fun _ _ _ => rfl) rfl rfl rfl ?_
        refine zf_is (k := 38) (pc' := 49) (r := []) dX4_readWord_46 rfl rfl rfl rfl rfl (zr_38 (by omega) h) (zf_kT (fun t5 m6 htt5 h => ?_))
        refine zf_iv2 (k := 214) (pc' := 52) (r := []) dX4_readWord_49 rfl rfl rfl rfl htt5 rfl rfl (zr_214 (by omega) htt5 h) (zf_kI (fun x7 m8 h => ?_))
        refine zf_ld (pc' := 53) (v := .inl v2) dX4_readWord_52 rfl (fun _ _ _ => rfl) rfl rfl rfl ?_
        refine zf_icmp_ne (tgt := 58) (pc' := 56) dX4_readWord_53 rfl rfl (fun g => ?_) (fun g => ?_)
        · replace h := h.1 g
          refine zf_ii (y := (v2 + 1)) (L2 := [some (.inr (.inr (1, 35))), some (.inl v1), some (.inl (v2 + 1)), some (.inl x1)]) (pc' := 61) dX4_readWord_58 rfl rfl rfl rfl rfl ?_
          refine zf_goto (tgt := 7) dX4_readWord_61 rfl ?_
          exact zf_lo (ih _ _ _ h) ⟨rfl, rfl, rfl, trivial⟩
        · replace h := h.2 g
          refine zf_ld (pc' := 57) (v := .inl x1) dX4_readWord_56 rfl (fun _ _ _ => rfl) rfl rfl rfl ?_
          exact zf_ri dX4_readWord_57 rfl h
      · replace h := h.2 g
        refine zf_ld (pc' := 26) (v := .inr (.inr (1, 35))) dX4_readWord_25 rfl (fun _ _ _ => rfl) rfl rfl rfl ?_
        refine zf_ld (pc' := 27) (v := .inr (.inr (1, 35))) dX4_readWord_26 rfl (fun _ _ _ => rfl) rfl rfl rfl ?_
        refine zf_gfi (pc' := 30) dX4_readWord_27 rfl rfl (by decide) rfl rfl ?_
        refine zf_pf (pc' := 33) dX4_readWord_30 rfl rfl (by decide) rfl rfl rfl (fun m9 e10 => ?_)
        replace h := h m9 e10
        refine zf_ic (v := (-1)) (pc' := 34) dX4_readWord_33 rfl rfl ?_
        exact zf_ri dX4_readWord_34 rfl h
def wp_35 (m : zf_Me) (Q : Int32 → zf_Me → Prop) : Prop := (∃ n7, wq_35_7 Q n7 (m.1 35 3) 1 m)
theorem zr_35 {d : Nat} (hd : 7 ≤ d) {Q : Int32 → zf_Me → Prop} {m : zf_Me} (h : wp_35 m Q) : zf_M d 35 [.inr (.inr (1, 35))] m (zf_I Q) := by
  unfold wp_35 at h
  refine zf_M_of (Nat.le_of_ble_eq_true rfl) zm_35 (L := [some (.inr (.inr (1, 35))), none, none, none]) rfl ?_
  refine zf_ld (pc' := 1) (v := .inr (.inr (1, 35))) dX4_readWord_0 rfl (fun _ _ _ => rfl) rfl rfl rfl ?_
  refine zf_gfi (pc' := 4) dX4_readWord_1 rfl rfl (by decide) rfl rfl ?_
  refine zf_st (pc' := 5) (L2 := [some (.inr (.inr (1, 35))), some (.inl (m.1 35 3)), none, none]) dX4_readWord_4 rfl (fun _ _ _ => rfl) rfl rfl rfl rfl rfl rfl ?_
  refine zf_ic (v := 1) (pc' := 6) dX4_readWord_5 rfl rfl ?_
  refine zf_st (pc' := 7) (L2 := [some (.inr (.inr (1, 35))), some (.inl (m.1 35 3)), some (.inl 1), none]) dX4_readWord_6 rfl (fun _ _ _ => rfl) rfl rfl rfl rfl rfl rfl ?_
  obtain ⟨n7, h⟩ := h
  exact zf_lo (zq_35_7 (by omega) n7 _ _ _ h) ⟨rfl, rfl, rfl, trivial⟩
end
section
/-! part 28: methods 28..: laid by wip/flat/dec.py -/
def zt_28 : zx_MT := (4, yX4_hasRoomFor, cX4_hasRoomFor, 2, (some FieldType.boolean), 1, 0)
theorem zm_28 : zx_m 28 = zt_28 := rfl
theorem dX4_hasRoomFor_0 : decode cX4_hasRoomFor 0 = .ok (.iload_n 1, 1) := zdc_ok (by decide +kernel)
theorem dX4_hasRoomFor_1 : decode cX4_hasRoomFor 1 = .ok (.tableswitch 92 0 3 #[31, 31, 52, 71], 31) := by decide +kernel
theorem dX4_hasRoomFor_r32 : zdcP cX4_hasRoomFor 32 [(.aload_n 0, 1), (.getfield 17, 3), (.getfield 43, 3), (.getfield 82, 3), (.bipush 24, 2), (.if_icmp .ge 7, 3), (.iconst 1, 1), (.goto 4, 3), (.iconst 0, 1), (.ireturn, 1), (.aload_n 0, 1), (.getfield 17, 3), (.getfield 43, 3), (.getfield 82, 3), (.ifCond .le 7, 3), (.iconst 1, 1)] := zdcA_ok (by decide +kernel)
theorem dX4_hasRoomFor_32 : decode cX4_hasRoomFor 32 = .ok (.aload_n 0, 1) := dX4_hasRoomFor_r32.1
theorem dX4_hasRoomFor_33 : decode cX4_hasRoomFor 33 = .ok (.getfield 17, 3) := dX4_hasRoomFor_r32.2.1
theorem dX4_hasRoomFor_36 : decode cX4_hasRoomFor 36 = .ok (.getfield 43, 3) := dX4_hasRoomFor_r32.2.2.1
theorem dX4_hasRoomFor_39 : decode cX4_hasRoomFor 39 = .ok (.getfield 82, 3) := dX4_hasRoomFor_r32.2.2.2.1
theorem dX4_hasRoomFor_42 : decode cX4_hasRoomFor 42 = .ok (.bipush 24, 2) := dX4_hasRoomFor_r32.2.2.2.2.1
theorem dX4_hasRoomFor_44 : decode cX4_hasRoomFor 44 = .ok (.if_icmp .ge 7, 3) := dX4_hasRoomFor_r32.2.2.2.2.2.1
theorem dX4_hasRoomFor_47 : decode cX4_hasRoomFor 47 = .ok (.iconst 1, 1) := dX4_hasRoomFor_r32.2.2.2.2.2.2.1
theorem dX4_hasRoomFor_48 : decode cX4_hasRoomFor 48 = .ok (.goto 4, 3) := dX4_hasRoomFor_r32.2.2.2.2.2.2.2.1
theorem dX4_hasRoomFor_51 : decode cX4_hasRoomFor 51 = .ok (.iconst 0, 1) := dX4_hasRoomFor_r32.2.2.2.2.2.2.2.2.1
theorem dX4_hasRoomFor_52 : decode cX4_hasRoomFor 52 = .ok (.ireturn, 1) := dX4_hasRoomFor_r32.2.2.2.2.2.2.2.2.2.1
theorem dX4_hasRoomFor_53 : decode cX4_hasRoomFor 53 = .ok (.aload_n 0, 1) := dX4_hasRoomFor_r32.2.2.2.2.2.2.2.2.2.2.1
theorem dX4_hasRoomFor_54 : decode cX4_hasRoomFor 54 = .ok (.getfield 17, 3) := dX4_hasRoomFor_r32.2.2.2.2.2.2.2.2.2.2.2.1
theorem dX4_hasRoomFor_57 : decode cX4_hasRoomFor 57 = .ok (.getfield 43, 3) := dX4_hasRoomFor_r32.2.2.2.2.2.2.2.2.2.2.2.2.1
theorem dX4_hasRoomFor_60 : decode cX4_hasRoomFor 60 = .ok (.getfield 82, 3) := dX4_hasRoomFor_r32.2.2.2.2.2.2.2.2.2.2.2.2.2.1
theorem dX4_hasRoomFor_63 : decode cX4_hasRoomFor 63 = .ok (.ifCond .le 7, 3) := dX4_hasRoomFor_r32.2.2.2.2.2.2.2.2.2.2.2.2.2.2.1
theorem dX4_hasRoomFor_66 : decode cX4_hasRoomFor 66 = .ok (.iconst 1, 1) := dX4_hasRoomFor_r32.2.2.2.2.2.2.2.2.2.2.2.2.2.2.2.1
theorem dX4_hasRoomFor_r67 : zdcP cX4_hasRoomFor 67 [(.goto 4, 3), (.iconst 0, 1), (.ireturn, 1), (.aload_n 0, 1), (.getfield 17, 3), (.getfield 43, 3), (.getfield 100, 3), (.bipush 6, 2), (.if_icmp .ge 7, 3), (.iconst 1, 1), (.goto 4, 3), (.iconst 0, 1), (.ireturn, 1), (.iconst 1, 1), (.ireturn, 1)] := zdcA_ok (by decide +kernel)
theorem dX4_hasRoomFor_67 : decode cX4_hasRoomFor 67 = .ok (.goto 4, 3) := dX4_hasRoomFor_r67.1
theorem dX4_hasRoomFor_70 : decode cX4_hasRoomFor 70 = .ok (.iconst 0, 1) := dX4_hasRoomFor_r67.2.1
theorem dX4_hasRoomFor_71 : decode cX4_hasRoomFor 71 = .ok (.ireturn, 1) := dX4_hasRoomFor_r67.2.2.1
theorem dX4_hasRoomFor_72 : decode cX4_hasRoomFor 72 = .ok (.aload_n 0, 1) := dX4_hasRoomFor_r67.2.2.2.1
theorem dX4_hasRoomFor_73 : decode cX4_hasRoomFor 73 = .ok (.getfield 17, 3) := dX4_hasRoomFor_r67.2.2.2.2.1
theorem dX4_hasRoomFor_76 : decode cX4_hasRoomFor 76 = .ok (.getfield 43, 3) := dX4_hasRoomFor_r67.2.2.2.2.2.1
theorem dX4_hasRoomFor_79 : decode cX4_hasRoomFor 79 = .ok (.getfield 100, 3) := dX4_hasRoomFor_r67.2.2.2.2.2.2.1
theorem dX4_hasRoomFor_82 : decode cX4_hasRoomFor 82 = .ok (.bipush 6, 2) := dX4_hasRoomFor_r67.2.2.2.2.2.2.2.1
theorem dX4_hasRoomFor_84 : decode cX4_hasRoomFor 84 = .ok (.if_icmp .ge 7, 3) := dX4_hasRoomFor_r67.2.2.2.2.2.2.2.2.1
theorem dX4_hasRoomFor_87 : decode cX4_hasRoomFor 87 = .ok (.iconst 1, 1) := dX4_hasRoomFor_r67.2.2.2.2.2.2.2.2.2.1
theorem dX4_hasRoomFor_88 : decode cX4_hasRoomFor 88 = .ok (.goto 4, 3) := dX4_hasRoomFor_r67.2.2.2.2.2.2.2.2.2.2.1
theorem dX4_hasRoomFor_91 : decode cX4_hasRoomFor 91 = .ok (.iconst 0, 1) := dX4_hasRoomFor_r67.2.2.2.2.2.2.2.2.2.2.2.1
theorem dX4_hasRoomFor_92 : decode cX4_hasRoomFor 92 = .ok (.ireturn, 1) := dX4_hasRoomFor_r67.2.2.2.2.2.2.2.2.2.2.2.2.1
theorem dX4_hasRoomFor_93 : decode cX4_hasRoomFor 93 = .ok (.iconst 1, 1) := dX4_hasRoomFor_r67.2.2.2.2.2.2.2.2.2.2.2.2.2.1
theorem dX4_hasRoomFor_94 : decode cX4_hasRoomFor 94 = .ok (.ireturn, 1) := dX4_hasRoomFor_r67.2.2.2.2.2.2.2.2.2.2.2.2.2.2.1
def wp_28 (v1 : Int32) (m : zf_Me) (Q : Bool → zf_Me → Prop) : Prop := (((v1.toInt < 0 ∨ v1.toInt > 3) → Q true m) ∧ (v1.toInt = 0 → ((((m.1 37 4)).toInt ≥ 24 → Q false m) ∧ (((m.1 37 4)).toInt < 24 → Q true m))) ∧ (v1.toInt = 1 → ((((m.1 37 4)).toInt ≥ 24 → Q false m) ∧ (((m.1 37 4)).toInt < 24 → Q true m))) ∧ (v1.toInt = 2 → ((((m.1 37 4)).toInt ≤ 0 → Q false m) ∧ (((m.1 37 4)).toInt > 0 → Q true m))) ∧ (v1.toInt = 3 → ((((m.1 37 5)).toInt ≥ 6 → Q false m) ∧ (((m.1 37 5)).toInt < 6 → Q true m))))
theorem zr_28 {d : Nat} (hd : 0 ≤ d) {v1 : Int32} {Q : Bool → zf_Me → Prop} {m : zf_Me} (h : wp_28 v1 m Q) : zf_M d 28 [.inr (.inr (1, 35)), .inl v1] m (zf_B Q) := by
  unfold wp_28 at h
  refine zf_M_of (Nat.le_of_ble_eq_true rfl) zm_28 (L := [some (.inr (.inr (1, 35))), some (.inl v1)]) rfl ?_
  refine zf_ld (pc' := 1) (v := .inl v1) dX4_hasRoomFor_0 rfl (fun _ _ _ => rfl) rfl rfl rfl ?_
  refine zf_tsc (tgd := 93) dX4_hasRoomFor_1 rfl [32, 32, 53, 72] (by decide) (by decide) (fun g => ?_) (zl_cons (fun g => ?_) (zl_cons (fun g => ?_) (zl_cons (fun g => ?_) (zl_cons (fun g => ?_) (zl_nil)))))
  · replace h := h.1 (by omega)
    refine zf_ic (v := 1) (pc' := 94) dX4_hasRoomFor_93 rfl rfl ?_
    exact zf_rb (b := true) dX4_hasRoomFor_94 rfl h
  · replace h := h.2.1 (by omega)
    refine zf_ld (pc' := 33) (v := .inr (.inr (1, 35))) dX4_hasRoomFor_32 rfl (fun _ _ _ => rfl) rfl rfl rfl ?_
    refine zf_gfr (pc' := 36) (b := 36) dX4_hasRoomFor_33 rfl rfl (by decide) rfl rfl ?_
    refine zf_gfr (pc' := 39) (b := 37) dX4_hasRoomFor_36 rfl rfl zf_walk36.1 zf_walk36.2.1 rfl ?_
    refine zf_gfi (pc' := 42) dX4_hasRoomFor_39 rfl rfl zf_walk36.2.2.1.1 zf_walk36.2.2.1.2.1 rfl ?_
    refine zf_bi (v := 24) (pc' := 44) dX4_hasRoomFor_42 rfl rfl ?_
    refine zf_icmp_ge (tgt := 51) (pc' := 47) dX4_hasRoomFor_44 rfl rfl (fun g => ?_) (fun g => ?_)
    · replace h := h.1 g
      refine zf_ic (v := 0) (pc' := 52) dX4_hasRoomFor_51 rfl rfl ?_
      exact zf_rb (b := false) dX4_hasRoomFor_52 rfl h
    · replace h := h.2 g
      refine zf_ic (v := 1) (pc' := 48) dX4_hasRoomFor_47 rfl rfl ?_
      refine zf_goto (tgt := 52) dX4_hasRoomFor_48 rfl ?_
      exact zf_rb (b := true) dX4_hasRoomFor_52 rfl h
  · replace h := h.2.2.1 (by omega)
    refine zf_ld (pc' := 33) (v := .inr (.inr (1, 35))) dX4_hasRoomFor_32 rfl (fun _ _ _ => rfl) rfl rfl rfl ?_
    refine zf_gfr (pc' := 36) (b := 36) dX4_hasRoomFor_33 rfl rfl (by decide) rfl rfl ?_
    refine zf_gfr (pc' := 39) (b := 37) dX4_hasRoomFor_36 rfl rfl zf_walk36.1 zf_walk36.2.1 rfl ?_
    refine zf_gfi (pc' := 42) dX4_hasRoomFor_39 rfl rfl zf_walk36.2.2.1.1 zf_walk36.2.2.1.2.1 rfl ?_
    refine zf_bi (v := 24) (pc' := 44) dX4_hasRoomFor_42 rfl rfl ?_
    refine zf_icmp_ge (tgt := 51) (pc' := 47) dX4_hasRoomFor_44 rfl rfl (fun g => ?_) (fun g => ?_)
    · replace h := h.1 g
      refine zf_ic (v := 0) (pc' := 52) dX4_hasRoomFor_51 rfl rfl ?_
      exact zf_rb (b := false) dX4_hasRoomFor_52 rfl h
    · replace h := h.2 g
      refine zf_ic (v := 1) (pc' := 48) dX4_hasRoomFor_47 rfl rfl ?_
      refine zf_goto (tgt := 52) dX4_hasRoomFor_48 rfl ?_
      exact zf_rb (b := true) dX4_hasRoomFor_52 rfl h
  · replace h := h.2.2.2.1 (by omega)
    refine zf_ld (pc' := 54) (v := .inr (.inr (1, 35))) dX4_hasRoomFor_53 rfl (fun _ _ _ => rfl) rfl rfl rfl ?_
    refine zf_gfr (pc' := 57) (b := 36) dX4_hasRoomFor_54 rfl rfl (by decide) rfl rfl ?_
    refine zf_gfr (pc' := 60) (b := 37) dX4_hasRoomFor_57 rfl rfl zf_walk36.1 zf_walk36.2.1 rfl ?_
    refine zf_gfi (pc' := 63) dX4_hasRoomFor_60 rfl rfl zf_walk36.2.2.1.1 zf_walk36.2.2.1.2.1 rfl ?_
    refine zf_if_le (tgt := 70) (pc' := 66) dX4_hasRoomFor_63 rfl rfl (fun g => ?_) (fun g => ?_)
    · replace h := h.1 g
      refine zf_ic (v := 0) (pc' := 71) dX4_hasRoomFor_70 rfl rfl ?_
      exact zf_rb (b := false) dX4_hasRoomFor_71 rfl h
    · replace h := h.2 g
      refine zf_ic (v := 1) (pc' := 67) dX4_hasRoomFor_66 rfl rfl ?_
      refine zf_goto (tgt := 71) dX4_hasRoomFor_67 rfl ?_
      exact zf_rb (b := true) dX4_hasRoomFor_71 rfl h
  · replace h := h.2.2.2.2 (by omega)
    refine zf_ld (pc' := 73) (v := .inr (.inr (1, 35))) dX4_hasRoomFor_72 rfl (fun _ _ _ => rfl) rfl rfl rfl ?_
    refine zf_gfr (pc' := 76) (b := 36) dX4_hasRoomFor_73 rfl rfl (by decide) rfl rfl ?_
    refine zf_gfr (pc' := 79) (b := 37) dX4_hasRoomFor_76 rfl rfl zf_walk36.1 zf_walk36.2.1 rfl ?_
    refine zf_gfi (pc' := 82) dX4_hasRoomFor_79 rfl rfl zf_walk36.2.2.1.1 zf_walk36.2.2.1.2.1 rfl ?_
    refine zf_bi (v := 6) (pc' := 84) dX4_hasRoomFor_82 rfl rfl ?_
    refine zf_icmp_ge (tgt := 91) (pc' := 87) dX4_hasRoomFor_84 rfl rfl (fun g => ?_) (fun g => ?_)
    · replace h := h.1 g
      refine zf_ic (v := 0) (pc' := 92) dX4_hasRoomFor_91 rfl rfl ?_
      exact zf_rb (b := false) dX4_hasRoomFor_92 rfl h
    · replace h := h.2 g
      refine zf_ic (v := 1) (pc' := 88) dX4_hasRoomFor_87 rfl rfl ?_
      refine zf_goto (tgt := 92) dX4_hasRoomFor_88 rfl ?_
      exact zf_rb (b := true) dX4_hasRoomFor_92 rfl h
def zt_39 : zx_MT := (4, yX4_readSign, cX4_readSign, 2, (some FieldType.boolean), 1, 0)
theorem zm_39 : zx_m 39 = zt_39 := rfl
theorem dX4_readSign_r0 : zdcP cX4_readSign 0 [(.aload_n 0, 1), (.getfield 31, 3), (.aload_n 0, 1), (.getfield 27, 3), (.if_icmp .ge 16, 3), (.aload_n 0, 1), (.getfield 23, 3), (.aload_n 0, 1), (.getfield 31, 3), (.iaload, 1), (.iload_n 1, 1), (.if_icmp .eq 13, 3), (.aload_n 0, 1), (.aload_n 0, 1), (.getfield 31, 3), (.putfield 40, 3)] := zdcA_ok (by decide +kernel)
theorem dX4_readSign_0 : decode cX4_readSign 0 = .ok (.aload_n 0, 1) := dX4_readSign_r0.1
theorem dX4_readSign_1 : decode cX4_readSign 1 = .ok (.getfield 31, 3) := dX4_readSign_r0.2.1
theorem dX4_readSign_4 : decode cX4_readSign 4 = .ok (.aload_n 0, 1) := dX4_readSign_r0.2.2.1
theorem dX4_readSign_5 : decode cX4_readSign 5 = .ok (.getfield 27, 3) := dX4_readSign_r0.2.2.2.1
theorem dX4_readSign_8 : decode cX4_readSign 8 = .ok (.if_icmp .ge 16, 3) := dX4_readSign_r0.2.2.2.2.1
theorem dX4_readSign_11 : decode cX4_readSign 11 = .ok (.aload_n 0, 1) := dX4_readSign_r0.2.2.2.2.2.1
theorem dX4_readSign_12 : decode cX4_readSign 12 = .ok (.getfield 23, 3) := dX4_readSign_r0.2.2.2.2.2.2.1
theorem dX4_readSign_15 : decode cX4_readSign 15 = .ok (.aload_n 0, 1) := dX4_readSign_r0.2.2.2.2.2.2.2.1
theorem dX4_readSign_16 : decode cX4_readSign 16 = .ok (.getfield 31, 3) := dX4_readSign_r0.2.2.2.2.2.2.2.2.1
theorem dX4_readSign_19 : decode cX4_readSign 19 = .ok (.iaload, 1) := dX4_readSign_r0.2.2.2.2.2.2.2.2.2.1
theorem dX4_readSign_20 : decode cX4_readSign 20 = .ok (.iload_n 1, 1) := dX4_readSign_r0.2.2.2.2.2.2.2.2.2.2.1
theorem dX4_readSign_21 : decode cX4_readSign 21 = .ok (.if_icmp .eq 13, 3) := dX4_readSign_r0.2.2.2.2.2.2.2.2.2.2.2.1
theorem dX4_readSign_24 : decode cX4_readSign 24 = .ok (.aload_n 0, 1) := dX4_readSign_r0.2.2.2.2.2.2.2.2.2.2.2.2.1
theorem dX4_readSign_25 : decode cX4_readSign 25 = .ok (.aload_n 0, 1) := dX4_readSign_r0.2.2.2.2.2.2.2.2.2.2.2.2.2.1
theorem dX4_readSign_26 : decode cX4_readSign 26 = .ok (.getfield 31, 3) := dX4_readSign_r0.2.2.2.2.2.2.2.2.2.2.2.2.2.2.1
theorem dX4_readSign_29 : decode cX4_readSign 29 = .ok (.putfield 40, 3) := dX4_readSign_r0.2.2.2.2.2.2.2.2.2.2.2.2.2.2.2.1
theorem dX4_readSign_r32 : zdcP cX4_readSign 32 [(.iconst 0, 1), (.ireturn, 1), (.aload_n 0, 1), (.dup, 1), (.getfield 31, 3), (.iconst 1, 1), (.iadd, 1), (.putfield 31, 3), (.iconst 1, 1), (.ireturn, 1)] := zdcA_ok (by decide +kernel)
theorem dX4_readSign_32 : decode cX4_readSign 32 = .ok (.iconst 0, 1) := dX4_readSign_r32.1
theorem dX4_readSign_33 : decode cX4_readSign 33 = .ok (.ireturn, 1) := dX4_readSign_r32.2.1
theorem dX4_readSign_34 : decode cX4_readSign 34 = .ok (.aload_n 0, 1) := dX4_readSign_r32.2.2.1
theorem dX4_readSign_35 : decode cX4_readSign 35 = .ok (.dup, 1) := dX4_readSign_r32.2.2.2.1
theorem dX4_readSign_36 : decode cX4_readSign 36 = .ok (.getfield 31, 3) := dX4_readSign_r32.2.2.2.2.1
theorem dX4_readSign_39 : decode cX4_readSign 39 = .ok (.iconst 1, 1) := dX4_readSign_r32.2.2.2.2.2.1
theorem dX4_readSign_40 : decode cX4_readSign 40 = .ok (.iadd, 1) := dX4_readSign_r32.2.2.2.2.2.2.1
theorem dX4_readSign_41 : decode cX4_readSign 41 = .ok (.putfield 31, 3) := dX4_readSign_r32.2.2.2.2.2.2.2.1
theorem dX4_readSign_44 : decode cX4_readSign 44 = .ok (.iconst 1, 1) := dX4_readSign_r32.2.2.2.2.2.2.2.2.1
theorem dX4_readSign_45 : decode cX4_readSign 45 = .ok (.ireturn, 1) := dX4_readSign_r32.2.2.2.2.2.2.2.2.2.1
def wp_39 (v1 : Int32) (m : zf_Me) (Q : Bool → zf_Me → Prop) : Prop := ((((m.1 35 3)).toInt ≥ ((m.1 35 2)).toInt → (∀ m1, m1 = zf_u m 35 6 (m.1 35 3) → Q false m1)) ∧ (((m.1 35 3)).toInt < ((m.1 35 2)).toInt → ((0 ≤ (Int32.toInt (m.1 35 3)) ∧ (Int32.toInt (m.1 35 3)) < (160 : Int)) ∧ ((((m.1 43 (Int32.toInt (m.1 35 3)).toNat)).toInt = v1.toInt → (∀ m3, m3 = zf_u m 35 3 ((m.1 35 3) + 1) → Q true m3)) ∧ (¬ ((m.1 43 (Int32.toInt (m.1 35 3)).toNat)).toInt = v1.toInt → (∀ m5, m5 = zf_u m 35 6 (m.1 35 3) → Q false m5))))))
theorem zr_39 {d : Nat} (hd : 0 ≤ d) {v1 : Int32} {Q : Bool → zf_Me → Prop} {m : zf_Me} (h : wp_39 v1 m Q) : zf_M d 39 [.inr (.inr (1, 35)), .inl v1] m (zf_B Q) := by
  unfold wp_39 at h
  refine zf_M_of (Nat.le_of_ble_eq_true rfl) zm_39 (L := [some (.inr (.inr (1, 35))), some (.inl v1)]) rfl ?_
  refine zf_ld (pc' := 1) (v := .inr (.inr (1, 35))) dX4_readSign_0 rfl (fun _ _ _ => rfl) rfl rfl rfl ?_
  refine zf_gfi (pc' := 4) dX4_readSign_1 rfl rfl (by decide) rfl rfl ?_
  refine zf_ld (pc' := 5) (v := .inr (.inr (1, 35))) dX4_readSign_4 rfl (fun _ _ _ => rfl) rfl rfl rfl ?_
  refine zf_gfi (pc' := 8) dX4_readSign_5 rfl rfl (by decide) rfl rfl ?_
  refine zf_icmp_ge (tgt := 24) (pc' := 11) dX4_readSign_8 rfl rfl (fun g => ?_) (fun g => ?_)
  · replace h := h.1 g
    refine zf_ld (pc' := 25) (v := .inr (.inr (1, 35))) dX4_readSign_24 rfl (fun _ _ _ => rfl) rfl rfl rfl ?_
    refine zf_ld (pc' := 26) (v := .inr (.inr (1, 35))) dX4_readSign_25 rfl (fun _ _ _ => rfl) rfl rfl rfl ?_
    refine zf_gfi (pc' := 29) dX4_readSign_26 rfl rfl (by decide) rfl rfl ?_
    refine zf_pf (pc' := 32) dX4_readSign_29 rfl rfl (by decide) rfl rfl rfl (fun m1 e2 => ?_)
    replace h := h m1 e2
    refine zf_ic (v := 0) (pc' := 33) dX4_readSign_32 rfl rfl ?_
    exact zf_rb (b := false) dX4_readSign_33 rfl h
  · replace h := h.2 g
    refine zf_ld (pc' := 12) (v := .inr (.inr (1, 35))) dX4_readSign_11 rfl (fun _ _ _ => rfl) rfl rfl rfl ?_
    refine zf_gfr (pc' := 15) (b := 43) dX4_readSign_12 rfl rfl (by decide) rfl rfl ?_
    refine zf_ld (pc' := 16) (v := .inr (.inr (1, 35))) dX4_readSign_15 rfl (fun _ _ _ => rfl) rfl rfl rfl ?_
    refine zf_gfi (pc' := 19) dX4_readSign_16 rfl rfl (by decide) rfl rfl ?_
    refine zf_ial (pc' := 20) dX4_readSign_19 rfl (⟨by decide, rfl⟩ : zf_arr 43 160).1 (⟨by decide, rfl⟩ : zf_arr 43 160).2 h.1 rfl ?_
    replace h := h.2
    refine zf_ld (pc' := 21) (v := .inl v1) dX4_readSign_20 rfl (fun _ _ _ => rfl) rfl rfl rfl ?_
    refine zf_icmp_eq (tgt := 34) (pc' := 24) dX4_readSign_21 rfl rfl (fun g => ?_) (fun g => ?_)
    · replace h := h.1 g
      refine zf_ld (pc' := 35) (v := .inr (.inr (1, 35))) dX4_readSign_34 rfl (fun _ _ _ => rfl) rfl rfl rfl ?_
      refine zf_in (pc' := 36) (S' := [.inr (.inr (1, 35)), .inr (.inr (1, 35))]) dX4_readSign_35 rfl (fun _ _ _ => rfl) ?_
      refine zf_gfi (pc' := 39) dX4_readSign_36 rfl rfl (by decide) rfl rfl ?_
      refine zf_ic (v := 1) (pc' := 40) dX4_readSign_39 rfl rfl ?_
      refine zf_in (pc' := 41) (S' := [.inl ((m.1 35 3) + 1), .inr (.inr (1, 35))]) dX4_readSign_40 rfl (fun _ _ _ => rfl) ?_
      refine zf_pf (pc' := 44) dX4_readSign_41 rfl rfl (by decide) rfl rfl rfl (fun m3 e4 => ?_)
      replace h := h m3 e4
      refine zf_ic (v := 1) (pc' := 45) dX4_readSign_44 rfl rfl ?_
      exact zf_rb (b := true) dX4_readSign_45 rfl h
    · replace h := h.2 g
      refine zf_ld (pc' := 25) (v := .inr (.inr (1, 35))) dX4_readSign_24 rfl (fun _ _ _ => rfl) rfl rfl rfl ?_
      refine zf_ld (pc' := 26) (v := .inr (.inr (1, 35))) dX4_readSign_25 rfl (fun _ _ _ => rfl) rfl rfl rfl ?_
      refine zf_gfi (pc' := 29) dX4_readSign_26 rfl rfl (by decide) rfl rfl ?_
      refine zf_pf (pc' := 32) dX4_readSign_29 rfl rfl (by decide) rfl rfl rfl (fun m5 e6 => ?_)
      replace h := h m5 e6
      refine zf_ic (v := 0) (pc' := 33) dX4_readSign_32 rfl rfl ?_
      exact zf_rb (b := false) dX4_readSign_33 rfl h
def zt_41 : zx_MT := (4, yX4_isDigitNext, cX4_isDigitNext, 1, (some FieldType.boolean), 0, 0)
theorem zm_41 : zx_m 41 = zt_41 := rfl
theorem dX4_isDigitNext_r0 : zdcP cX4_isDigitNext 0 [(.aload_n 0, 1), (.getfield 31, 3), (.aload_n 0, 1), (.getfield 27, 3), (.if_icmp .ge 35, 3), (.aload_n 0, 1), (.getfield 23, 3), (.aload_n 0, 1), (.getfield 31, 3), (.iaload, 1), (.bipush 48, 2), (.if_icmp .lt 21, 3), (.aload_n 0, 1), (.getfield 23, 3), (.aload_n 0, 1), (.getfield 31, 3)] := zdcA_ok (by decide +kernel)
theorem dX4_isDigitNext_0 : decode cX4_isDigitNext 0 = .ok (.aload_n 0, 1) := dX4_isDigitNext_r0.1
theorem dX4_isDigitNext_1 : decode cX4_isDigitNext 1 = .ok (.getfield 31, 3) := dX4_isDigitNext_r0.2.1
theorem dX4_isDigitNext_4 : decode cX4_isDigitNext 4 = .ok (.aload_n 0, 1) := dX4_isDigitNext_r0.2.2.1
theorem dX4_isDigitNext_5 : decode cX4_isDigitNext 5 = .ok (.getfield 27, 3) := dX4_isDigitNext_r0.2.2.2.1
theorem dX4_isDigitNext_8 : decode cX4_isDigitNext 8 = .ok (.if_icmp .ge 35, 3) := dX4_isDigitNext_r0.2.2.2.2.1
theorem dX4_isDigitNext_11 : decode cX4_isDigitNext 11 = .ok (.aload_n 0, 1) := dX4_isDigitNext_r0.2.2.2.2.2.1
theorem dX4_isDigitNext_12 : decode cX4_isDigitNext 12 = .ok (.getfield 23, 3) := dX4_isDigitNext_r0.2.2.2.2.2.2.1
theorem dX4_isDigitNext_15 : decode cX4_isDigitNext 15 = .ok (.aload_n 0, 1) := dX4_isDigitNext_r0.2.2.2.2.2.2.2.1
theorem dX4_isDigitNext_16 : decode cX4_isDigitNext 16 = .ok (.getfield 31, 3) := dX4_isDigitNext_r0.2.2.2.2.2.2.2.2.1
theorem dX4_isDigitNext_19 : decode cX4_isDigitNext 19 = .ok (.iaload, 1) := dX4_isDigitNext_r0.2.2.2.2.2.2.2.2.2.1
theorem dX4_isDigitNext_20 : decode cX4_isDigitNext 20 = .ok (.bipush 48, 2) := dX4_isDigitNext_r0.2.2.2.2.2.2.2.2.2.2.1
theorem dX4_isDigitNext_22 : decode cX4_isDigitNext 22 = .ok (.if_icmp .lt 21, 3) := dX4_isDigitNext_r0.2.2.2.2.2.2.2.2.2.2.2.1
theorem dX4_isDigitNext_25 : decode cX4_isDigitNext 25 = .ok (.aload_n 0, 1) := dX4_isDigitNext_r0.2.2.2.2.2.2.2.2.2.2.2.2.1
theorem dX4_isDigitNext_26 : decode cX4_isDigitNext 26 = .ok (.getfield 23, 3) := dX4_isDigitNext_r0.2.2.2.2.2.2.2.2.2.2.2.2.2.1
theorem dX4_isDigitNext_29 : decode cX4_isDigitNext 29 = .ok (.aload_n 0, 1) := dX4_isDigitNext_r0.2.2.2.2.2.2.2.2.2.2.2.2.2.2.1
theorem dX4_isDigitNext_30 : decode cX4_isDigitNext 30 = .ok (.getfield 31, 3) := dX4_isDigitNext_r0.2.2.2.2.2.2.2.2.2.2.2.2.2.2.2.1
theorem dX4_isDigitNext_r33 : zdcP cX4_isDigitNext 33 [(.iaload, 1), (.bipush 57, 2), (.if_icmp .gt 7, 3), (.iconst 1, 1), (.goto 4, 3), (.iconst 0, 1), (.ireturn, 1)] := zdcA_ok (by decide +kernel)
theorem dX4_isDigitNext_33 : decode cX4_isDigitNext 33 = .ok (.iaload, 1) := dX4_isDigitNext_r33.1
theorem dX4_isDigitNext_34 : decode cX4_isDigitNext 34 = .ok (.bipush 57, 2) := dX4_isDigitNext_r33.2.1
theorem dX4_isDigitNext_36 : decode cX4_isDigitNext 36 = .ok (.if_icmp .gt 7, 3) := dX4_isDigitNext_r33.2.2.1
theorem dX4_isDigitNext_39 : decode cX4_isDigitNext 39 = .ok (.iconst 1, 1) := dX4_isDigitNext_r33.2.2.2.1
theorem dX4_isDigitNext_40 : decode cX4_isDigitNext 40 = .ok (.goto 4, 3) := dX4_isDigitNext_r33.2.2.2.2.1
theorem dX4_isDigitNext_43 : decode cX4_isDigitNext 43 = .ok (.iconst 0, 1) := dX4_isDigitNext_r33.2.2.2.2.2.1
theorem dX4_isDigitNext_44 : decode cX4_isDigitNext 44 = .ok (.ireturn, 1) := dX4_isDigitNext_r33.2.2.2.2.2.2.1
def wp_41 (m : zf_Me) (Q : Bool → zf_Me → Prop) : Prop := ((((m.1 35 3)).toInt ≥ ((m.1 35 2)).toInt → Q false m) ∧ (((m.1 35 3)).toInt < ((m.1 35 2)).toInt → ((0 ≤ (Int32.toInt (m.1 35 3)) ∧ (Int32.toInt (m.1 35 3)) < (160 : Int)) ∧ ((((m.1 43 (Int32.toInt (m.1 35 3)).toNat)).toInt < 48 → Q false m) ∧ (((m.1 43 (Int32.toInt (m.1 35 3)).toNat)).toInt ≥ 48 → ((0 ≤ (Int32.toInt (m.1 35 3)) ∧ (Int32.toInt (m.1 35 3)) < (160 : Int)) ∧ ((((m.1 43 (Int32.toInt (m.1 35 3)).toNat)).toInt > 57 → Q false m) ∧ (((m.1 43 (Int32.toInt (m.1 35 3)).toNat)).toInt ≤ 57 → Q true m))))))))
theorem zr_41 {d : Nat} (hd : 0 ≤ d) {Q : Bool → zf_Me → Prop} {m : zf_Me} (h : wp_41 m Q) : zf_M d 41 [.inr (.inr (1, 35))] m (zf_B Q) := by
  unfold wp_41 at h
  refine zf_M_of (Nat.le_of_ble_eq_true rfl) zm_41 (L := [some (.inr (.inr (1, 35)))]) rfl ?_
  refine zf_ld (pc' := 1) (v := .inr (.inr (1, 35))) dX4_isDigitNext_0 rfl (fun _ _ _ => rfl) rfl rfl rfl ?_
  refine zf_gfi (pc' := 4) dX4_isDigitNext_1 rfl rfl (by decide) rfl rfl ?_
  refine zf_ld (pc' := 5) (v := .inr (.inr (1, 35))) dX4_isDigitNext_4 rfl (fun _ _ _ => rfl) rfl rfl rfl ?_
  refine zf_gfi (pc' := 8) dX4_isDigitNext_5 rfl rfl (by decide) rfl rfl ?_
  refine zf_icmp_ge (tgt := 43) (pc' := 11) dX4_isDigitNext_8 rfl rfl (fun g => ?_) (fun g => ?_)
  · replace h := h.1 g
    refine zf_ic (v := 0) (pc' := 44) dX4_isDigitNext_43 rfl rfl ?_
    exact zf_rb (b := false) dX4_isDigitNext_44 rfl h
  · replace h := h.2 g
    refine zf_ld (pc' := 12) (v := .inr (.inr (1, 35))) dX4_isDigitNext_11 rfl (fun _ _ _ => rfl) rfl rfl rfl ?_
    refine zf_gfr (pc' := 15) (b := 43) dX4_isDigitNext_12 rfl rfl (by decide) rfl rfl ?_
    refine zf_ld (pc' := 16) (v := .inr (.inr (1, 35))) dX4_isDigitNext_15 rfl (fun _ _ _ => rfl) rfl rfl rfl ?_
    refine zf_gfi (pc' := 19) dX4_isDigitNext_16 rfl rfl (by decide) rfl rfl ?_
    refine zf_ial (pc' := 20) dX4_isDigitNext_19 rfl (⟨by decide, rfl⟩ : zf_arr 43 160).1 (⟨by decide, rfl⟩ : zf_arr 43 160).2 h.1 rfl ?_
    replace h := h.2
    refine zf_bi (v := 48) (pc' := 22) dX4_isDigitNext_20 rfl rfl ?_
    refine zf_icmp_lt (tgt := 43) (pc' := 25) dX4_isDigitNext_22 rfl rfl (fun g => ?_) (fun g => ?_)
    · replace h := h.1 g
      refine zf_ic (v := 0) (pc' := 44) dX4_isDigitNext_43 rfl rfl ?_
      exact zf_rb (b := false) dX4_isDigitNext_44 rfl h
    · replace h := h.2 g
      refine zf_ld (pc' := 26) (v := .inr (.inr (1, 35))) dX4_isDigitNext_25 rfl (fun _ _ _ => rfl) rfl rfl rfl ?_
      refine zf_gfr (pc' := 29) (b := 43) dX4_isDigitNext_26 rfl rfl (by decide) rfl rfl ?_
      refine zf_ld (pc' := 30) (v := .inr (.inr (1, 35))) dX4_isDigitNext_29 rfl (fun _ _ _ => rfl) rfl rfl rfl ?_
      refine zf_gfi (pc' := 33) dX4_isDigitNext_30 rfl rfl (by decide) rfl rfl ?_
      refine zf_ial (pc' := 34) dX4_isDigitNext_33 rfl (⟨by decide, rfl⟩ : zf_arr 43 160).1 (⟨by decide, rfl⟩ : zf_arr 43 160).2 h.1 rfl ?_
      replace h := h.2
      refine zf_bi (v := 57) (pc' := 36) dX4_isDigitNext_34 rfl rfl ?_
      refine zf_icmp_gt (tgt := 43) (pc' := 39) dX4_isDigitNext_36 rfl rfl (fun g => ?_) (fun g => ?_)
      · replace h := h.1 g
        refine zf_ic (v := 0) (pc' := 44) dX4_isDigitNext_43 rfl rfl ?_
        exact zf_rb (b := false) dX4_isDigitNext_44 rfl h
      · replace h := h.2 g
        refine zf_ic (v := 1) (pc' := 40) dX4_isDigitNext_39 rfl rfl ?_
        refine zf_goto (tgt := 44) dX4_isDigitNext_40 rfl ?_
        exact zf_rb (b := true) dX4_isDigitNext_44 rfl h
def zt_40 : zx_MT := (4, yX4_readNumber, cX4_readNumber, 5, (some FieldType.int), 2, 0)
theorem zm_40 : zx_m 40 = zt_40 := rfl
theorem dX4_readNumber_r0 : zdcP cX4_readNumber 0 [(.aload_n 0, 1), (.bipush 32, 2), (.invokevirtual 63, 3), (.ifCond .ne 5, 3), (.iconst (-1), 1), (.ireturn, 1), (.aload_n 0, 1), (.aload_n 0, 1), (.getfield 31, 3), (.putfield 34, 3), (.iconst 0, 1), (.istore_n 3, 1), (.iconst 0, 1), (.istore 4, 2), (.iload 4, 2), (.iconst 2, 1)] := zdcA_ok (by decide +kernel)
theorem dX4_readNumber_0 : decode cX4_readNumber 0 = .ok (.aload_n 0, 1) := dX4_readNumber_r0.1
theorem dX4_readNumber_1 : decode cX4_readNumber 1 = .ok (.bipush 32, 2) := dX4_readNumber_r0.2.1
theorem dX4_readNumber_3 : decode cX4_readNumber 3 = .ok (.invokevirtual 63, 3) := dX4_readNumber_r0.2.2.1
theorem dX4_readNumber_6 : decode cX4_readNumber 6 = .ok (.ifCond .ne 5, 3) := dX4_readNumber_r0.2.2.2.1
theorem dX4_readNumber_9 : decode cX4_readNumber 9 = .ok (.iconst (-1), 1) := dX4_readNumber_r0.2.2.2.2.1
theorem dX4_readNumber_10 : decode cX4_readNumber 10 = .ok (.ireturn, 1) := dX4_readNumber_r0.2.2.2.2.2.1
theorem dX4_readNumber_11 : decode cX4_readNumber 11 = .ok (.aload_n 0, 1) := dX4_readNumber_r0.2.2.2.2.2.2.1
theorem dX4_readNumber_12 : decode cX4_readNumber 12 = .ok (.aload_n 0, 1) := dX4_readNumber_r0.2.2.2.2.2.2.2.1
theorem dX4_readNumber_13 : decode cX4_readNumber 13 = .ok (.getfield 31, 3) := dX4_readNumber_r0.2.2.2.2.2.2.2.2.1
theorem dX4_readNumber_16 : decode cX4_readNumber 16 = .ok (.putfield 34, 3) := dX4_readNumber_r0.2.2.2.2.2.2.2.2.2.1
theorem dX4_readNumber_19 : decode cX4_readNumber 19 = .ok (.iconst 0, 1) := dX4_readNumber_r0.2.2.2.2.2.2.2.2.2.2.1
theorem dX4_readNumber_20 : decode cX4_readNumber 20 = .ok (.istore_n 3, 1) := dX4_readNumber_r0.2.2.2.2.2.2.2.2.2.2.2.1
theorem dX4_readNumber_21 : decode cX4_readNumber 21 = .ok (.iconst 0, 1) := dX4_readNumber_r0.2.2.2.2.2.2.2.2.2.2.2.2.1
theorem dX4_readNumber_22 : decode cX4_readNumber 22 = .ok (.istore 4, 2) := dX4_readNumber_r0.2.2.2.2.2.2.2.2.2.2.2.2.2.1
theorem dX4_readNumber_24 : decode cX4_readNumber 24 = .ok (.iload 4, 2) := dX4_readNumber_r0.2.2.2.2.2.2.2.2.2.2.2.2.2.2.1
theorem dX4_readNumber_26 : decode cX4_readNumber 26 = .ok (.iconst 2, 1) := dX4_readNumber_r0.2.2.2.2.2.2.2.2.2.2.2.2.2.2.2.1
theorem dX4_readNumber_r27 : zdcP cX4_readNumber 27 [(.if_icmp .ge 44, 3), (.aload_n 0, 1), (.invokevirtual 178, 3), (.ifCond .eq 37, 3), (.iload_n 3, 1), (.bipush 10, 2), (.imul, 1), (.aload_n 0, 1), (.getfield 23, 3), (.aload_n 0, 1), (.getfield 31, 3), (.iaload, 1), (.iadd, 1), (.bipush 48, 2), (.isub, 1), (.istore_n 3, 1)] := zdcA_ok (by decide +kernel)
theorem dX4_readNumber_27 : decode cX4_readNumber 27 = .ok (.if_icmp .ge 44, 3) := dX4_readNumber_r27.1
theorem dX4_readNumber_30 : decode cX4_readNumber 30 = .ok (.aload_n 0, 1) := dX4_readNumber_r27.2.1
theorem dX4_readNumber_31 : decode cX4_readNumber 31 = .ok (.invokevirtual 178, 3) := dX4_readNumber_r27.2.2.1
theorem dX4_readNumber_34 : decode cX4_readNumber 34 = .ok (.ifCond .eq 37, 3) := dX4_readNumber_r27.2.2.2.1
theorem dX4_readNumber_37 : decode cX4_readNumber 37 = .ok (.iload_n 3, 1) := dX4_readNumber_r27.2.2.2.2.1
theorem dX4_readNumber_38 : decode cX4_readNumber 38 = .ok (.bipush 10, 2) := dX4_readNumber_r27.2.2.2.2.2.1
theorem dX4_readNumber_40 : decode cX4_readNumber 40 = .ok (.imul, 1) := dX4_readNumber_r27.2.2.2.2.2.2.1
theorem dX4_readNumber_41 : decode cX4_readNumber 41 = .ok (.aload_n 0, 1) := dX4_readNumber_r27.2.2.2.2.2.2.2.1
theorem dX4_readNumber_42 : decode cX4_readNumber 42 = .ok (.getfield 23, 3) := dX4_readNumber_r27.2.2.2.2.2.2.2.2.1
theorem dX4_readNumber_45 : decode cX4_readNumber 45 = .ok (.aload_n 0, 1) := dX4_readNumber_r27.2.2.2.2.2.2.2.2.2.1
theorem dX4_readNumber_46 : decode cX4_readNumber 46 = .ok (.getfield 31, 3) := dX4_readNumber_r27.2.2.2.2.2.2.2.2.2.2.1
theorem dX4_readNumber_49 : decode cX4_readNumber 49 = .ok (.iaload, 1) := dX4_readNumber_r27.2.2.2.2.2.2.2.2.2.2.2.1
theorem dX4_readNumber_50 : decode cX4_readNumber 50 = .ok (.iadd, 1) := dX4_readNumber_r27.2.2.2.2.2.2.2.2.2.2.2.2.1
theorem dX4_readNumber_51 : decode cX4_readNumber 51 = .ok (.bipush 48, 2) := dX4_readNumber_r27.2.2.2.2.2.2.2.2.2.2.2.2.2.1
theorem dX4_readNumber_53 : decode cX4_readNumber 53 = .ok (.isub, 1) := dX4_readNumber_r27.2.2.2.2.2.2.2.2.2.2.2.2.2.2.1
theorem dX4_readNumber_54 : decode cX4_readNumber 54 = .ok (.istore_n 3, 1) := dX4_readNumber_r27.2.2.2.2.2.2.2.2.2.2.2.2.2.2.2.1
theorem dX4_readNumber_r55 : zdcP cX4_readNumber 55 [(.aload_n 0, 1), (.dup, 1), (.getfield 31, 3), (.iconst 1, 1), (.iadd, 1), (.putfield 31, 3), (.iinc 4 1, 3), (.goto (-44), 3), (.aload_n 0, 1), (.getfield 31, 3), (.aload_n 0, 1), (.getfield 34, 3), (.if_icmp .eq 13, 3), (.iload_n 3, 1), (.iload_n 1, 1), (.if_icmp .lt 8, 3)] := zdcA_ok (by decide +kernel)
theorem dX4_readNumber_55 : decode cX4_readNumber 55 = .ok (.aload_n 0, 1) := dX4_readNumber_r55.1
theorem dX4_readNumber_56 : decode cX4_readNumber 56 = .ok (.dup, 1) := dX4_readNumber_r55.2.1
theorem dX4_readNumber_57 : decode cX4_readNumber 57 = .ok (.getfield 31, 3) := dX4_readNumber_r55.2.2.1
theorem dX4_readNumber_60 : decode cX4_readNumber 60 = .ok (.iconst 1, 1) := dX4_readNumber_r55.2.2.2.1
theorem dX4_readNumber_61 : decode cX4_readNumber 61 = .ok (.iadd, 1) := dX4_readNumber_r55.2.2.2.2.1
theorem dX4_readNumber_62 : decode cX4_readNumber 62 = .ok (.putfield 31, 3) := dX4_readNumber_r55.2.2.2.2.2.1
theorem dX4_readNumber_65 : decode cX4_readNumber 65 = .ok (.iinc 4 1, 3) := dX4_readNumber_r55.2.2.2.2.2.2.1
theorem dX4_readNumber_68 : decode cX4_readNumber 68 = .ok (.goto (-44), 3) := dX4_readNumber_r55.2.2.2.2.2.2.2.1
theorem dX4_readNumber_71 : decode cX4_readNumber 71 = .ok (.aload_n 0, 1) := dX4_readNumber_r55.2.2.2.2.2.2.2.2.1
theorem dX4_readNumber_72 : decode cX4_readNumber 72 = .ok (.getfield 31, 3) := dX4_readNumber_r55.2.2.2.2.2.2.2.2.2.1
theorem dX4_readNumber_75 : decode cX4_readNumber 75 = .ok (.aload_n 0, 1) := dX4_readNumber_r55.2.2.2.2.2.2.2.2.2.2.1
theorem dX4_readNumber_76 : decode cX4_readNumber 76 = .ok (.getfield 34, 3) := dX4_readNumber_r55.2.2.2.2.2.2.2.2.2.2.2.1
theorem dX4_readNumber_79 : decode cX4_readNumber 79 = .ok (.if_icmp .eq 13, 3) := dX4_readNumber_r55.2.2.2.2.2.2.2.2.2.2.2.2.1
theorem dX4_readNumber_82 : decode cX4_readNumber 82 = .ok (.iload_n 3, 1) := dX4_readNumber_r55.2.2.2.2.2.2.2.2.2.2.2.2.2.1
theorem dX4_readNumber_83 : decode cX4_readNumber 83 = .ok (.iload_n 1, 1) := dX4_readNumber_r55.2.2.2.2.2.2.2.2.2.2.2.2.2.2.1
theorem dX4_readNumber_84 : decode cX4_readNumber 84 = .ok (.if_icmp .lt 8, 3) := dX4_readNumber_r55.2.2.2.2.2.2.2.2.2.2.2.2.2.2.2.1
theorem dX4_readNumber_r87 : zdcP cX4_readNumber 87 [(.iload_n 3, 1), (.iload_n 2, 1), (.if_icmp .le 13, 3), (.aload_n 0, 1), (.aload_n 0, 1), (.getfield 34, 3), (.putfield 40, 3), (.iconst (-1), 1), (.ireturn, 1), (.iload_n 3, 1), (.ireturn, 1)] := zdcA_ok (by decide +kernel)
theorem dX4_readNumber_87 : decode cX4_readNumber 87 = .ok (.iload_n 3, 1) := dX4_readNumber_r87.1
theorem dX4_readNumber_88 : decode cX4_readNumber 88 = .ok (.iload_n 2, 1) := dX4_readNumber_r87.2.1
theorem dX4_readNumber_89 : decode cX4_readNumber 89 = .ok (.if_icmp .le 13, 3) := dX4_readNumber_r87.2.2.1
theorem dX4_readNumber_92 : decode cX4_readNumber 92 = .ok (.aload_n 0, 1) := dX4_readNumber_r87.2.2.2.1
theorem dX4_readNumber_93 : decode cX4_readNumber 93 = .ok (.aload_n 0, 1) := dX4_readNumber_r87.2.2.2.2.1
theorem dX4_readNumber_94 : decode cX4_readNumber 94 = .ok (.getfield 34, 3) := dX4_readNumber_r87.2.2.2.2.2.1
theorem dX4_readNumber_97 : decode cX4_readNumber 97 = .ok (.putfield 40, 3) := dX4_readNumber_r87.2.2.2.2.2.2.1
theorem dX4_readNumber_100 : decode cX4_readNumber 100 = .ok (.iconst (-1), 1) := dX4_readNumber_r87.2.2.2.2.2.2.2.1
theorem dX4_readNumber_101 : decode cX4_readNumber 101 = .ok (.ireturn, 1) := dX4_readNumber_r87.2.2.2.2.2.2.2.2.1
theorem dX4_readNumber_102 : decode cX4_readNumber 102 = .ok (.iload_n 3, 1) := dX4_readNumber_r87.2.2.2.2.2.2.2.2.2.1
theorem dX4_readNumber_103 : decode cX4_readNumber 103 = .ok (.ireturn, 1) := dX4_readNumber_r87.2.2.2.2.2.2.2.2.2.2.1
def wq_40_71 (v1 : Int32) (v2 : Int32) (v3 : Int32) (m : zf_Me) (Q : Int32 → zf_Me → Prop) : Prop := ((((m.1 35 3)).toInt = ((m.1 35 4)).toInt → (∀ m5, m5 = zf_u m 35 6 (m.1 35 4) → Q (-1) m5)) ∧ (¬ ((m.1 35 3)).toInt = ((m.1 35 4)).toInt → ((v3.toInt < v1.toInt → (∀ m7, m7 = zf_u m 35 6 (m.1 35 4) → Q (-1) m7)) ∧ (v3.toInt ≥ v1.toInt → ((v3.toInt ≤ v2.toInt → Q v3 m) ∧ (v3.toInt > v2.toInt → (∀ m9, m9 = zf_u m 35 6 (m.1 35 4) → Q (-1) m9)))))))
theorem zq_40_71 {d : Nat} (hd : 1 ≤ d) {v1 : Int32} {v2 : Int32} {Q : Int32 → zf_Me → Prop} {v3 : Int32} {m : zf_Me} (h : wq_40_71 v1 v2 v3 m Q) : zf_W none 0 0 d zt_40 71 [some (.inr (.inr (1, 35))), some (.inl v1), some (.inl v2), some (.inl v3), none] [] m (zf_I Q) := by
  unfold wq_40_71 at h
  refine zf_ld (pc' := 72) (v := .inr (.inr (1, 35))) dX4_readNumber_71 rfl (fun _ _ _ => rfl) rfl rfl rfl ?_
  refine zf_gfi (pc' := 75) dX4_readNumber_72 rfl rfl (by decide) rfl rfl ?_
  refine zf_ld (pc' := 76) (v := .inr (.inr (1, 35))) dX4_readNumber_75 rfl (fun _ _ _ => rfl) rfl rfl rfl ?_
  refine zf_gfi (pc' := 79) dX4_readNumber_76 rfl rfl (by decide) rfl rfl ?_
  refine zf_icmp_eq (tgt := 92) (pc' := 82) dX4_readNumber_79 rfl rfl (fun g => ?_) (fun g => ?_)
  · replace h := h.1 g
    refine zf_ld (pc' := 93) (v := .inr (.inr (1, 35))) dX4_readNumber_92 rfl (fun _ _ _ => rfl) rfl rfl rfl ?_
    refine zf_ld (pc' := 94) (v := .inr (.inr (1, 35))) dX4_readNumber_93 rfl (fun _ _ _ => rfl) rfl rfl rfl ?_
    refine zf_gfi (pc' := 97) dX4_readNumber_94 rfl rfl (by decide) rfl rfl ?_
    refine zf_pf (pc' := 100) dX4_readNumber_97 rfl rfl (by decide) rfl rfl rfl (fun m5 e6 => ?_)
    replace h := h m5 e6
    refine zf_ic (v := (-1)) (pc' := 101) dX4_readNumber_100 rfl rfl ?_
    exact zf_ri dX4_readNumber_101 rfl h
  · replace h := h.2 g
    refine zf_ld (pc' := 83) (v := .inl v3) dX4_readNumber_82 rfl (fun _ _ _ => rfl) rfl rfl rfl ?_
    refine zf_ld (pc' := 84) (v := .inl v1) dX4_readNumber_83 rfl (fun _ _ _ => rfl) rfl rfl rfl ?_
    refine zf_icmp_lt (tgt := 92) (pc' := 87) dX4_readNumber_84 rfl rfl (fun g => ?_) (fun g => ?_)
    · replace h := h.1 g
      refine zf_ld (pc' := 93) (v := .inr (.inr (1, 35))) dX4_readNumber_92 rfl (fun _ _ _ => rfl) rfl rfl rfl ?_
      refine zf_ld (pc' := 94) (v := .inr (.inr (1, 35))) dX4_readNumber_93 rfl (fun _ _ _ => rfl) rfl rfl rfl ?_
      refine zf_gfi (pc' := 97) dX4_readNumber_94 rfl rfl (by decide) rfl rfl ?_
      refine zf_pf (pc' := 100) dX4_readNumber_97 rfl rfl (by decide) rfl rfl rfl (fun m7 e8 => ?_)
      replace h := h m7 e8
      refine zf_ic (v := (-1)) (pc' := 101) dX4_readNumber_100 rfl rfl ?_
      exact zf_ri dX4_readNumber_101 rfl h
    · replace h := h.2 g
      refine zf_ld (pc' := 88) (v := .inl v3) dX4_readNumber_87 rfl (fun _ _ _ => rfl) rfl rfl rfl ?_
      refine zf_ld (pc' := 89) (v := .inl v2) dX4_readNumber_88 rfl (fun _ _ _ => rfl) rfl rfl rfl ?_
      refine zf_icmp_le (tgt := 102) (pc' := 92) dX4_readNumber_89 rfl rfl (fun g => ?_) (fun g => ?_)
      · replace h := h.1 g
        refine zf_ld (pc' := 103) (v := .inl v3) dX4_readNumber_102 rfl (fun _ _ _ => rfl) rfl rfl rfl ?_
        exact zf_ri dX4_readNumber_103 rfl h
      · replace h := h.2 g
        refine zf_ld (pc' := 93) (v := .inr (.inr (1, 35))) dX4_readNumber_92 rfl (fun _ _ _ => rfl) rfl rfl rfl ?_
        refine zf_ld (pc' := 94) (v := .inr (.inr (1, 35))) dX4_readNumber_93 rfl (fun _ _ _ => rfl) rfl rfl rfl ?_
        refine zf_gfi (pc' := 97) dX4_readNumber_94 rfl rfl (by decide) rfl rfl ?_
        refine zf_pf (pc' := 100) dX4_readNumber_97 rfl rfl (by decide) rfl rfl rfl (fun m9 e10 => ?_)
        replace h := h m9 e10
        refine zf_ic (v := (-1)) (pc' := 101) dX4_readNumber_100 rfl rfl ?_
        exact zf_ri dX4_readNumber_101 rfl h
def wq_40_24 (v1 : Int32) (v2 : Int32) (Q : Int32 → zf_Me → Prop) : Nat → Int32 → Int32 → zf_Me → Prop
  | 0, _, _, _ => False
  | n + 1, v3, v4, m => ((v4.toInt ≥ 2 → wq_40_71 v1 v2 v3 m Q) ∧ (v4.toInt < 2 → wp_41 m (fun b11 m12 => ((b11 = false → wq_40_71 v1 v2 v3 m12 Q) ∧ (b11 = true → ((0 ≤ (Int32.toInt (m12.1 35 3)) ∧ (Int32.toInt (m12.1 35 3)) < (160 : Int)) ∧ (∀ m13, m13 = zf_u m12 35 3 ((m12.1 35 3) + 1) → wq_40_24 v1 v2 Q n (((v3 * 10) + (m12.1 43 (Int32.toInt (m12.1 35 3)).toNat)) - 48) (v4 + 1) m13)))))))
theorem zq_40_24 {d : Nat} (hd : 1 ≤ d) {v1 : Int32} {v2 : Int32} {Q : Int32 → zf_Me → Prop} : ∀ (n : Nat) (v3 : Int32) (v4 : Int32) (m : zf_Me), wq_40_24 v1 v2 Q n v3 v4 m → zf_W none 0 0 d zt_40 24 [some (.inr (.inr (1, 35))), some (.inl v1), some (.inl v2), some (.inl v3), some (.inl v4)] [] m (zf_I Q) := by
  obtain ⟨e, rfl⟩ : ∃ z, d = z + 1 := ⟨d - 1, by omega⟩
  intro n
  induction n with
  | zero =>
    intro v3 v4 m h
    exact h.elim
  | succ n ih =>
    intro v3 v4 m h
    unfold wq_40_24 at h
    refine zf_ld (pc' := 26) (v := .inl v4) dX4_readNumber_24 rfl (fun _ _ _ => rfl) rfl rfl rfl ?_
    refine zf_ic (v := 2) (pc' := 27) dX4_readNumber_26 rfl rfl ?_
    refine zf_icmp_ge (tgt := 71) (pc' := 30) dX4_readNumber_27 rfl rfl (fun g => ?_) (fun g => ?_)
    · replace h := h.1 g
      exact zf_lo (zq_40_71 (by omega) h) ⟨rfl, rfl, rfl, rfl, trivial⟩
    · replace h := h.2 g
      refine zf_ld (pc' := 31) (v := .inr (.inr (1, 35))) dX4_readNumber_30 rfl (fun _ _ _ => rfl) rfl rfl rfl ?_
      refine zf_iv (k := 41) (pc' := 34) (r := []) dX4_readNumber_31 rfl rfl rfl rfl (by decide) rfl rfl rfl (zr_41 (by omega) h) (zf_kB (fun b11 m12 h => ?_))
      refine zf_ib_eq (tgt := 71) (pc' := 37) dX4_readNumber_34 rfl rfl (fun g => ?_) (fun g => ?_)
      · replace h := h.1 g
        exact zf_lo (zq_40_71 (by omega) h) ⟨rfl, rfl, rfl, rfl, trivial⟩
      · replace h := h.2 g
        refine zf_ld (pc' := 38) (v := .inl v3) dX4_readNumber_37 rfl (fun _ _ _ => rfl) rfl rfl rfl ?_
        refine zf_bi (v := 10) (pc' := 40) dX4_readNumber_38 rfl rfl ?_
        refine zf_in (pc' := 41) (S' := [.inl (v3 * 10)]) dX4_readNumber_40 rfl (fun _ _ _ => rfl) ?_
        refine zf_ld (pc' := 42) (v := .inr (.inr (1, 35))) dX4_readNumber_41 rfl (fun _ _ _ => rfl) rfl rfl rfl ?_
        refine zf_gfr (pc' := 45) (b := 43) dX4_readNumber_42 rfl rfl (by decide) rfl rfl ?_
        refine zf_ld (pc' := 46) (v := .inr (.inr (1, 35))) dX4_readNumber_45 rfl (fun _ _ _ => rfl) rfl rfl rfl ?_
        refine zf_gfi (pc' := 49) dX4_readNumber_46 rfl rfl (by decide) rfl rfl ?_
        refine zf_ial (pc' := 50) dX4_readNumber_49 rfl (⟨by decide, rfl⟩ : zf_arr 43 160).1 (⟨by decide, rfl⟩ : zf_arr 43 160).2 h.1 rfl ?_
        replace h := h.2
        refine zf_in (pc' := 51) (S' := [.inl ((v3 * 10) + (m12.1 43 (Int32.toInt (m12.1 35 3)).toNat))]) dX4_readNumber_50 rfl (fun _ _ _ => rfl) ?_
        refine zf_bi (v := 48) (pc' := 53) dX4_readNumber_51 rfl rfl ?_
        refine zf_in (pc' := 54) (S' := [.inl (((v3 * 10) + (m12.1 43 (Int32.toInt (m12.1 35 3)).toNat)) - 48)]) dX4_readNumber_53 rfl (fun _ _ _ => rfl) ?_
        refine zf_st (pc' := 55) (L2 := [some (.inr (.inr (1, 35))), some (.inl v1), some (.inl v2), some (.inl (((v3 * 10) + (m12.1 43 (Int32.toInt (m12.1 35 3)).toNat)) - 48)), some (.inl v4)]) dX4_readNumber_54 rfl (fun _ _ _ => rfl) rfl rfl rfl rfl rfl rfl ?_
        refine zf_ld (pc' := 56) (v := .inr (.inr (1, 35))) dX4_readNumber_55 rfl (fun _ _ _ => rfl) rfl rfl rfl ?_
        refine zf_in (pc' := 57) (S' := [.inr (.inr (1, 35)), .inr (.inr (1, 35))]) dX4_readNumber_56 rfl (fun _ _ _ => rfl) ?_
        refine zf_gfi (pc' := 60) dX4_readNumber_57 rfl rfl (by decide) rfl rfl ?_
        refine zf_ic (v := 1) (pc' := 61) dX4_readNumber_60 rfl rfl ?_
        refine zf_in (pc' := 62) (S' := [.inl ((m12.1 35 3) + 1), .inr (.inr (1, 35))]) dX4_readNumber_61 rfl (fun _ _ _ => rfl) ?_
        refine zf_pf (pc' := 65) dX4_readNumber_62 rfl rfl (by decide) rfl rfl rfl (fun m13 e14 => ?_)
        replace h := h m13 e14
        refine zf_ii (y := (v4 + 1)) (L2 := [some (.inr (.inr (1, 35))), some (.inl v1), some (.inl v2), some (.inl (((v3 * 10) + (m12.1 43 (Int32.toInt (m12.1 35 3)).toNat)) - 48)), some (.inl (v4 + 1))]) (pc' := 68) dX4_readNumber_65 rfl rfl rfl rfl rfl ?_
        refine zf_goto (tgt := 24) dX4_readNumber_68 rfl ?_
        exact zf_lo (ih _ _ _ h) ⟨rfl, rfl, rfl, rfl, rfl, trivial⟩
def wp_40 (v1 : Int32) (v2 : Int32) (m : zf_Me) (Q : Int32 → zf_Me → Prop) : Prop := wp_39 32 m (fun b1 m2 => ((b1 = true → (∀ m3, m3 = zf_u m2 35 4 (m2.1 35 3) → (∃ n24, wq_40_24 v1 v2 Q n24 0 0 m3))) ∧ (b1 = false → Q (-1) m2)))
theorem zr_40 {d : Nat} (hd : 1 ≤ d) {v1 : Int32} {v2 : Int32} {Q : Int32 → zf_Me → Prop} {m : zf_Me} (h : wp_40 v1 v2 m Q) : zf_M d 40 [.inr (.inr (1, 35)), .inl v1, .inl v2] m (zf_I Q) := by
  obtain ⟨e, rfl⟩ : ∃ z, d = z + 1 := ⟨d - 1, by omega⟩
  unfold wp_40 at h
  refine zf_M_of (Nat.le_of_ble_eq_true rfl) zm_40 (L := [some (.inr (.inr (1, 35))), some (.inl v1), some (.inl v2), none, none]) rfl ?_
  refine zf_ld (pc' := 1) (v := .inr (.inr (1, 35))) dX4_readNumber_0 rfl (fun _ _ _ => rfl) rfl rfl rfl ?_
  refine zf_bi (v := 32) (pc' := 3) dX4_readNumber_1 rfl rfl ?_
  refine zf_iv (k := 39) (pc' := 6) (r := []) dX4_readNumber_3 rfl rfl rfl rfl (by decide) rfl rfl rfl (zr_39 (by omega) h) (zf_kB (fun b1 m2 h => ?_))
  refine zf_ib_ne (tgt := 11) (pc' := 9) dX4_readNumber_6 rfl rfl (fun g => ?_) (fun g => ?_)
  · replace h := h.1 g
    refine zf_ld (pc' := 12) (v := .inr (.inr (1, 35))) dX4_readNumber_11 rfl (fun _ _ _ => rfl) rfl rfl rfl ?_
    refine zf_ld (pc' := 13) (v := .inr (.inr (1, 35))) dX4_readNumber_12 rfl (fun _ _ _ => rfl) rfl rfl rfl ?_
    refine zf_gfi (pc' := 16) dX4_readNumber_13 rfl rfl (by decide) rfl rfl ?_
    refine zf_pf (pc' := 19) dX4_readNumber_16 rfl rfl (by decide) rfl rfl rfl (fun m3 e4 => ?_)
    replace h := h m3 e4
    refine zf_ic (v := 0) (pc' := 20) dX4_readNumber_19 rfl rfl ?_
    refine zf_st (pc' := 21) (L2 := [some (.inr (.inr (1, 35))), some (.inl v1), some (.inl v2), some (.inl 0), none]) dX4_readNumber_20 rfl (fun _ _ _ => rfl) rfl rfl rfl rfl rfl rfl ?_
    refine zf_ic (v := 0) (pc' := 22) dX4_readNumber_21 rfl rfl ?_
    refine zf_st (pc' := 24) (L2 := [some (.inr (.inr (1, 35))), some (.inl v1), some (.inl v2), some (.inl 0), some (.inl 0)]) dX4_readNumber_22 rfl (fun _ _ _ => rfl) rfl rfl rfl rfl rfl rfl ?_
    obtain ⟨n24, h⟩ := h
    exact zf_lo (zq_40_24 (by omega) n24 _ _ _ h) ⟨rfl, rfl, rfl, rfl, rfl, trivial⟩
  · replace h := h.2 g
    refine zf_ic (v := (-1)) (pc' := 10) dX4_readNumber_9 rfl rfl ?_
    exact zf_ri dX4_readNumber_10 rfl h
def zt_66 : zx_MT := (6, yX6_addFurlong, cX6_addFurlong, 3, (some FieldType.int), 2, 0)
theorem zm_66 : zx_m 66 = zt_66 := rfl
theorem dX6_addFurlong_r0 : zdcP cX6_addFurlong 0 [(.aload_n 0, 1), (.getfield 9, 3), (.aload_n 0, 1), (.getfield 24, 3), (.iload_n 1, 1), (.iastore, 1), (.aload_n 0, 1), (.getfield 15, 3), (.aload_n 0, 1), (.getfield 24, 3), (.iload_n 2, 1), (.ifCond .eq 7, 3), (.iconst 1, 1), (.goto 4, 3), (.iconst 0, 1), (.iastore, 1)] := zdcA_ok (by decide +kernel)
theorem dX6_addFurlong_0 : decode cX6_addFurlong 0 = .ok (.aload_n 0, 1) := dX6_addFurlong_r0.1
theorem dX6_addFurlong_1 : decode cX6_addFurlong 1 = .ok (.getfield 9, 3) := dX6_addFurlong_r0.2.1
theorem dX6_addFurlong_4 : decode cX6_addFurlong 4 = .ok (.aload_n 0, 1) := dX6_addFurlong_r0.2.2.1
theorem dX6_addFurlong_5 : decode cX6_addFurlong 5 = .ok (.getfield 24, 3) := dX6_addFurlong_r0.2.2.2.1
theorem dX6_addFurlong_8 : decode cX6_addFurlong 8 = .ok (.iload_n 1, 1) := dX6_addFurlong_r0.2.2.2.2.1
theorem dX6_addFurlong_9 : decode cX6_addFurlong 9 = .ok (.iastore, 1) := dX6_addFurlong_r0.2.2.2.2.2.1
theorem dX6_addFurlong_10 : decode cX6_addFurlong 10 = .ok (.aload_n 0, 1) := dX6_addFurlong_r0.2.2.2.2.2.2.1
theorem dX6_addFurlong_11 : decode cX6_addFurlong 11 = .ok (.getfield 15, 3) := dX6_addFurlong_r0.2.2.2.2.2.2.2.1
theorem dX6_addFurlong_14 : decode cX6_addFurlong 14 = .ok (.aload_n 0, 1) := dX6_addFurlong_r0.2.2.2.2.2.2.2.2.1
theorem dX6_addFurlong_15 : decode cX6_addFurlong 15 = .ok (.getfield 24, 3) := dX6_addFurlong_r0.2.2.2.2.2.2.2.2.2.1
theorem dX6_addFurlong_18 : decode cX6_addFurlong 18 = .ok (.iload_n 2, 1) := dX6_addFurlong_r0.2.2.2.2.2.2.2.2.2.2.1
theorem dX6_addFurlong_19 : decode cX6_addFurlong 19 = .ok (.ifCond .eq 7, 3) := dX6_addFurlong_r0.2.2.2.2.2.2.2.2.2.2.2.1
theorem dX6_addFurlong_22 : decode cX6_addFurlong 22 = .ok (.iconst 1, 1) := dX6_addFurlong_r0.2.2.2.2.2.2.2.2.2.2.2.2.1
theorem dX6_addFurlong_23 : decode cX6_addFurlong 23 = .ok (.goto 4, 3) := dX6_addFurlong_r0.2.2.2.2.2.2.2.2.2.2.2.2.2.1
theorem dX6_addFurlong_26 : decode cX6_addFurlong 26 = .ok (.iconst 0, 1) := dX6_addFurlong_r0.2.2.2.2.2.2.2.2.2.2.2.2.2.2.1
theorem dX6_addFurlong_27 : decode cX6_addFurlong 27 = .ok (.iastore, 1) := dX6_addFurlong_r0.2.2.2.2.2.2.2.2.2.2.2.2.2.2.2.1
theorem dX6_addFurlong_r28 : zdcP cX6_addFurlong 28 [(.aload_n 0, 1), (.dup, 1), (.getfield 24, 3), (.dup_x1, 1), (.iconst 1, 1), (.iadd, 1), (.putfield 24, 3), (.ireturn, 1)] := zdcA_ok (by decide +kernel)
theorem dX6_addFurlong_28 : decode cX6_addFurlong 28 = .ok (.aload_n 0, 1) := dX6_addFurlong_r28.1
theorem dX6_addFurlong_29 : decode cX6_addFurlong 29 = .ok (.dup, 1) := dX6_addFurlong_r28.2.1
theorem dX6_addFurlong_30 : decode cX6_addFurlong 30 = .ok (.getfield 24, 3) := dX6_addFurlong_r28.2.2.1
theorem dX6_addFurlong_33 : decode cX6_addFurlong 33 = .ok (.dup_x1, 1) := dX6_addFurlong_r28.2.2.2.1
theorem dX6_addFurlong_34 : decode cX6_addFurlong 34 = .ok (.iconst 1, 1) := dX6_addFurlong_r28.2.2.2.2.1
theorem dX6_addFurlong_35 : decode cX6_addFurlong 35 = .ok (.iadd, 1) := dX6_addFurlong_r28.2.2.2.2.2.1
theorem dX6_addFurlong_36 : decode cX6_addFurlong 36 = .ok (.putfield 24, 3) := dX6_addFurlong_r28.2.2.2.2.2.2.1
theorem dX6_addFurlong_39 : decode cX6_addFurlong 39 = .ok (.ireturn, 1) := dX6_addFurlong_r28.2.2.2.2.2.2.2.1
def wq_66_27 (y0 : Nat) (v1 : Int32) (v2 : Int32) (u0 : Int32) (u1 : Int32) (m : zf_Me) (Q : Int32 → zf_Me → Prop) : Prop := ((0 ≤ (Int32.toInt u1) ∧ (Int32.toInt u1) < (24 : Int)) ∧ ∀ m3, m3 = zf_u m (y0 + 2) (Int32.toInt u1).toNat u0 → (∀ m5, m5 = zf_u m3 y0 4 ((m3.1 y0 4) + 1) → Q (m3.1 y0 4) m5))
theorem zq_66_27 {d : Nat} (hd : 0 ≤ d) {y0 : Nat} (hp0 : zf_way y0) {v1 : Int32} {v2 : Int32} {Q : Int32 → zf_Me → Prop} {u0 : Int32} {u1 : Int32} {m : zf_Me} (h : wq_66_27 y0 v1 v2 u0 u1 m Q) : zf_W none 0 0 d zt_66 27 [some (.inr (.inr (1, y0))), none, none] [.inl u0, .inl u1, .inr (.inr (1, (y0 + 2)))] m (zf_I Q) := by
  unfold wq_66_27 at h
  refine zf_ias (pc' := 28) dX6_addFurlong_27 rfl hp0.2.2.2.1.1 hp0.2.2.2.1.2 h.1 rfl (fun m3 e4 => ?_)
  replace h := h.2 m3 e4
  refine zf_ld (pc' := 29) (v := .inr (.inr (1, y0))) dX6_addFurlong_28 rfl (fun _ _ _ => rfl) rfl rfl rfl ?_
  refine zf_in (pc' := 30) (S' := [.inr (.inr (1, y0)), .inr (.inr (1, y0))]) dX6_addFurlong_29 rfl (fun _ _ _ => rfl) ?_
  refine zf_gfi (pc' := 33) dX6_addFurlong_30 rfl rfl hp0.1 hp0.2.1 rfl ?_
  refine zf_in (pc' := 34) (S' := [.inl (m3.1 y0 4), .inr (.inr (1, y0)), .inl (m3.1 y0 4)]) dX6_addFurlong_33 rfl (fun _ _ _ => rfl) ?_
  refine zf_ic (v := 1) (pc' := 35) dX6_addFurlong_34 rfl rfl ?_
  refine zf_in (pc' := 36) (S' := [.inl ((m3.1 y0 4) + 1), .inr (.inr (1, y0)), .inl (m3.1 y0 4)]) dX6_addFurlong_35 rfl (fun _ _ _ => rfl) ?_
  refine zf_pf (pc' := 39) dX6_addFurlong_36 rfl rfl hp0.1 hp0.2.1 rfl rfl (fun m5 e6 => ?_)
  replace h := h m5 e6
  exact zf_ri dX6_addFurlong_39 rfl h
def wp_66 (y0 : Nat) (v1 : Int32) (v2 : Int32) (m : zf_Me) (Q : Int32 → zf_Me → Prop) : Prop := ((0 ≤ (Int32.toInt (m.1 y0 4)) ∧ (Int32.toInt (m.1 y0 4)) < (24 : Int)) ∧ ∀ m1, m1 = zf_u m (y0 + 1) (Int32.toInt (m.1 y0 4)).toNat v1 → ((v2.toInt = 0 → wq_66_27 y0 v1 v2 0 (m1.1 y0 4) m1 Q) ∧ (¬ v2.toInt = 0 → wq_66_27 y0 v1 v2 1 (m1.1 y0 4) m1 Q)))
theorem zr_66 {d : Nat} (hd : 0 ≤ d) {y0 : Nat} (hp0 : zf_way y0) {v1 : Int32} {v2 : Int32} {Q : Int32 → zf_Me → Prop} {m : zf_Me} (h : wp_66 y0 v1 v2 m Q) : zf_M d 66 [.inr (.inr (1, y0)), .inl v1, .inl v2] m (zf_I Q) := by
  unfold wp_66 at h
  refine zf_M_of (Nat.le_of_ble_eq_true rfl) zm_66 (L := [some (.inr (.inr (1, y0))), some (.inl v1), some (.inl v2)]) rfl ?_
  refine zf_ld (pc' := 1) (v := .inr (.inr (1, y0))) dX6_addFurlong_0 rfl (fun _ _ _ => rfl) rfl rfl rfl ?_
  refine zf_gfr (pc' := 4) (b := (y0 + 1)) dX6_addFurlong_1 rfl rfl hp0.1 hp0.2.1 rfl ?_
  refine zf_ld (pc' := 5) (v := .inr (.inr (1, y0))) dX6_addFurlong_4 rfl (fun _ _ _ => rfl) rfl rfl rfl ?_
  refine zf_gfi (pc' := 8) dX6_addFurlong_5 rfl rfl hp0.1 hp0.2.1 rfl ?_
  refine zf_ld (pc' := 9) (v := .inl v1) dX6_addFurlong_8 rfl (fun _ _ _ => rfl) rfl rfl rfl ?_
  refine zf_ias (pc' := 10) dX6_addFurlong_9 rfl hp0.2.2.1.1 hp0.2.2.1.2 h.1 rfl (fun m1 e2 => ?_)
  replace h := h.2 m1 e2
  refine zf_ld (pc' := 11) (v := .inr (.inr (1, y0))) dX6_addFurlong_10 rfl (fun _ _ _ => rfl) rfl rfl rfl ?_
  refine zf_gfr (pc' := 14) (b := (y0 + 2)) dX6_addFurlong_11 rfl rfl hp0.1 hp0.2.1 rfl ?_
  refine zf_ld (pc' := 15) (v := .inr (.inr (1, y0))) dX6_addFurlong_14 rfl (fun _ _ _ => rfl) rfl rfl rfl ?_
  refine zf_gfi (pc' := 18) dX6_addFurlong_15 rfl rfl hp0.1 hp0.2.1 rfl ?_
  refine zf_ld (pc' := 19) (v := .inl v2) dX6_addFurlong_18 rfl (fun _ _ _ => rfl) rfl rfl rfl ?_
  refine zf_if_eq (tgt := 26) (pc' := 22) dX6_addFurlong_19 rfl rfl (fun g => ?_) (fun g => ?_)
  · replace h := h.1 g
    refine zf_ic (v := 0) (pc' := 27) dX6_addFurlong_26 rfl rfl ?_
    exact zf_lo (zq_66_27 (by omega) hp0 h) ⟨rfl, trivial⟩
  · replace h := h.2 g
    refine zf_ic (v := 1) (pc' := 23) dX6_addFurlong_22 rfl rfl ?_
    refine zf_goto (tgt := 27) dX6_addFurlong_23 rfl ?_
    exact zf_lo (zq_66_27 (by omega) hp0 h) ⟨rfl, trivial⟩
def zt_29 : zx_MT := (4, yX4_tellFurlong, cX4_tellFurlong, 3, none, 1, 0)
theorem zm_29 : zx_m 29 = zt_29 := rfl
theorem dX4_tellFurlong_r0 : zdcP cX4_tellFurlong 0 [(.aload_n 0, 1), (.iconst 0, 1), (.iconst 3, 1), (.invokevirtual 103, 3), (.istore_n 2, 1), (.iload_n 2, 1), (.iconst (-1), 1), (.if_icmp .eq 18, 3), (.aload_n 0, 1), (.getfield 17, 3), (.getfield 43, 3), (.iload_n 1, 1), (.iload_n 2, 1), (.imul, 1), (.iconst 0, 1), (.invokevirtual 107, 3)] := zdcA_ok (by decide +kernel)
theorem dX4_tellFurlong_0 : decode cX4_tellFurlong 0 = .ok (.aload_n 0, 1) := dX4_tellFurlong_r0.1
theorem dX4_tellFurlong_1 : decode cX4_tellFurlong 1 = .ok (.iconst 0, 1) := dX4_tellFurlong_r0.2.1
theorem dX4_tellFurlong_2 : decode cX4_tellFurlong 2 = .ok (.iconst 3, 1) := dX4_tellFurlong_r0.2.2.1
theorem dX4_tellFurlong_3 : decode cX4_tellFurlong 3 = .ok (.invokevirtual 103, 3) := dX4_tellFurlong_r0.2.2.2.1
theorem dX4_tellFurlong_6 : decode cX4_tellFurlong 6 = .ok (.istore_n 2, 1) := dX4_tellFurlong_r0.2.2.2.2.1
theorem dX4_tellFurlong_7 : decode cX4_tellFurlong 7 = .ok (.iload_n 2, 1) := dX4_tellFurlong_r0.2.2.2.2.2.1
theorem dX4_tellFurlong_8 : decode cX4_tellFurlong 8 = .ok (.iconst (-1), 1) := dX4_tellFurlong_r0.2.2.2.2.2.2.1
theorem dX4_tellFurlong_9 : decode cX4_tellFurlong 9 = .ok (.if_icmp .eq 18, 3) := dX4_tellFurlong_r0.2.2.2.2.2.2.2.1
theorem dX4_tellFurlong_12 : decode cX4_tellFurlong 12 = .ok (.aload_n 0, 1) := dX4_tellFurlong_r0.2.2.2.2.2.2.2.2.1
theorem dX4_tellFurlong_13 : decode cX4_tellFurlong 13 = .ok (.getfield 17, 3) := dX4_tellFurlong_r0.2.2.2.2.2.2.2.2.2.1
theorem dX4_tellFurlong_16 : decode cX4_tellFurlong 16 = .ok (.getfield 43, 3) := dX4_tellFurlong_r0.2.2.2.2.2.2.2.2.2.2.1
theorem dX4_tellFurlong_19 : decode cX4_tellFurlong 19 = .ok (.iload_n 1, 1) := dX4_tellFurlong_r0.2.2.2.2.2.2.2.2.2.2.2.1
theorem dX4_tellFurlong_20 : decode cX4_tellFurlong 20 = .ok (.iload_n 2, 1) := dX4_tellFurlong_r0.2.2.2.2.2.2.2.2.2.2.2.2.1
theorem dX4_tellFurlong_21 : decode cX4_tellFurlong 21 = .ok (.imul, 1) := dX4_tellFurlong_r0.2.2.2.2.2.2.2.2.2.2.2.2.2.1
theorem dX4_tellFurlong_22 : decode cX4_tellFurlong 22 = .ok (.iconst 0, 1) := dX4_tellFurlong_r0.2.2.2.2.2.2.2.2.2.2.2.2.2.2.1
theorem dX4_tellFurlong_23 : decode cX4_tellFurlong 23 = .ok (.invokevirtual 107, 3) := dX4_tellFurlong_r0.2.2.2.2.2.2.2.2.2.2.2.2.2.2.2.1
theorem dX4_tellFurlong_r26 : zdcP cX4_tellFurlong 26 [(.pop, 1), (.return_, 1)] := zdcA_ok (by decide +kernel)
theorem dX4_tellFurlong_26 : decode cX4_tellFurlong 26 = .ok (.pop, 1) := dX4_tellFurlong_r26.1
theorem dX4_tellFurlong_27 : decode cX4_tellFurlong 27 = .ok (.return_, 1) := dX4_tellFurlong_r26.2.1
def wp_29 (v1 : Int32) (m : zf_Me) (Q : zf_Me → Prop) : Prop := wp_40 0 3 m (fun x1 m2 => ((x1.toInt = (-1) → Q m2) ∧ (¬ x1.toInt = (-1) → wp_66 37 (v1 * x1) 0 m2 (fun x3 m4 => Q m4))))
theorem zr_29 {d : Nat} (hd : 2 ≤ d) {v1 : Int32} {Q : zf_Me → Prop} {m : zf_Me} (h : wp_29 v1 m Q) : zf_M d 29 [.inr (.inr (1, 35)), .inl v1] m (zf_O Q) := by
  obtain ⟨e, rfl⟩ : ∃ z, d = z + 1 := ⟨d - 1, by omega⟩
  unfold wp_29 at h
  refine zf_M_of (Nat.le_of_ble_eq_true rfl) zm_29 (L := [some (.inr (.inr (1, 35))), some (.inl v1), none]) rfl ?_
  refine zf_ld (pc' := 1) (v := .inr (.inr (1, 35))) dX4_tellFurlong_0 rfl (fun _ _ _ => rfl) rfl rfl rfl ?_
  refine zf_ic (v := 0) (pc' := 2) dX4_tellFurlong_1 rfl rfl ?_
  refine zf_ic (v := 3) (pc' := 3) dX4_tellFurlong_2 rfl rfl ?_
  refine zf_iv (k := 40) (pc' := 6) (r := []) dX4_tellFurlong_3 rfl rfl rfl rfl (by decide) rfl rfl rfl (zr_40 (by omega) h) (zf_kI (fun x1 m2 h => ?_))
  refine zf_st (pc' := 7) (L2 := [some (.inr (.inr (1, 35))), some (.inl v1), some (.inl x1)]) dX4_tellFurlong_6 rfl (fun _ _ _ => rfl) rfl rfl rfl rfl rfl rfl ?_
  refine zf_ld (pc' := 8) (v := .inl x1) dX4_tellFurlong_7 rfl (fun _ _ _ => rfl) rfl rfl rfl ?_
  refine zf_ic (v := (-1)) (pc' := 9) dX4_tellFurlong_8 rfl rfl ?_
  refine zf_icmp_eq (tgt := 27) (pc' := 12) dX4_tellFurlong_9 rfl rfl (fun g => ?_) (fun g => ?_)
  · replace h := h.1 g
    exact zf_rv dX4_tellFurlong_27 rfl h
  · replace h := h.2 g
    refine zf_ld (pc' := 13) (v := .inr (.inr (1, 35))) dX4_tellFurlong_12 rfl (fun _ _ _ => rfl) rfl rfl rfl ?_
    refine zf_gfr (pc' := 16) (b := 36) dX4_tellFurlong_13 rfl rfl (by decide) rfl rfl ?_
    refine zf_gfr (pc' := 19) (b := 37) dX4_tellFurlong_16 rfl rfl zf_walk36.1 zf_walk36.2.1 rfl ?_
    refine zf_ld (pc' := 20) (v := .inl v1) dX4_tellFurlong_19 rfl (fun _ _ _ => rfl) rfl rfl rfl ?_
    refine zf_ld (pc' := 21) (v := .inl x1) dX4_tellFurlong_20 rfl (fun _ _ _ => rfl) rfl rfl rfl ?_
    refine zf_in (pc' := 22) (S' := [.inl (v1 * x1), .inr (.inr (1, 37))]) dX4_tellFurlong_21 rfl (fun _ _ _ => rfl) ?_
    refine zf_ic (v := 0) (pc' := 23) dX4_tellFurlong_22 rfl rfl ?_
    refine zf_iv (k := 66) (pc' := 26) (r := []) dX4_tellFurlong_23 rfl rfl rfl rfl zf_walk36.2.2.1.1 zf_walk36.2.2.1.2.1 rfl rfl (zr_66 (by omega) zf_walk36.2.2.1 h) (zf_kI (fun x3 m4 h => ?_))
    refine zf_in (pc' := 27) (S' := []) dX4_tellFurlong_26 rfl (fun _ _ _ => rfl) ?_
    exact zf_rv dX4_tellFurlong_27 rfl h
def zt_44 : zx_MT := (5, yX5_addPerson, cX5_addPerson, 3, (some FieldType.int), 2, 0)
theorem zm_44 : zx_m 44 = zt_44 := rfl
theorem dX5_addPerson_r0 : zdcP cX5_addPerson 0 [(.aload_n 0, 1), (.getfield 49, 3), (.getfield 59, 3), (.aload_n 0, 1), (.getfield 49, 3), (.getfield 64, 3), (.iload_n 1, 1), (.iastore, 1), (.aload_n 0, 1), (.getfield 49, 3), (.getfield 67, 3), (.aload_n 0, 1), (.getfield 49, 3), (.getfield 64, 3), (.iload_n 2, 1), (.iastore, 1)] := zdcA_ok (by decide +kernel)
theorem dX5_addPerson_0 : decode cX5_addPerson 0 = .ok (.aload_n 0, 1) := dX5_addPerson_r0.1
theorem dX5_addPerson_1 : decode cX5_addPerson 1 = .ok (.getfield 49, 3) := dX5_addPerson_r0.2.1
theorem dX5_addPerson_4 : decode cX5_addPerson 4 = .ok (.getfield 59, 3) := dX5_addPerson_r0.2.2.1
theorem dX5_addPerson_7 : decode cX5_addPerson 7 = .ok (.aload_n 0, 1) := dX5_addPerson_r0.2.2.2.1
theorem dX5_addPerson_8 : decode cX5_addPerson 8 = .ok (.getfield 49, 3) := dX5_addPerson_r0.2.2.2.2.1
theorem dX5_addPerson_11 : decode cX5_addPerson 11 = .ok (.getfield 64, 3) := dX5_addPerson_r0.2.2.2.2.2.1
theorem dX5_addPerson_14 : decode cX5_addPerson 14 = .ok (.iload_n 1, 1) := dX5_addPerson_r0.2.2.2.2.2.2.1
theorem dX5_addPerson_15 : decode cX5_addPerson 15 = .ok (.iastore, 1) := dX5_addPerson_r0.2.2.2.2.2.2.2.1
theorem dX5_addPerson_16 : decode cX5_addPerson 16 = .ok (.aload_n 0, 1) := dX5_addPerson_r0.2.2.2.2.2.2.2.2.1
theorem dX5_addPerson_17 : decode cX5_addPerson 17 = .ok (.getfield 49, 3) := dX5_addPerson_r0.2.2.2.2.2.2.2.2.2.1
theorem dX5_addPerson_20 : decode cX5_addPerson 20 = .ok (.getfield 67, 3) := dX5_addPerson_r0.2.2.2.2.2.2.2.2.2.2.1
theorem dX5_addPerson_23 : decode cX5_addPerson 23 = .ok (.aload_n 0, 1) := dX5_addPerson_r0.2.2.2.2.2.2.2.2.2.2.2.1
theorem dX5_addPerson_24 : decode cX5_addPerson 24 = .ok (.getfield 49, 3) := dX5_addPerson_r0.2.2.2.2.2.2.2.2.2.2.2.2.1
theorem dX5_addPerson_27 : decode cX5_addPerson 27 = .ok (.getfield 64, 3) := dX5_addPerson_r0.2.2.2.2.2.2.2.2.2.2.2.2.2.1
theorem dX5_addPerson_30 : decode cX5_addPerson 30 = .ok (.iload_n 2, 1) := dX5_addPerson_r0.2.2.2.2.2.2.2.2.2.2.2.2.2.2.1
theorem dX5_addPerson_31 : decode cX5_addPerson 31 = .ok (.iastore, 1) := dX5_addPerson_r0.2.2.2.2.2.2.2.2.2.2.2.2.2.2.2.1
theorem dX5_addPerson_r32 : zdcP cX5_addPerson 32 [(.aload_n 0, 1), (.getfield 9, 3), (.aload_n 0, 1), (.getfield 49, 3), (.getfield 64, 3), (.iconst 0, 1), (.iastore, 1), (.aload_n 0, 1), (.getfield 49, 3), (.dup, 1), (.getfield 64, 3), (.dup_x1, 1), (.iconst 1, 1), (.iadd, 1), (.putfield 64, 3), (.ireturn, 1)] := zdcA_ok (by decide +kernel)
theorem dX5_addPerson_32 : decode cX5_addPerson 32 = .ok (.aload_n 0, 1) := dX5_addPerson_r32.1
theorem dX5_addPerson_33 : decode cX5_addPerson 33 = .ok (.getfield 9, 3) := dX5_addPerson_r32.2.1
theorem dX5_addPerson_36 : decode cX5_addPerson 36 = .ok (.aload_n 0, 1) := dX5_addPerson_r32.2.2.1
theorem dX5_addPerson_37 : decode cX5_addPerson 37 = .ok (.getfield 49, 3) := dX5_addPerson_r32.2.2.2.1
theorem dX5_addPerson_40 : decode cX5_addPerson 40 = .ok (.getfield 64, 3) := dX5_addPerson_r32.2.2.2.2.1
theorem dX5_addPerson_43 : decode cX5_addPerson 43 = .ok (.iconst 0, 1) := dX5_addPerson_r32.2.2.2.2.2.1
theorem dX5_addPerson_44 : decode cX5_addPerson 44 = .ok (.iastore, 1) := dX5_addPerson_r32.2.2.2.2.2.2.1
theorem dX5_addPerson_45 : decode cX5_addPerson 45 = .ok (.aload_n 0, 1) := dX5_addPerson_r32.2.2.2.2.2.2.2.1
theorem dX5_addPerson_46 : decode cX5_addPerson 46 = .ok (.getfield 49, 3) := dX5_addPerson_r32.2.2.2.2.2.2.2.2.1
theorem dX5_addPerson_49 : decode cX5_addPerson 49 = .ok (.dup, 1) := dX5_addPerson_r32.2.2.2.2.2.2.2.2.2.1
theorem dX5_addPerson_50 : decode cX5_addPerson 50 = .ok (.getfield 64, 3) := dX5_addPerson_r32.2.2.2.2.2.2.2.2.2.2.1
theorem dX5_addPerson_53 : decode cX5_addPerson 53 = .ok (.dup_x1, 1) := dX5_addPerson_r32.2.2.2.2.2.2.2.2.2.2.2.1
theorem dX5_addPerson_54 : decode cX5_addPerson 54 = .ok (.iconst 1, 1) := dX5_addPerson_r32.2.2.2.2.2.2.2.2.2.2.2.2.1
theorem dX5_addPerson_55 : decode cX5_addPerson 55 = .ok (.iadd, 1) := dX5_addPerson_r32.2.2.2.2.2.2.2.2.2.2.2.2.2.1
theorem dX5_addPerson_56 : decode cX5_addPerson 56 = .ok (.putfield 64, 3) := dX5_addPerson_r32.2.2.2.2.2.2.2.2.2.2.2.2.2.2.1
theorem dX5_addPerson_59 : decode cX5_addPerson 59 = .ok (.ireturn, 1) := dX5_addPerson_r32.2.2.2.2.2.2.2.2.2.2.2.2.2.2.2.1
def wp_44 (w0 : Nat) (y0 : Nat) (r0 : Nat) (v1 : Int32) (v2 : Int32) (m : zf_Me) (Q : Int32 → zf_Me → Prop) : Prop := ((0 ≤ (Int32.toInt (m.1 y0 5)) ∧ (Int32.toInt (m.1 y0 5)) < (6 : Int)) ∧ ∀ m1, m1 = zf_u m (y0 + 3) (Int32.toInt (m.1 y0 5)).toNat v1 → ((0 ≤ (Int32.toInt (m1.1 y0 5)) ∧ (Int32.toInt (m1.1 y0 5)) < (6 : Int)) ∧ ∀ m3, m3 = zf_u m1 (y0 + 4) (Int32.toInt (m1.1 y0 5)).toNat v2 → ((0 ≤ (Int32.toInt (m3.1 y0 5)) ∧ (Int32.toInt (m3.1 y0 5)) < (6 : Int)) ∧ ∀ m5, m5 = zf_u m3 r0 (Int32.toInt (m3.1 y0 5)).toNat 0 → (∀ m7, m7 = zf_u m5 y0 5 ((m5.1 y0 5) + 1) → Q (m5.1 y0 5) m7))))
theorem zr_44 {d : Nat} (hd : 0 ≤ d) {w0 : Nat} {y0 : Nat} {r0 : Nat} (hp0 : zf_walk w0 y0 r0) {v1 : Int32} {v2 : Int32} {Q : Int32 → zf_Me → Prop} {m : zf_Me} (h : wp_44 w0 y0 r0 v1 v2 m Q) : zf_M d 44 [.inr (.inr (1, w0)), .inl v1, .inl v2] m (zf_I Q) := by
  unfold wp_44 at h
  refine zf_M_of (Nat.le_of_ble_eq_true rfl) zm_44 (L := [some (.inr (.inr (1, w0))), some (.inl v1), some (.inl v2)]) rfl ?_
  refine zf_ld (pc' := 1) (v := .inr (.inr (1, w0))) dX5_addPerson_0 rfl (fun _ _ _ => rfl) rfl rfl rfl ?_
  refine zf_gfr (pc' := 4) (b := y0) dX5_addPerson_1 rfl rfl hp0.1 hp0.2.1 rfl ?_
  refine zf_gfr (pc' := 7) (b := (y0 + 3)) dX5_addPerson_4 rfl rfl hp0.2.2.1.1 hp0.2.2.1.2.1 rfl ?_
  refine zf_ld (pc' := 8) (v := .inr (.inr (1, w0))) dX5_addPerson_7 rfl (fun _ _ _ => rfl) rfl rfl rfl ?_
  refine zf_gfr (pc' := 11) (b := y0) dX5_addPerson_8 rfl rfl hp0.1 hp0.2.1 rfl ?_
  refine zf_gfi (pc' := 14) dX5_addPerson_11 rfl rfl hp0.2.2.1.1 hp0.2.2.1.2.1 rfl ?_
  refine zf_ld (pc' := 15) (v := .inl v1) dX5_addPerson_14 rfl (fun _ _ _ => rfl) rfl rfl rfl ?_
  refine zf_ias (pc' := 16) dX5_addPerson_15 rfl hp0.2.2.1.2.2.2.2.1.1 hp0.2.2.1.2.2.2.2.1.2 h.1 rfl (fun m1 e2 => ?_)
  replace h := h.2 m1 e2
  refine zf_ld (pc' := 17) (v := .inr (.inr (1, w0))) dX5_addPerson_16 rfl (fun _ _ _ => rfl) rfl rfl rfl ?_
  refine zf_gfr (pc' := 20) (b := y0) dX5_addPerson_17 rfl rfl hp0.1 hp0.2.1 rfl ?_
  refine zf_gfr (pc' := 23) (b := (y0 + 4)) dX5_addPerson_20 rfl rfl hp0.2.2.1.1 hp0.2.2.1.2.1 rfl ?_
  refine zf_ld (pc' := 24) (v := .inr (.inr (1, w0))) dX5_addPerson_23 rfl (fun _ _ _ => rfl) rfl rfl rfl ?_
  refine zf_gfr (pc' := 27) (b := y0) dX5_addPerson_24 rfl rfl hp0.1 hp0.2.1 rfl ?_
  refine zf_gfi (pc' := 30) dX5_addPerson_27 rfl rfl hp0.2.2.1.1 hp0.2.2.1.2.1 rfl ?_
  refine zf_ld (pc' := 31) (v := .inl v2) dX5_addPerson_30 rfl (fun _ _ _ => rfl) rfl rfl rfl ?_
  refine zf_ias (pc' := 32) dX5_addPerson_31 rfl hp0.2.2.1.2.2.2.2.2.1 hp0.2.2.1.2.2.2.2.2.2 h.1 rfl (fun m3 e4 => ?_)
  replace h := h.2 m3 e4
  refine zf_ld (pc' := 33) (v := .inr (.inr (1, w0))) dX5_addPerson_32 rfl (fun _ _ _ => rfl) rfl rfl rfl ?_
  refine zf_gfr (pc' := 36) (b := r0) dX5_addPerson_33 rfl rfl hp0.1 hp0.2.1 rfl ?_
  refine zf_ld (pc' := 37) (v := .inr (.inr (1, w0))) dX5_addPerson_36 rfl (fun _ _ _ => rfl) rfl rfl rfl ?_
  refine zf_gfr (pc' := 40) (b := y0) dX5_addPerson_37 rfl rfl hp0.1 hp0.2.1 rfl ?_
  refine zf_gfi (pc' := 43) dX5_addPerson_40 rfl rfl hp0.2.2.1.1 hp0.2.2.1.2.1 rfl ?_
  refine zf_ic (v := 0) (pc' := 44) dX5_addPerson_43 rfl rfl ?_
  refine zf_ias (pc' := 45) dX5_addPerson_44 rfl hp0.2.2.2.1 hp0.2.2.2.2 h.1 rfl (fun m5 e6 => ?_)
  replace h := h.2 m5 e6
  refine zf_ld (pc' := 46) (v := .inr (.inr (1, w0))) dX5_addPerson_45 rfl (fun _ _ _ => rfl) rfl rfl rfl ?_
  refine zf_gfr (pc' := 49) (b := y0) dX5_addPerson_46 rfl rfl hp0.1 hp0.2.1 rfl ?_
  refine zf_in (pc' := 50) (S' := [.inr (.inr (1, y0)), .inr (.inr (1, y0))]) dX5_addPerson_49 rfl (fun _ _ _ => rfl) ?_
  refine zf_gfi (pc' := 53) dX5_addPerson_50 rfl rfl hp0.2.2.1.1 hp0.2.2.1.2.1 rfl ?_
  refine zf_in (pc' := 54) (S' := [.inl (m5.1 y0 5), .inr (.inr (1, y0)), .inl (m5.1 y0 5)]) dX5_addPerson_53 rfl (fun _ _ _ => rfl) ?_
  refine zf_ic (v := 1) (pc' := 55) dX5_addPerson_54 rfl rfl ?_
  refine zf_in (pc' := 56) (S' := [.inl ((m5.1 y0 5) + 1), .inr (.inr (1, y0)), .inl (m5.1 y0 5)]) dX5_addPerson_55 rfl (fun _ _ _ => rfl) ?_
  refine zf_pf (pc' := 59) dX5_addPerson_56 rfl rfl hp0.2.2.1.1 hp0.2.2.1.2.1 rfl rfl (fun m7 e8 => ?_)
  replace h := h m7 e8
  exact zf_ri dX5_addPerson_59 rfl h
def zt_30 : zx_MT := (4, yX4_tellPerson, cX4_tellPerson, 3, none, 0, 0)
theorem zm_30 : zx_m 30 = zt_30 := rfl
theorem dX4_tellPerson_r0 : zdcP cX4_tellPerson 0 [(.aload_n 0, 1), (.iconst 0, 1), (.bipush 6, 2), (.invokevirtual 103, 3), (.istore_n 1, 1), (.iload_n 1, 1), (.iconst (-1), 1), (.if_icmp .ne 7, 3), (.iconst (-1), 1), (.goto 10, 3), (.aload_n 0, 1), (.iconst 0, 1), (.bipush 9, 2), (.invokevirtual 103, 3), (.istore_n 2, 1), (.iload_n 2, 1)] := zdcA_ok (by decide +kernel)
theorem dX4_tellPerson_0 : decode cX4_tellPerson 0 = .ok (.aload_n 0, 1) := dX4_tellPerson_r0.1
theorem dX4_tellPerson_1 : decode cX4_tellPerson 1 = .ok (.iconst 0, 1) := dX4_tellPerson_r0.2.1
theorem dX4_tellPerson_2 : decode cX4_tellPerson 2 = .ok (.bipush 6, 2) := dX4_tellPerson_r0.2.2.1
theorem dX4_tellPerson_4 : decode cX4_tellPerson 4 = .ok (.invokevirtual 103, 3) := dX4_tellPerson_r0.2.2.2.1
theorem dX4_tellPerson_7 : decode cX4_tellPerson 7 = .ok (.istore_n 1, 1) := dX4_tellPerson_r0.2.2.2.2.1
theorem dX4_tellPerson_8 : decode cX4_tellPerson 8 = .ok (.iload_n 1, 1) := dX4_tellPerson_r0.2.2.2.2.2.1
theorem dX4_tellPerson_9 : decode cX4_tellPerson 9 = .ok (.iconst (-1), 1) := dX4_tellPerson_r0.2.2.2.2.2.2.1
theorem dX4_tellPerson_10 : decode cX4_tellPerson 10 = .ok (.if_icmp .ne 7, 3) := dX4_tellPerson_r0.2.2.2.2.2.2.2.1
theorem dX4_tellPerson_13 : decode cX4_tellPerson 13 = .ok (.iconst (-1), 1) := dX4_tellPerson_r0.2.2.2.2.2.2.2.2.1
theorem dX4_tellPerson_14 : decode cX4_tellPerson 14 = .ok (.goto 10, 3) := dX4_tellPerson_r0.2.2.2.2.2.2.2.2.2.1
theorem dX4_tellPerson_17 : decode cX4_tellPerson 17 = .ok (.aload_n 0, 1) := dX4_tellPerson_r0.2.2.2.2.2.2.2.2.2.2.1
theorem dX4_tellPerson_18 : decode cX4_tellPerson 18 = .ok (.iconst 0, 1) := dX4_tellPerson_r0.2.2.2.2.2.2.2.2.2.2.2.1
theorem dX4_tellPerson_19 : decode cX4_tellPerson 19 = .ok (.bipush 9, 2) := dX4_tellPerson_r0.2.2.2.2.2.2.2.2.2.2.2.2.1
theorem dX4_tellPerson_21 : decode cX4_tellPerson 21 = .ok (.invokevirtual 103, 3) := dX4_tellPerson_r0.2.2.2.2.2.2.2.2.2.2.2.2.2.1
theorem dX4_tellPerson_24 : decode cX4_tellPerson 24 = .ok (.istore_n 2, 1) := dX4_tellPerson_r0.2.2.2.2.2.2.2.2.2.2.2.2.2.2.1
theorem dX4_tellPerson_25 : decode cX4_tellPerson 25 = .ok (.iload_n 2, 1) := dX4_tellPerson_r0.2.2.2.2.2.2.2.2.2.2.2.2.2.2.2.1
theorem dX4_tellPerson_r26 : zdcP cX4_tellPerson 26 [(.iconst (-1), 1), (.if_icmp .eq 13, 3), (.aload_n 0, 1), (.getfield 17, 3), (.iload_n 1, 1), (.iload_n 2, 1), (.invokevirtual 111, 3), (.pop, 1), (.return_, 1)] := zdcA_ok (by decide +kernel)
theorem dX4_tellPerson_26 : decode cX4_tellPerson 26 = .ok (.iconst (-1), 1) := dX4_tellPerson_r26.1
theorem dX4_tellPerson_27 : decode cX4_tellPerson 27 = .ok (.if_icmp .eq 13, 3) := dX4_tellPerson_r26.2.1
theorem dX4_tellPerson_30 : decode cX4_tellPerson 30 = .ok (.aload_n 0, 1) := dX4_tellPerson_r26.2.2.1
theorem dX4_tellPerson_31 : decode cX4_tellPerson 31 = .ok (.getfield 17, 3) := dX4_tellPerson_r26.2.2.2.1
theorem dX4_tellPerson_34 : decode cX4_tellPerson 34 = .ok (.iload_n 1, 1) := dX4_tellPerson_r26.2.2.2.2.1
theorem dX4_tellPerson_35 : decode cX4_tellPerson 35 = .ok (.iload_n 2, 1) := dX4_tellPerson_r26.2.2.2.2.2.1
theorem dX4_tellPerson_36 : decode cX4_tellPerson 36 = .ok (.invokevirtual 111, 3) := dX4_tellPerson_r26.2.2.2.2.2.2.1
theorem dX4_tellPerson_39 : decode cX4_tellPerson 39 = .ok (.pop, 1) := dX4_tellPerson_r26.2.2.2.2.2.2.2.1
theorem dX4_tellPerson_40 : decode cX4_tellPerson 40 = .ok (.return_, 1) := dX4_tellPerson_r26.2.2.2.2.2.2.2.2.1
def wq_30_24 (v1 : Int32) (u0 : Int32) (m : zf_Me) (Q : zf_Me → Prop) : Prop := ((u0.toInt = (-1) → Q m) ∧ (¬ u0.toInt = (-1) → wp_44 36 37 42 v1 u0 m (fun x5 m6 => Q m6)))
theorem zq_30_24 {d : Nat} (hd : 2 ≤ d) {Q : zf_Me → Prop} {v1 : Int32} {u0 : Int32} {m : zf_Me} (h : wq_30_24 v1 u0 m Q) : zf_W none 0 0 d zt_30 24 [some (.inr (.inr (1, 35))), some (.inl v1), none] [.inl u0] m (zf_O Q) := by
  obtain ⟨e, rfl⟩ : ∃ z, d = z + 1 := ⟨d - 1, by omega⟩
  unfold wq_30_24 at h
  refine zf_st (pc' := 25) (L2 := [some (.inr (.inr (1, 35))), some (.inl v1), some (.inl u0)]) dX4_tellPerson_24 rfl (fun _ _ _ => rfl) rfl rfl rfl rfl rfl rfl ?_
  refine zf_ld (pc' := 26) (v := .inl u0) dX4_tellPerson_25 rfl (fun _ _ _ => rfl) rfl rfl rfl ?_
  refine zf_ic (v := (-1)) (pc' := 27) dX4_tellPerson_26 rfl rfl ?_
  refine zf_icmp_eq (tgt := 40) (pc' := 30) dX4_tellPerson_27 rfl rfl (fun g => ?_) (fun g => ?_)
  · replace h := h.1 g
    exact zf_rv dX4_tellPerson_40 rfl h
  · replace h := h.2 g
    refine zf_ld (pc' := 31) (v := .inr (.inr (1, 35))) dX4_tellPerson_30 rfl (fun _ _ _ => rfl) rfl rfl rfl ?_
    refine zf_gfr (pc' := 34) (b := 36) dX4_tellPerson_31 rfl rfl (by decide) rfl rfl ?_
    refine zf_ld (pc' := 35) (v := .inl v1) dX4_tellPerson_34 rfl (fun _ _ _ => rfl) rfl rfl rfl ?_
    refine zf_ld (pc' := 36) (v := .inl u0) dX4_tellPerson_35 rfl (fun _ _ _ => rfl) rfl rfl rfl ?_
    refine zf_iv (k := 44) (pc' := 39) (r := []) dX4_tellPerson_36 rfl rfl rfl rfl zf_walk36.1 zf_walk36.2.1 rfl rfl (zr_44 (by omega) zf_walk36 h) (zf_kI (fun x5 m6 h => ?_))
    refine zf_in (pc' := 40) (S' := []) dX4_tellPerson_39 rfl (fun _ _ _ => rfl) ?_
    exact zf_rv dX4_tellPerson_40 rfl h
def wp_30 (m : zf_Me) (Q : zf_Me → Prop) : Prop := wp_40 0 6 m (fun x1 m2 => ((¬ x1.toInt = (-1) → wp_40 0 9 m2 (fun x3 m4 => wq_30_24 x1 x3 m4 Q)) ∧ (x1.toInt = (-1) → wq_30_24 x1 (-1) m2 Q)))
theorem zr_30 {d : Nat} (hd : 2 ≤ d) {Q : zf_Me → Prop} {m : zf_Me} (h : wp_30 m Q) : zf_M d 30 [.inr (.inr (1, 35))] m (zf_O Q) := by
  obtain ⟨e, rfl⟩ : ∃ z, d = z + 1 := ⟨d - 1, by omega⟩
  unfold wp_30 at h
  refine zf_M_of (Nat.le_of_ble_eq_true rfl) zm_30 (L := [some (.inr (.inr (1, 35))), none, none]) rfl ?_
  refine zf_ld (pc' := 1) (v := .inr (.inr (1, 35))) dX4_tellPerson_0 rfl (fun _ _ _ => rfl) rfl rfl rfl ?_
  refine zf_ic (v := 0) (pc' := 2) dX4_tellPerson_1 rfl rfl ?_
  refine zf_bi (v := 6) (pc' := 4) dX4_tellPerson_2 rfl rfl ?_
  refine zf_iv (k := 40) (pc' := 7) (r := []) dX4_tellPerson_4 rfl rfl rfl rfl (by decide) rfl rfl rfl (zr_40 (by omega) h) (zf_kI (fun x1 m2 h => ?_))
  refine zf_st (pc' := 8) (L2 := [some (.inr (.inr (1, 35))), some (.inl x1), none]) dX4_tellPerson_7 rfl (fun _ _ _ => rfl) rfl rfl rfl rfl rfl rfl ?_
  refine zf_ld (pc' := 9) (v := .inl x1) dX4_tellPerson_8 rfl (fun _ _ _ => rfl) rfl rfl rfl ?_
  refine zf_ic (v := (-1)) (pc' := 10) dX4_tellPerson_9 rfl rfl ?_
  refine zf_icmp_ne (tgt := 17) (pc' := 13) dX4_tellPerson_10 rfl rfl (fun g => ?_) (fun g => ?_)
  · replace h := h.1 g
    refine zf_ld (pc' := 18) (v := .inr (.inr (1, 35))) dX4_tellPerson_17 rfl (fun _ _ _ => rfl) rfl rfl rfl ?_
    refine zf_ic (v := 0) (pc' := 19) dX4_tellPerson_18 rfl rfl ?_
    refine zf_bi (v := 9) (pc' := 21) dX4_tellPerson_19 rfl rfl ?_
    refine zf_iv (k := 40) (pc' := 24) (r := []) dX4_tellPerson_21 rfl rfl rfl rfl (by decide) rfl rfl rfl (zr_40 (by omega) h) (zf_kI (fun x3 m4 h => ?_))
    exact zf_lo (zq_30_24 (by omega) h) ⟨rfl, rfl, trivial⟩
  · replace h := h.2 g
    refine zf_ic (v := (-1)) (pc' := 14) dX4_tellPerson_13 rfl rfl ?_
    refine zf_goto (tgt := 24) dX4_tellPerson_14 rfl ?_
    exact zf_lo (zq_30_24 (by omega) h) ⟨rfl, rfl, trivial⟩
def zt_31 : zx_MT := (4, yX4_tellTired, cX4_tellTired, 3, none, 0, 0)
theorem zm_31 : zx_m 31 = zt_31 := rfl
theorem dX4_tellTired_r0 : zdcP cX4_tellTired 0 [(.aload_n 0, 1), (.iconst 0, 1), (.aload_n 0, 1), (.getfield 17, 3), (.getfield 43, 3), (.getfield 100, 3), (.iconst 1, 1), (.isub, 1), (.invokevirtual 103, 3), (.istore_n 1, 1), (.iload_n 1, 1), (.iconst (-1), 1), (.if_icmp .ne 7, 3), (.iconst (-1), 1), (.goto 10, 3), (.aload_n 0, 1)] := zdcA_ok (by decide +kernel)
theorem dX4_tellTired_0 : decode cX4_tellTired 0 = .ok (.aload_n 0, 1) := dX4_tellTired_r0.1
theorem dX4_tellTired_1 : decode cX4_tellTired 1 = .ok (.iconst 0, 1) := dX4_tellTired_r0.2.1
theorem dX4_tellTired_2 : decode cX4_tellTired 2 = .ok (.aload_n 0, 1) := dX4_tellTired_r0.2.2.1
theorem dX4_tellTired_3 : decode cX4_tellTired 3 = .ok (.getfield 17, 3) := dX4_tellTired_r0.2.2.2.1
theorem dX4_tellTired_6 : decode cX4_tellTired 6 = .ok (.getfield 43, 3) := dX4_tellTired_r0.2.2.2.2.1
theorem dX4_tellTired_9 : decode cX4_tellTired 9 = .ok (.getfield 100, 3) := dX4_tellTired_r0.2.2.2.2.2.1
theorem dX4_tellTired_12 : decode cX4_tellTired 12 = .ok (.iconst 1, 1) := dX4_tellTired_r0.2.2.2.2.2.2.1
theorem dX4_tellTired_13 : decode cX4_tellTired 13 = .ok (.isub, 1) := dX4_tellTired_r0.2.2.2.2.2.2.2.1
theorem dX4_tellTired_14 : decode cX4_tellTired 14 = .ok (.invokevirtual 103, 3) := dX4_tellTired_r0.2.2.2.2.2.2.2.2.1
theorem dX4_tellTired_17 : decode cX4_tellTired 17 = .ok (.istore_n 1, 1) := dX4_tellTired_r0.2.2.2.2.2.2.2.2.2.1
theorem dX4_tellTired_18 : decode cX4_tellTired 18 = .ok (.iload_n 1, 1) := dX4_tellTired_r0.2.2.2.2.2.2.2.2.2.2.1
theorem dX4_tellTired_19 : decode cX4_tellTired 19 = .ok (.iconst (-1), 1) := dX4_tellTired_r0.2.2.2.2.2.2.2.2.2.2.2.1
theorem dX4_tellTired_20 : decode cX4_tellTired 20 = .ok (.if_icmp .ne 7, 3) := dX4_tellTired_r0.2.2.2.2.2.2.2.2.2.2.2.2.1
theorem dX4_tellTired_23 : decode cX4_tellTired 23 = .ok (.iconst (-1), 1) := dX4_tellTired_r0.2.2.2.2.2.2.2.2.2.2.2.2.2.1
theorem dX4_tellTired_24 : decode cX4_tellTired 24 = .ok (.goto 10, 3) := dX4_tellTired_r0.2.2.2.2.2.2.2.2.2.2.2.2.2.2.1
theorem dX4_tellTired_27 : decode cX4_tellTired 27 = .ok (.aload_n 0, 1) := dX4_tellTired_r0.2.2.2.2.2.2.2.2.2.2.2.2.2.2.2.1
theorem dX4_tellTired_r28 : zdcP cX4_tellTired 28 [(.iconst 0, 1), (.bipush 99, 2), (.invokevirtual 103, 3), (.istore_n 2, 1), (.iload_n 2, 1), (.iconst (-1), 1), (.if_icmp .eq 13, 3), (.aload_n 0, 1), (.getfield 17, 3), (.getfield 114, 3), (.iload_n 1, 1), (.iload_n 2, 1), (.iastore, 1), (.return_, 1)] := zdcA_ok (by decide +kernel)
theorem dX4_tellTired_28 : decode cX4_tellTired 28 = .ok (.iconst 0, 1) := dX4_tellTired_r28.1
theorem dX4_tellTired_29 : decode cX4_tellTired 29 = .ok (.bipush 99, 2) := dX4_tellTired_r28.2.1
theorem dX4_tellTired_31 : decode cX4_tellTired 31 = .ok (.invokevirtual 103, 3) := dX4_tellTired_r28.2.2.1
theorem dX4_tellTired_34 : decode cX4_tellTired 34 = .ok (.istore_n 2, 1) := dX4_tellTired_r28.2.2.2.1
theorem dX4_tellTired_35 : decode cX4_tellTired 35 = .ok (.iload_n 2, 1) := dX4_tellTired_r28.2.2.2.2.1
theorem dX4_tellTired_36 : decode cX4_tellTired 36 = .ok (.iconst (-1), 1) := dX4_tellTired_r28.2.2.2.2.2.1
theorem dX4_tellTired_37 : decode cX4_tellTired 37 = .ok (.if_icmp .eq 13, 3) := dX4_tellTired_r28.2.2.2.2.2.2.1
theorem dX4_tellTired_40 : decode cX4_tellTired 40 = .ok (.aload_n 0, 1) := dX4_tellTired_r28.2.2.2.2.2.2.2.1
theorem dX4_tellTired_41 : decode cX4_tellTired 41 = .ok (.getfield 17, 3) := dX4_tellTired_r28.2.2.2.2.2.2.2.2.1
theorem dX4_tellTired_44 : decode cX4_tellTired 44 = .ok (.getfield 114, 3) := dX4_tellTired_r28.2.2.2.2.2.2.2.2.2.1
theorem dX4_tellTired_47 : decode cX4_tellTired 47 = .ok (.iload_n 1, 1) := dX4_tellTired_r28.2.2.2.2.2.2.2.2.2.2.1
theorem dX4_tellTired_48 : decode cX4_tellTired 48 = .ok (.iload_n 2, 1) := dX4_tellTired_r28.2.2.2.2.2.2.2.2.2.2.2.1
theorem dX4_tellTired_49 : decode cX4_tellTired 49 = .ok (.iastore, 1) := dX4_tellTired_r28.2.2.2.2.2.2.2.2.2.2.2.2.1
theorem dX4_tellTired_50 : decode cX4_tellTired 50 = .ok (.return_, 1) := dX4_tellTired_r28.2.2.2.2.2.2.2.2.2.2.2.2.2.1
def wq_31_34 (v1 : Int32) (u0 : Int32) (m : zf_Me) (Q : zf_Me → Prop) : Prop := ((u0.toInt = (-1) → Q m) ∧ (¬ u0.toInt = (-1) → ((0 ≤ (Int32.toInt v1) ∧ (Int32.toInt v1) < (6 : Int)) ∧ ∀ m5, m5 = zf_u m 42 (Int32.toInt v1).toNat u0 → Q m5)))
theorem zq_31_34 {d : Nat} (hd : 2 ≤ d) {Q : zf_Me → Prop} {v1 : Int32} {u0 : Int32} {m : zf_Me} (h : wq_31_34 v1 u0 m Q) : zf_W none 0 0 d zt_31 34 [some (.inr (.inr (1, 35))), some (.inl v1), none] [.inl u0] m (zf_O Q) := by
  unfold wq_31_34 at h
  refine zf_st (pc' := 35) (L2 := [some (.inr (.inr (1, 35))), some (.inl v1), some (.inl u0)]) dX4_tellTired_34 rfl (fun _ _ _ => rfl) rfl rfl rfl rfl rfl rfl ?_
  refine zf_ld (pc' := 36) (v := .inl u0) dX4_tellTired_35 rfl (fun _ _ _ => rfl) rfl rfl rfl ?_
  refine zf_ic (v := (-1)) (pc' := 37) dX4_tellTired_36 rfl rfl ?_
  refine zf_icmp_eq (tgt := 50) (pc' := 40) dX4_tellTired_37 rfl rfl (fun g => ?_) (fun g => ?_)
  · replace h := h.1 g
    exact zf_rv dX4_tellTired_50 rfl h
  · replace h := h.2 g
    refine zf_ld (pc' := 41) (v := .inr (.inr (1, 35))) dX4_tellTired_40 rfl (fun _ _ _ => rfl) rfl rfl rfl ?_
    refine zf_gfr (pc' := 44) (b := 36) dX4_tellTired_41 rfl rfl (by decide) rfl rfl ?_
    refine zf_gfr (pc' := 47) (b := 42) dX4_tellTired_44 rfl rfl zf_walk36.1 zf_walk36.2.1 rfl ?_
    refine zf_ld (pc' := 48) (v := .inl v1) dX4_tellTired_47 rfl (fun _ _ _ => rfl) rfl rfl rfl ?_
    refine zf_ld (pc' := 49) (v := .inl u0) dX4_tellTired_48 rfl (fun _ _ _ => rfl) rfl rfl rfl ?_
    refine zf_ias (pc' := 50) dX4_tellTired_49 rfl zf_walk36.2.2.2.1 zf_walk36.2.2.2.2 h.1 rfl (fun m5 e6 => ?_)
    replace h := h.2 m5 e6
    exact zf_rv dX4_tellTired_50 rfl h
def wp_31 (m : zf_Me) (Q : zf_Me → Prop) : Prop := wp_40 0 ((m.1 37 5) - 1) m (fun x1 m2 => ((¬ x1.toInt = (-1) → wp_40 0 99 m2 (fun x3 m4 => wq_31_34 x1 x3 m4 Q)) ∧ (x1.toInt = (-1) → wq_31_34 x1 (-1) m2 Q)))
theorem zr_31 {d : Nat} (hd : 2 ≤ d) {Q : zf_Me → Prop} {m : zf_Me} (h : wp_31 m Q) : zf_M d 31 [.inr (.inr (1, 35))] m (zf_O Q) := by
  obtain ⟨e, rfl⟩ : ∃ z, d = z + 1 := ⟨d - 1, by omega⟩
  unfold wp_31 at h
  refine zf_M_of (Nat.le_of_ble_eq_true rfl) zm_31 (L := [some (.inr (.inr (1, 35))), none, none]) rfl ?_
  refine zf_ld (pc' := 1) (v := .inr (.inr (1, 35))) dX4_tellTired_0 rfl (fun _ _ _ => rfl) rfl rfl rfl ?_
  refine zf_ic (v := 0) (pc' := 2) dX4_tellTired_1 rfl rfl ?_
  refine zf_ld (pc' := 3) (v := .inr (.inr (1, 35))) dX4_tellTired_2 rfl (fun _ _ _ => rfl) rfl rfl rfl ?_
  refine zf_gfr (pc' := 6) (b := 36) dX4_tellTired_3 rfl rfl (by decide) rfl rfl ?_
  refine zf_gfr (pc' := 9) (b := 37) dX4_tellTired_6 rfl rfl zf_walk36.1 zf_walk36.2.1 rfl ?_
  refine zf_gfi (pc' := 12) dX4_tellTired_9 rfl rfl zf_walk36.2.2.1.1 zf_walk36.2.2.1.2.1 rfl ?_
  refine zf_ic (v := 1) (pc' := 13) dX4_tellTired_12 rfl rfl ?_
  refine zf_in (pc' := 14) (S' := [.inl ((m.1 37 5) - 1), .inl 0, .inr (.inr (1, 35))]) dX4_tellTired_13 rfl (fun _ _ _ => rfl) ?_
  refine zf_iv (k := 40) (pc' := 17) (r := []) dX4_tellTired_14 rfl rfl rfl rfl (by decide) rfl rfl rfl (zr_40 (by omega) h) (zf_kI (fun x1 m2 h => ?_))
  refine zf_st (pc' := 18) (L2 := [some (.inr (.inr (1, 35))), some (.inl x1), none]) dX4_tellTired_17 rfl (fun _ _ _ => rfl) rfl rfl rfl rfl rfl rfl ?_
  refine zf_ld (pc' := 19) (v := .inl x1) dX4_tellTired_18 rfl (fun _ _ _ => rfl) rfl rfl rfl ?_
  refine zf_ic (v := (-1)) (pc' := 20) dX4_tellTired_19 rfl rfl ?_
  refine zf_icmp_ne (tgt := 27) (pc' := 23) dX4_tellTired_20 rfl rfl (fun g => ?_) (fun g => ?_)
  · replace h := h.1 g
    refine zf_ld (pc' := 28) (v := .inr (.inr (1, 35))) dX4_tellTired_27 rfl (fun _ _ _ => rfl) rfl rfl rfl ?_
    refine zf_ic (v := 0) (pc' := 29) dX4_tellTired_28 rfl rfl ?_
    refine zf_bi (v := 99) (pc' := 31) dX4_tellTired_29 rfl rfl ?_
    refine zf_iv (k := 40) (pc' := 34) (r := []) dX4_tellTired_31 rfl rfl rfl rfl (by decide) rfl rfl rfl (zr_40 (by omega) h) (zf_kI (fun x3 m4 h => ?_))
    exact zf_lo (zq_31_34 (by omega) h) ⟨rfl, rfl, trivial⟩
  · replace h := h.2 g
    refine zf_ic (v := (-1)) (pc' := 24) dX4_tellTired_23 rfl rfl ?_
    refine zf_goto (tgt := 34) dX4_tellTired_24 rfl ?_
    exact zf_lo (zq_31_34 (by omega) h) ⟨rfl, rfl, trivial⟩
def zt_32 : zx_MT := (4, yX4_tellBag, cX4_tellBag, 2, none, 0, 0)
theorem zm_32 : zx_m 32 = zt_32 := rfl
theorem dX4_tellBag_r0 : zdcP cX4_tellBag 0 [(.aload_n 0, 1), (.iconst 0, 1), (.aload_n 0, 1), (.getfield 17, 3), (.getfield 43, 3), (.getfield 100, 3), (.iconst 1, 1), (.isub, 1), (.invokevirtual 103, 3), (.istore_n 1, 1), (.iload_n 1, 1), (.iconst (-1), 1), (.if_icmp .eq 11, 3), (.aload_n 0, 1), (.getfield 17, 3), (.iload_n 1, 1)] := zdcA_ok (by decide +kernel)
theorem dX4_tellBag_0 : decode cX4_tellBag 0 = .ok (.aload_n 0, 1) := dX4_tellBag_r0.1
theorem dX4_tellBag_1 : decode cX4_tellBag 1 = .ok (.iconst 0, 1) := dX4_tellBag_r0.2.1
theorem dX4_tellBag_2 : decode cX4_tellBag 2 = .ok (.aload_n 0, 1) := dX4_tellBag_r0.2.2.1
theorem dX4_tellBag_3 : decode cX4_tellBag 3 = .ok (.getfield 17, 3) := dX4_tellBag_r0.2.2.2.1
theorem dX4_tellBag_6 : decode cX4_tellBag 6 = .ok (.getfield 43, 3) := dX4_tellBag_r0.2.2.2.2.1
theorem dX4_tellBag_9 : decode cX4_tellBag 9 = .ok (.getfield 100, 3) := dX4_tellBag_r0.2.2.2.2.2.1
theorem dX4_tellBag_12 : decode cX4_tellBag 12 = .ok (.iconst 1, 1) := dX4_tellBag_r0.2.2.2.2.2.2.1
theorem dX4_tellBag_13 : decode cX4_tellBag 13 = .ok (.isub, 1) := dX4_tellBag_r0.2.2.2.2.2.2.2.1
theorem dX4_tellBag_14 : decode cX4_tellBag 14 = .ok (.invokevirtual 103, 3) := dX4_tellBag_r0.2.2.2.2.2.2.2.2.1
theorem dX4_tellBag_17 : decode cX4_tellBag 17 = .ok (.istore_n 1, 1) := dX4_tellBag_r0.2.2.2.2.2.2.2.2.2.1
theorem dX4_tellBag_18 : decode cX4_tellBag 18 = .ok (.iload_n 1, 1) := dX4_tellBag_r0.2.2.2.2.2.2.2.2.2.2.1
theorem dX4_tellBag_19 : decode cX4_tellBag 19 = .ok (.iconst (-1), 1) := dX4_tellBag_r0.2.2.2.2.2.2.2.2.2.2.2.1
theorem dX4_tellBag_20 : decode cX4_tellBag 20 = .ok (.if_icmp .eq 11, 3) := dX4_tellBag_r0.2.2.2.2.2.2.2.2.2.2.2.2.1
theorem dX4_tellBag_23 : decode cX4_tellBag 23 = .ok (.aload_n 0, 1) := dX4_tellBag_r0.2.2.2.2.2.2.2.2.2.2.2.2.2.1
theorem dX4_tellBag_24 : decode cX4_tellBag 24 = .ok (.getfield 17, 3) := dX4_tellBag_r0.2.2.2.2.2.2.2.2.2.2.2.2.2.2.1
theorem dX4_tellBag_27 : decode cX4_tellBag 27 = .ok (.iload_n 1, 1) := dX4_tellBag_r0.2.2.2.2.2.2.2.2.2.2.2.2.2.2.2.1
theorem dX4_tellBag_r28 : zdcP cX4_tellBag 28 [(.putfield 117, 3), (.return_, 1)] := zdcA_ok (by decide +kernel)
theorem dX4_tellBag_28 : decode cX4_tellBag 28 = .ok (.putfield 117, 3) := dX4_tellBag_r28.1
theorem dX4_tellBag_31 : decode cX4_tellBag 31 = .ok (.return_, 1) := dX4_tellBag_r28.2.1
def wp_32 (m : zf_Me) (Q : zf_Me → Prop) : Prop := wp_40 0 ((m.1 37 5) - 1) m (fun x1 m2 => ((x1.toInt = (-1) → Q m2) ∧ (¬ x1.toInt = (-1) → (∀ m3, m3 = zf_u m2 36 2 x1 → Q m3))))
theorem zr_32 {d : Nat} (hd : 2 ≤ d) {Q : zf_Me → Prop} {m : zf_Me} (h : wp_32 m Q) : zf_M d 32 [.inr (.inr (1, 35))] m (zf_O Q) := by
  obtain ⟨e, rfl⟩ : ∃ z, d = z + 1 := ⟨d - 1, by omega⟩
  unfold wp_32 at h
  refine zf_M_of (Nat.le_of_ble_eq_true rfl) zm_32 (L := [some (.inr (.inr (1, 35))), none]) rfl ?_
  refine zf_ld (pc' := 1) (v := .inr (.inr (1, 35))) dX4_tellBag_0 rfl (fun _ _ _ => rfl) rfl rfl rfl ?_
  refine zf_ic (v := 0) (pc' := 2) dX4_tellBag_1 rfl rfl ?_
  refine zf_ld (pc' := 3) (v := .inr (.inr (1, 35))) dX4_tellBag_2 rfl (fun _ _ _ => rfl) rfl rfl rfl ?_
  refine zf_gfr (pc' := 6) (b := 36) dX4_tellBag_3 rfl rfl (by decide) rfl rfl ?_
  refine zf_gfr (pc' := 9) (b := 37) dX4_tellBag_6 rfl rfl zf_walk36.1 zf_walk36.2.1 rfl ?_
  refine zf_gfi (pc' := 12) dX4_tellBag_9 rfl rfl zf_walk36.2.2.1.1 zf_walk36.2.2.1.2.1 rfl ?_
  refine zf_ic (v := 1) (pc' := 13) dX4_tellBag_12 rfl rfl ?_
  refine zf_in (pc' := 14) (S' := [.inl ((m.1 37 5) - 1), .inl 0, .inr (.inr (1, 35))]) dX4_tellBag_13 rfl (fun _ _ _ => rfl) ?_
  refine zf_iv (k := 40) (pc' := 17) (r := []) dX4_tellBag_14 rfl rfl rfl rfl (by decide) rfl rfl rfl (zr_40 (by omega) h) (zf_kI (fun x1 m2 h => ?_))
  refine zf_st (pc' := 18) (L2 := [some (.inr (.inr (1, 35))), some (.inl x1)]) dX4_tellBag_17 rfl (fun _ _ _ => rfl) rfl rfl rfl rfl rfl rfl ?_
  refine zf_ld (pc' := 19) (v := .inl x1) dX4_tellBag_18 rfl (fun _ _ _ => rfl) rfl rfl rfl ?_
  refine zf_ic (v := (-1)) (pc' := 20) dX4_tellBag_19 rfl rfl ?_
  refine zf_icmp_eq (tgt := 31) (pc' := 23) dX4_tellBag_20 rfl rfl (fun g => ?_) (fun g => ?_)
  · replace h := h.1 g
    exact zf_rv dX4_tellBag_31 rfl h
  · replace h := h.2 g
    refine zf_ld (pc' := 24) (v := .inr (.inr (1, 35))) dX4_tellBag_23 rfl (fun _ _ _ => rfl) rfl rfl rfl ?_
    refine zf_gfr (pc' := 27) (b := 36) dX4_tellBag_24 rfl rfl (by decide) rfl rfl ?_
    refine zf_ld (pc' := 28) (v := .inl x1) dX4_tellBag_27 rfl (fun _ _ _ => rfl) rfl rfl rfl ?_
    refine zf_pf (pc' := 31) dX4_tellBag_28 rfl rfl zf_walk36.1 zf_walk36.2.1 rfl rfl (fun m3 e4 => ?_)
    replace h := h m3 e4
    exact zf_rv dX4_tellBag_31 rfl h
def zt_33 : zx_MT := (4, yX4_tellAct, cX4_tellAct, 2, none, 0, 0)
theorem zm_33 : zx_m 33 = zt_33 := rfl
theorem dX4_tellAct_r0 : zdcP cX4_tellAct 0 [(.aload_n 0, 1), (.iconst 0, 1), (.bipush 9, 2), (.invokevirtual 103, 3), (.istore_n 1, 1), (.iload_n 1, 1), (.iconst (-1), 1), (.if_icmp .ne 4, 3), (.return_, 1), (.aload_n 0, 1), (.getfield 17, 3), (.iload_n 1, 1), (.invokevirtual 120, 3), (.ifCond .eq 14, 3), (.aload_n 0, 1), (.getfield 17, 3)] := zdcA_ok (by decide +kernel)
theorem dX4_tellAct_0 : decode cX4_tellAct 0 = .ok (.aload_n 0, 1) := dX4_tellAct_r0.1
theorem dX4_tellAct_1 : decode cX4_tellAct 1 = .ok (.iconst 0, 1) := dX4_tellAct_r0.2.1
theorem dX4_tellAct_2 : decode cX4_tellAct 2 = .ok (.bipush 9, 2) := dX4_tellAct_r0.2.2.1
theorem dX4_tellAct_4 : decode cX4_tellAct 4 = .ok (.invokevirtual 103, 3) := dX4_tellAct_r0.2.2.2.1
theorem dX4_tellAct_7 : decode cX4_tellAct 7 = .ok (.istore_n 1, 1) := dX4_tellAct_r0.2.2.2.2.1
theorem dX4_tellAct_8 : decode cX4_tellAct 8 = .ok (.iload_n 1, 1) := dX4_tellAct_r0.2.2.2.2.2.1
theorem dX4_tellAct_9 : decode cX4_tellAct 9 = .ok (.iconst (-1), 1) := dX4_tellAct_r0.2.2.2.2.2.2.1
theorem dX4_tellAct_10 : decode cX4_tellAct 10 = .ok (.if_icmp .ne 4, 3) := dX4_tellAct_r0.2.2.2.2.2.2.2.1
theorem dX4_tellAct_13 : decode cX4_tellAct 13 = .ok (.return_, 1) := dX4_tellAct_r0.2.2.2.2.2.2.2.2.1
theorem dX4_tellAct_14 : decode cX4_tellAct 14 = .ok (.aload_n 0, 1) := dX4_tellAct_r0.2.2.2.2.2.2.2.2.2.1
theorem dX4_tellAct_15 : decode cX4_tellAct 15 = .ok (.getfield 17, 3) := dX4_tellAct_r0.2.2.2.2.2.2.2.2.2.2.1
theorem dX4_tellAct_18 : decode cX4_tellAct 18 = .ok (.iload_n 1, 1) := dX4_tellAct_r0.2.2.2.2.2.2.2.2.2.2.2.1
theorem dX4_tellAct_19 : decode cX4_tellAct 19 = .ok (.invokevirtual 120, 3) := dX4_tellAct_r0.2.2.2.2.2.2.2.2.2.2.2.2.1
theorem dX4_tellAct_22 : decode cX4_tellAct 22 = .ok (.ifCond .eq 14, 3) := dX4_tellAct_r0.2.2.2.2.2.2.2.2.2.2.2.2.2.1
theorem dX4_tellAct_25 : decode cX4_tellAct 25 = .ok (.aload_n 0, 1) := dX4_tellAct_r0.2.2.2.2.2.2.2.2.2.2.2.2.2.2.1
theorem dX4_tellAct_26 : decode cX4_tellAct 26 = .ok (.getfield 17, 3) := dX4_tellAct_r0.2.2.2.2.2.2.2.2.2.2.2.2.2.2.2.1
theorem dX4_tellAct_r29 : zdcP cX4_tellAct 29 [(.iload_n 1, 1), (.invokevirtual 123, 3), (.goto 11, 3), (.aload_n 0, 1), (.aload_n 0, 1), (.getfield 34, 3), (.putfield 40, 3), (.return_, 1)] := zdcA_ok (by decide +kernel)
theorem dX4_tellAct_29 : decode cX4_tellAct 29 = .ok (.iload_n 1, 1) := dX4_tellAct_r29.1
theorem dX4_tellAct_30 : decode cX4_tellAct 30 = .ok (.invokevirtual 123, 3) := dX4_tellAct_r29.2.1
theorem dX4_tellAct_33 : decode cX4_tellAct 33 = .ok (.goto 11, 3) := dX4_tellAct_r29.2.2.1
theorem dX4_tellAct_36 : decode cX4_tellAct 36 = .ok (.aload_n 0, 1) := dX4_tellAct_r29.2.2.2.1
theorem dX4_tellAct_37 : decode cX4_tellAct 37 = .ok (.aload_n 0, 1) := dX4_tellAct_r29.2.2.2.2.1
theorem dX4_tellAct_38 : decode cX4_tellAct 38 = .ok (.getfield 34, 3) := dX4_tellAct_r29.2.2.2.2.2.1
theorem dX4_tellAct_41 : decode cX4_tellAct 41 = .ok (.putfield 40, 3) := dX4_tellAct_r29.2.2.2.2.2.2.1
theorem dX4_tellAct_44 : decode cX4_tellAct 44 = .ok (.return_, 1) := dX4_tellAct_r29.2.2.2.2.2.2.2.1
def wp_33 (m : zf_Me) (Q : zf_Me → Prop) : Prop := wp_40 0 9 m (fun x1 m2 => ((¬ x1.toInt = (-1) → wp_52 36 37 42 x1 m2 (fun b3 m4 => ((b3 = false → (∀ m5, m5 = zf_u m4 35 6 (m4.1 35 4) → Q m5)) ∧ (b3 = true → wp_56 36 37 42 x1 m4 (fun m8 => Q m8))))) ∧ (x1.toInt = (-1) → Q m2)))
theorem zr_33 {d : Nat} (hd : 4 ≤ d) {Q : zf_Me → Prop} {m : zf_Me} (h : wp_33 m Q) : zf_M d 33 [.inr (.inr (1, 35))] m (zf_O Q) := by
  obtain ⟨e, rfl⟩ : ∃ z, d = z + 1 := ⟨d - 1, by omega⟩
  unfold wp_33 at h
  refine zf_M_of (Nat.le_of_ble_eq_true rfl) zm_33 (L := [some (.inr (.inr (1, 35))), none]) rfl ?_
  refine zf_ld (pc' := 1) (v := .inr (.inr (1, 35))) dX4_tellAct_0 rfl (fun _ _ _ => rfl) rfl rfl rfl ?_
  refine zf_ic (v := 0) (pc' := 2) dX4_tellAct_1 rfl rfl ?_
  refine zf_bi (v := 9) (pc' := 4) dX4_tellAct_2 rfl rfl ?_
  refine zf_iv (k := 40) (pc' := 7) (r := []) dX4_tellAct_4 rfl rfl rfl rfl (by decide) rfl rfl rfl (zr_40 (by omega) h) (zf_kI (fun x1 m2 h => ?_))
  refine zf_st (pc' := 8) (L2 := [some (.inr (.inr (1, 35))), some (.inl x1)]) dX4_tellAct_7 rfl (fun _ _ _ => rfl) rfl rfl rfl rfl rfl rfl ?_
  refine zf_ld (pc' := 9) (v := .inl x1) dX4_tellAct_8 rfl (fun _ _ _ => rfl) rfl rfl rfl ?_
  refine zf_ic (v := (-1)) (pc' := 10) dX4_tellAct_9 rfl rfl ?_
  refine zf_icmp_ne (tgt := 14) (pc' := 13) dX4_tellAct_10 rfl rfl (fun g => ?_) (fun g => ?_)
  · replace h := h.1 g
    refine zf_ld (pc' := 15) (v := .inr (.inr (1, 35))) dX4_tellAct_14 rfl (fun _ _ _ => rfl) rfl rfl rfl ?_
    refine zf_gfr (pc' := 18) (b := 36) dX4_tellAct_15 rfl rfl (by decide) rfl rfl ?_
    refine zf_ld (pc' := 19) (v := .inl x1) dX4_tellAct_18 rfl (fun _ _ _ => rfl) rfl rfl rfl ?_
    refine zf_iv (k := 52) (pc' := 22) (r := []) dX4_tellAct_19 rfl rfl rfl rfl zf_walk36.1 zf_walk36.2.1 rfl rfl (zr_52 (by omega) zf_walk36 h) (zf_kB (fun b3 m4 h => ?_))
    refine zf_ib_eq (tgt := 36) (pc' := 25) dX4_tellAct_22 rfl rfl (fun g => ?_) (fun g => ?_)
    · replace h := h.1 g
      refine zf_ld (pc' := 37) (v := .inr (.inr (1, 35))) dX4_tellAct_36 rfl (fun _ _ _ => rfl) rfl rfl rfl ?_
      refine zf_ld (pc' := 38) (v := .inr (.inr (1, 35))) dX4_tellAct_37 rfl (fun _ _ _ => rfl) rfl rfl rfl ?_
      refine zf_gfi (pc' := 41) dX4_tellAct_38 rfl rfl (by decide) rfl rfl ?_
      refine zf_pf (pc' := 44) dX4_tellAct_41 rfl rfl (by decide) rfl rfl rfl (fun m5 e6 => ?_)
      replace h := h m5 e6
      exact zf_rv dX4_tellAct_44 rfl h
    · replace h := h.2 g
      refine zf_ld (pc' := 26) (v := .inr (.inr (1, 35))) dX4_tellAct_25 rfl (fun _ _ _ => rfl) rfl rfl rfl ?_
      refine zf_gfr (pc' := 29) (b := 36) dX4_tellAct_26 rfl rfl (by decide) rfl rfl ?_
      refine zf_ld (pc' := 30) (v := .inl x1) dX4_tellAct_29 rfl (fun _ _ _ => rfl) rfl rfl rfl ?_
      refine zf_iv (k := 56) (pc' := 33) (r := []) dX4_tellAct_30 rfl rfl rfl rfl zf_walk36.1 zf_walk36.2.1 rfl rfl (zr_56 (by omega) zf_walk36 h) (zf_kO (fun m8 h => ?_))
      refine zf_goto (tgt := 44) dX4_tellAct_33 rfl ?_
      exact zf_rv dX4_tellAct_44 rfl h
  · replace h := h.2 g
    exact zf_rv dX4_tellAct_13 rfl h
def zt_46 : zx_MT := (5, yX5_become, cX5_become, 3, none, 2, 0)
theorem zm_46 : zx_m 46 = zt_46 := rfl
theorem dX5_become_0 : decode cX5_become 0 = .ok (.iload_n 1, 1) := zdc_ok (by decide +kernel)
theorem dX5_become_1 : decode cX5_become 1 = .ok (.tableswitch 75 0 3 #[31, 51, 59, 67], 31) := by decide +kernel
theorem dX5_become_r32 : zdcP cX5_become 32 [(.aload_n 0, 1), (.iload_n 2, 1), (.putfield 19, 3), (.aload_n 0, 1), (.aload_n 0, 1), (.getfield 22, 3), (.iload_n 2, 1), (.invokestatic 70, 3), (.putfield 22, 3), (.goto 32, 3), (.aload_n 0, 1), (.iload_n 2, 1), (.putfield 25, 3), (.goto 24, 3), (.aload_n 0, 1), (.iload_n 2, 1)] := zdcA_ok (by decide +kernel)
theorem dX5_become_32 : decode cX5_become 32 = .ok (.aload_n 0, 1) := dX5_become_r32.1
theorem dX5_become_33 : decode cX5_become 33 = .ok (.iload_n 2, 1) := dX5_become_r32.2.1
theorem dX5_become_34 : decode cX5_become 34 = .ok (.putfield 19, 3) := dX5_become_r32.2.2.1
theorem dX5_become_37 : decode cX5_become 37 = .ok (.aload_n 0, 1) := dX5_become_r32.2.2.2.1
theorem dX5_become_38 : decode cX5_become 38 = .ok (.aload_n 0, 1) := dX5_become_r32.2.2.2.2.1
theorem dX5_become_39 : decode cX5_become 39 = .ok (.getfield 22, 3) := dX5_become_r32.2.2.2.2.2.1
theorem dX5_become_42 : decode cX5_become 42 = .ok (.iload_n 2, 1) := dX5_become_r32.2.2.2.2.2.2.1
theorem dX5_become_43 : decode cX5_become 43 = .ok (.invokestatic 70, 3) := dX5_become_r32.2.2.2.2.2.2.2.1
theorem dX5_become_46 : decode cX5_become 46 = .ok (.putfield 22, 3) := dX5_become_r32.2.2.2.2.2.2.2.2.1
theorem dX5_become_49 : decode cX5_become 49 = .ok (.goto 32, 3) := dX5_become_r32.2.2.2.2.2.2.2.2.2.1
theorem dX5_become_52 : decode cX5_become 52 = .ok (.aload_n 0, 1) := dX5_become_r32.2.2.2.2.2.2.2.2.2.2.1
theorem dX5_become_53 : decode cX5_become 53 = .ok (.iload_n 2, 1) := dX5_become_r32.2.2.2.2.2.2.2.2.2.2.2.1
theorem dX5_become_54 : decode cX5_become 54 = .ok (.putfield 25, 3) := dX5_become_r32.2.2.2.2.2.2.2.2.2.2.2.2.1
theorem dX5_become_57 : decode cX5_become 57 = .ok (.goto 24, 3) := dX5_become_r32.2.2.2.2.2.2.2.2.2.2.2.2.2.1
theorem dX5_become_60 : decode cX5_become 60 = .ok (.aload_n 0, 1) := dX5_become_r32.2.2.2.2.2.2.2.2.2.2.2.2.2.2.1
theorem dX5_become_61 : decode cX5_become 61 = .ok (.iload_n 2, 1) := dX5_become_r32.2.2.2.2.2.2.2.2.2.2.2.2.2.2.2.1
theorem dX5_become_r62 : zdcP cX5_become 62 [(.putfield 37, 3), (.goto 16, 3), (.aload_n 0, 1), (.iload_n 2, 1), (.putfield 31, 3), (.goto 8, 3), (.aload_n 0, 1), (.iload_n 2, 1), (.putfield 34, 3), (.return_, 1)] := zdcA_ok (by decide +kernel)
theorem dX5_become_62 : decode cX5_become 62 = .ok (.putfield 37, 3) := dX5_become_r62.1
theorem dX5_become_65 : decode cX5_become 65 = .ok (.goto 16, 3) := dX5_become_r62.2.1
theorem dX5_become_68 : decode cX5_become 68 = .ok (.aload_n 0, 1) := dX5_become_r62.2.2.1
theorem dX5_become_69 : decode cX5_become 69 = .ok (.iload_n 2, 1) := dX5_become_r62.2.2.2.1
theorem dX5_become_70 : decode cX5_become 70 = .ok (.putfield 31, 3) := dX5_become_r62.2.2.2.2.1
theorem dX5_become_73 : decode cX5_become 73 = .ok (.goto 8, 3) := dX5_become_r62.2.2.2.2.2.1
theorem dX5_become_76 : decode cX5_become 76 = .ok (.aload_n 0, 1) := dX5_become_r62.2.2.2.2.2.2.1
theorem dX5_become_77 : decode cX5_become 77 = .ok (.iload_n 2, 1) := dX5_become_r62.2.2.2.2.2.2.2.1
theorem dX5_become_78 : decode cX5_become 78 = .ok (.putfield 34, 3) := dX5_become_r62.2.2.2.2.2.2.2.2.1
theorem dX5_become_81 : decode cX5_become 81 = .ok (.return_, 1) := dX5_become_r62.2.2.2.2.2.2.2.2.2.1
def wp_46 (w0 : Nat) (y0 : Nat) (r0 : Nat) (v1 : Int32) (v2 : Int32) (m : zf_Me) (Q : zf_Me → Prop) : Prop := (((v1.toInt < 0 ∨ v1.toInt > 3) → (∀ m1, m1 = zf_u m w0 8 v2 → Q m1)) ∧ (v1.toInt = 0 → (∀ m3, m3 = zf_u m w0 3 v2 → (∀ m5, m5 = zf_u m3 w0 4 (if v2 < (m3.1 w0 4) then v2 else (m3.1 w0 4)) → Q m5))) ∧ (v1.toInt = 1 → (∀ m7, m7 = zf_u m w0 5 v2 → Q m7)) ∧ (v1.toInt = 2 → (∀ m9, m9 = zf_u m w0 9 v2 → Q m9)) ∧ (v1.toInt = 3 → (∀ m11, m11 = zf_u m w0 7 v2 → Q m11)))
theorem zr_46 {d : Nat} (hd : 0 ≤ d) {w0 : Nat} {y0 : Nat} {r0 : Nat} (hp0 : zf_walk w0 y0 r0) {v1 : Int32} {v2 : Int32} {Q : zf_Me → Prop} {m : zf_Me} (h : wp_46 w0 y0 r0 v1 v2 m Q) : zf_M d 46 [.inr (.inr (1, w0)), .inl v1, .inl v2] m (zf_O Q) := by
  unfold wp_46 at h
  refine zf_M_of (Nat.le_of_ble_eq_true rfl) zm_46 (L := [some (.inr (.inr (1, w0))), some (.inl v1), some (.inl v2)]) rfl ?_
  refine zf_ld (pc' := 1) (v := .inl v1) dX5_become_0 rfl (fun _ _ _ => rfl) rfl rfl rfl ?_
  refine zf_tsc (tgd := 76) dX5_become_1 rfl [32, 52, 60, 68] (by decide) (by decide) (fun g => ?_) (zl_cons (fun g => ?_) (zl_cons (fun g => ?_) (zl_cons (fun g => ?_) (zl_cons (fun g => ?_) (zl_nil)))))
  · replace h := h.1 (by omega)
    refine zf_ld (pc' := 77) (v := .inr (.inr (1, w0))) dX5_become_76 rfl (fun _ _ _ => rfl) rfl rfl rfl ?_
    refine zf_ld (pc' := 78) (v := .inl v2) dX5_become_77 rfl (fun _ _ _ => rfl) rfl rfl rfl ?_
    refine zf_pf (pc' := 81) dX5_become_78 rfl rfl hp0.1 hp0.2.1 rfl rfl (fun m1 e2 => ?_)
    replace h := h m1 e2
    exact zf_rv dX5_become_81 rfl h
  · replace h := h.2.1 (by omega)
    refine zf_ld (pc' := 33) (v := .inr (.inr (1, w0))) dX5_become_32 rfl (fun _ _ _ => rfl) rfl rfl rfl ?_
    refine zf_ld (pc' := 34) (v := .inl v2) dX5_become_33 rfl (fun _ _ _ => rfl) rfl rfl rfl ?_
    refine zf_pf (pc' := 37) dX5_become_34 rfl rfl hp0.1 hp0.2.1 rfl rfl (fun m3 e4 => ?_)
    replace h := h m3 e4
    refine zf_ld (pc' := 38) (v := .inr (.inr (1, w0))) dX5_become_37 rfl (fun _ _ _ => rfl) rfl rfl rfl ?_
    refine zf_ld (pc' := 39) (v := .inr (.inr (1, w0))) dX5_become_38 rfl (fun _ _ _ => rfl) rfl rfl rfl ?_
    refine zf_gfi (pc' := 42) dX5_become_39 rfl rfl hp0.1 hp0.2.1 rfl ?_
    refine zf_ld (pc' := 43) (v := .inl v2) dX5_become_42 rfl (fun _ _ _ => rfl) rfl rfl rfl ?_
    refine zf_min (pc' := 46) dX5_become_43 rfl rfl rfl ?_
    refine zf_pf (pc' := 49) dX5_become_46 rfl rfl hp0.1 hp0.2.1 rfl rfl (fun m5 e6 => ?_)
    replace h := h m5 e6
    refine zf_goto (tgt := 81) dX5_become_49 rfl ?_
    exact zf_rv dX5_become_81 rfl h
  · replace h := h.2.2.1 (by omega)
    refine zf_ld (pc' := 53) (v := .inr (.inr (1, w0))) dX5_become_52 rfl (fun _ _ _ => rfl) rfl rfl rfl ?_
    refine zf_ld (pc' := 54) (v := .inl v2) dX5_become_53 rfl (fun _ _ _ => rfl) rfl rfl rfl ?_
    refine zf_pf (pc' := 57) dX5_become_54 rfl rfl hp0.1 hp0.2.1 rfl rfl (fun m7 e8 => ?_)
    replace h := h m7 e8
    refine zf_goto (tgt := 81) dX5_become_57 rfl ?_
    exact zf_rv dX5_become_81 rfl h
  · replace h := h.2.2.2.1 (by omega)
    refine zf_ld (pc' := 61) (v := .inr (.inr (1, w0))) dX5_become_60 rfl (fun _ _ _ => rfl) rfl rfl rfl ?_
    refine zf_ld (pc' := 62) (v := .inl v2) dX5_become_61 rfl (fun _ _ _ => rfl) rfl rfl rfl ?_
    refine zf_pf (pc' := 65) dX5_become_62 rfl rfl hp0.1 hp0.2.1 rfl rfl (fun m9 e10 => ?_)
    replace h := h m9 e10
    refine zf_goto (tgt := 81) dX5_become_65 rfl ?_
    exact zf_rv dX5_become_81 rfl h
  · replace h := h.2.2.2.2 (by omega)
    refine zf_ld (pc' := 69) (v := .inr (.inr (1, w0))) dX5_become_68 rfl (fun _ _ _ => rfl) rfl rfl rfl ?_
    refine zf_ld (pc' := 70) (v := .inl v2) dX5_become_69 rfl (fun _ _ _ => rfl) rfl rfl rfl ?_
    refine zf_pf (pc' := 73) dX5_become_70 rfl rfl hp0.1 hp0.2.1 rfl rfl (fun m11 e12 => ?_)
    replace h := h m11 e12
    refine zf_goto (tgt := 81) dX5_become_73 rfl ?_
    exact zf_rv dX5_become_81 rfl h
end
section
/-! part 29: methods 34..: laid by wip/flat/dec.py -/
def zt_34 : zx_MT := (4, yX4_tellAsked, cX4_tellAsked, 3, none, 1, 0)
theorem zm_34 : zx_m 34 = zt_34 := rfl
theorem dX4_tellAsked_r0 : zdcP cX4_tellAsked 0 [(.iload_n 1, 1), (.ifCond .lt 8, 3), (.iload_n 1, 1), (.iconst 5, 1), (.if_icmp .lt 4, 3), (.return_, 1), (.aload_n 0, 1), (.getstatic 126, 3), (.iload_n 1, 1), (.iaload, 1), (.getstatic 129, 3), (.iload_n 1, 1), (.iaload, 1), (.invokevirtual 103, 3), (.istore_n 2, 1), (.iload_n 2, 1)] := zdcA_ok (by decide +kernel)
theorem dX4_tellAsked_0 : decode cX4_tellAsked 0 = .ok (.iload_n 1, 1) := dX4_tellAsked_r0.1
theorem dX4_tellAsked_1 : decode cX4_tellAsked 1 = .ok (.ifCond .lt 8, 3) := dX4_tellAsked_r0.2.1
theorem dX4_tellAsked_4 : decode cX4_tellAsked 4 = .ok (.iload_n 1, 1) := dX4_tellAsked_r0.2.2.1
theorem dX4_tellAsked_5 : decode cX4_tellAsked 5 = .ok (.iconst 5, 1) := dX4_tellAsked_r0.2.2.2.1
theorem dX4_tellAsked_6 : decode cX4_tellAsked 6 = .ok (.if_icmp .lt 4, 3) := dX4_tellAsked_r0.2.2.2.2.1
theorem dX4_tellAsked_9 : decode cX4_tellAsked 9 = .ok (.return_, 1) := dX4_tellAsked_r0.2.2.2.2.2.1
theorem dX4_tellAsked_10 : decode cX4_tellAsked 10 = .ok (.aload_n 0, 1) := dX4_tellAsked_r0.2.2.2.2.2.2.1
theorem dX4_tellAsked_11 : decode cX4_tellAsked 11 = .ok (.getstatic 126, 3) := dX4_tellAsked_r0.2.2.2.2.2.2.2.1
theorem dX4_tellAsked_14 : decode cX4_tellAsked 14 = .ok (.iload_n 1, 1) := dX4_tellAsked_r0.2.2.2.2.2.2.2.2.1
theorem dX4_tellAsked_15 : decode cX4_tellAsked 15 = .ok (.iaload, 1) := dX4_tellAsked_r0.2.2.2.2.2.2.2.2.2.1
theorem dX4_tellAsked_16 : decode cX4_tellAsked 16 = .ok (.getstatic 129, 3) := dX4_tellAsked_r0.2.2.2.2.2.2.2.2.2.2.1
theorem dX4_tellAsked_19 : decode cX4_tellAsked 19 = .ok (.iload_n 1, 1) := dX4_tellAsked_r0.2.2.2.2.2.2.2.2.2.2.2.1
theorem dX4_tellAsked_20 : decode cX4_tellAsked 20 = .ok (.iaload, 1) := dX4_tellAsked_r0.2.2.2.2.2.2.2.2.2.2.2.2.1
theorem dX4_tellAsked_21 : decode cX4_tellAsked 21 = .ok (.invokevirtual 103, 3) := dX4_tellAsked_r0.2.2.2.2.2.2.2.2.2.2.2.2.2.1
theorem dX4_tellAsked_24 : decode cX4_tellAsked 24 = .ok (.istore_n 2, 1) := dX4_tellAsked_r0.2.2.2.2.2.2.2.2.2.2.2.2.2.2.1
theorem dX4_tellAsked_25 : decode cX4_tellAsked 25 = .ok (.iload_n 2, 1) := dX4_tellAsked_r0.2.2.2.2.2.2.2.2.2.2.2.2.2.2.2.1
theorem dX4_tellAsked_r26 : zdcP cX4_tellAsked 26 [(.iconst (-1), 1), (.if_icmp .eq 12, 3), (.aload_n 0, 1), (.getfield 17, 3), (.iload_n 1, 1), (.iload_n 2, 1), (.invokevirtual 132, 3), (.return_, 1)] := zdcA_ok (by decide +kernel)
theorem dX4_tellAsked_26 : decode cX4_tellAsked 26 = .ok (.iconst (-1), 1) := dX4_tellAsked_r26.1
theorem dX4_tellAsked_27 : decode cX4_tellAsked 27 = .ok (.if_icmp .eq 12, 3) := dX4_tellAsked_r26.2.1
theorem dX4_tellAsked_30 : decode cX4_tellAsked 30 = .ok (.aload_n 0, 1) := dX4_tellAsked_r26.2.2.1
theorem dX4_tellAsked_31 : decode cX4_tellAsked 31 = .ok (.getfield 17, 3) := dX4_tellAsked_r26.2.2.2.1
theorem dX4_tellAsked_34 : decode cX4_tellAsked 34 = .ok (.iload_n 1, 1) := dX4_tellAsked_r26.2.2.2.2.1
theorem dX4_tellAsked_35 : decode cX4_tellAsked 35 = .ok (.iload_n 2, 1) := dX4_tellAsked_r26.2.2.2.2.2.1
theorem dX4_tellAsked_36 : decode cX4_tellAsked 36 = .ok (.invokevirtual 132, 3) := dX4_tellAsked_r26.2.2.2.2.2.2.1
theorem dX4_tellAsked_39 : decode cX4_tellAsked 39 = .ok (.return_, 1) := dX4_tellAsked_r26.2.2.2.2.2.2.2.1
def wp_34 (v1 : Int32) (m : zf_Me) (Q : zf_Me → Prop) : Prop := ((v1.toInt < 0 → Q m) ∧ (v1.toInt ≥ 0 → ((v1.toInt < 5 → ((0 ≤ (v1).toInt ∧ (v1).toInt < 5) ∧ ((0 ≤ (v1).toInt ∧ (v1).toInt < 5) ∧ wp_40 ((zx_sa.getD 2 []).getD (Int32.toInt v1).toNat 0) ((zx_sa.getD 3 []).getD (Int32.toInt v1).toNat 0) m (fun x1 m2 => ((x1.toInt = (-1) → Q m2) ∧ (¬ x1.toInt = (-1) → wp_46 36 37 42 v1 x1 m2 (fun m4 => Q m4))))))) ∧ (v1.toInt ≥ 5 → Q m))))
theorem zr_34 {d : Nat} (hd : 2 ≤ d) {v1 : Int32} {Q : zf_Me → Prop} {m : zf_Me} (h : wp_34 v1 m Q) : zf_M d 34 [.inr (.inr (1, 35)), .inl v1] m (zf_O Q) := by
  obtain ⟨e, rfl⟩ : ∃ z, d = z + 1 := ⟨d - 1, by omega⟩
  unfold wp_34 at h
  refine zf_M_of (Nat.le_of_ble_eq_true rfl) zm_34 (L := [some (.inr (.inr (1, 35))), some (.inl v1), none]) rfl ?_
  refine zf_ld (pc' := 1) (v := .inl v1) dX4_tellAsked_0 rfl (fun _ _ _ => rfl) rfl rfl rfl ?_
  refine zf_if_lt (tgt := 9) (pc' := 4) dX4_tellAsked_1 rfl rfl (fun g => ?_) (fun g => ?_)
  · replace h := h.1 g
    exact zf_rv dX4_tellAsked_9 rfl h
  · replace h := h.2 g
    refine zf_ld (pc' := 5) (v := .inl v1) dX4_tellAsked_4 rfl (fun _ _ _ => rfl) rfl rfl rfl ?_
    refine zf_ic (v := 5) (pc' := 6) dX4_tellAsked_5 rfl rfl ?_
    refine zf_icmp_lt (tgt := 10) (pc' := 9) dX4_tellAsked_6 rfl rfl (fun g => ?_) (fun g => ?_)
    · replace h := h.1 g
      refine zf_ld (pc' := 11) (v := .inr (.inr (1, 35))) dX4_tellAsked_10 rfl (fun _ _ _ => rfl) rfl rfl rfl ?_
      refine zf_gs (g := 2) (pc' := 14) dX4_tellAsked_11 rfl rfl rfl ?_
      refine zf_ld (pc' := 15) (v := .inl v1) dX4_tellAsked_14 rfl (fun _ _ _ => rfl) rfl rfl rfl ?_
      refine zf_ials (pc' := 16) dX4_tellAsked_15 rfl (by decide) (n := 5) rfl h.1 ?_
      replace h := h.2
      refine zf_gs (g := 3) (pc' := 19) dX4_tellAsked_16 rfl rfl rfl ?_
      refine zf_ld (pc' := 20) (v := .inl v1) dX4_tellAsked_19 rfl (fun _ _ _ => rfl) rfl rfl rfl ?_
      refine zf_ials (pc' := 21) dX4_tellAsked_20 rfl (by decide) (n := 5) rfl h.1 ?_
      replace h := h.2
      refine zf_iv (k := 40) (pc' := 24) (r := []) dX4_tellAsked_21 rfl rfl rfl rfl (by decide) rfl rfl rfl (zr_40 (by omega) h) (zf_kI (fun x1 m2 h => ?_))
      refine zf_st (pc' := 25) (L2 := [some (.inr (.inr (1, 35))), some (.inl v1), some (.inl x1)]) dX4_tellAsked_24 rfl (fun _ _ _ => rfl) rfl rfl rfl rfl rfl rfl ?_
      refine zf_ld (pc' := 26) (v := .inl x1) dX4_tellAsked_25 rfl (fun _ _ _ => rfl) rfl rfl rfl ?_
      refine zf_ic (v := (-1)) (pc' := 27) dX4_tellAsked_26 rfl rfl ?_
      refine zf_icmp_eq (tgt := 39) (pc' := 30) dX4_tellAsked_27 rfl rfl (fun g => ?_) (fun g => ?_)
      · replace h := h.1 g
        exact zf_rv dX4_tellAsked_39 rfl h
      · replace h := h.2 g
        refine zf_ld (pc' := 31) (v := .inr (.inr (1, 35))) dX4_tellAsked_30 rfl (fun _ _ _ => rfl) rfl rfl rfl ?_
        refine zf_gfr (pc' := 34) (b := 36) dX4_tellAsked_31 rfl rfl (by decide) rfl rfl ?_
        refine zf_ld (pc' := 35) (v := .inl v1) dX4_tellAsked_34 rfl (fun _ _ _ => rfl) rfl rfl rfl ?_
        refine zf_ld (pc' := 36) (v := .inl x1) dX4_tellAsked_35 rfl (fun _ _ _ => rfl) rfl rfl rfl ?_
        refine zf_iv (k := 46) (pc' := 39) (r := []) dX4_tellAsked_36 rfl rfl rfl rfl zf_walk36.1 zf_walk36.2.1 rfl rfl (zr_46 (by omega) zf_walk36 h) (zf_kO (fun m4 h => ?_))
        exact zf_rv dX4_tellAsked_39 rfl h
    · replace h := h.2 g
      exact zf_rv dX4_tellAsked_9 rfl h
def zt_27 : zx_MT := (4, yX4_readItem, cX4_readItem, 3, none, 0, 0)
theorem zm_27 : zx_m 27 = zt_27 := rfl
theorem dX4_readItem_r0 : zdcP cX4_readItem 0 [(.aload_n 0, 1), (.getfield 31, 3), (.istore_n 1, 1), (.aload_n 0, 1), (.invokevirtual 67, 3), (.istore_n 2, 1), (.iload_n 2, 1), (.iconst (-1), 1), (.if_icmp .ne 4, 3), (.return_, 1), (.aload_n 0, 1), (.iload_n 2, 1), (.invokevirtual 71, 3), (.ifCond .ne 9, 3), (.aload_n 0, 1), (.iload_n 1, 1)] := zdcA_ok (by decide +kernel)
theorem dX4_readItem_0 : decode cX4_readItem 0 = .ok (.aload_n 0, 1) := dX4_readItem_r0.1
theorem dX4_readItem_1 : decode cX4_readItem 1 = .ok (.getfield 31, 3) := dX4_readItem_r0.2.1
theorem dX4_readItem_4 : decode cX4_readItem 4 = .ok (.istore_n 1, 1) := dX4_readItem_r0.2.2.1
theorem dX4_readItem_5 : decode cX4_readItem 5 = .ok (.aload_n 0, 1) := dX4_readItem_r0.2.2.2.1
theorem dX4_readItem_6 : decode cX4_readItem 6 = .ok (.invokevirtual 67, 3) := dX4_readItem_r0.2.2.2.2.1
theorem dX4_readItem_9 : decode cX4_readItem 9 = .ok (.istore_n 2, 1) := dX4_readItem_r0.2.2.2.2.2.1
theorem dX4_readItem_10 : decode cX4_readItem 10 = .ok (.iload_n 2, 1) := dX4_readItem_r0.2.2.2.2.2.2.1
theorem dX4_readItem_11 : decode cX4_readItem 11 = .ok (.iconst (-1), 1) := dX4_readItem_r0.2.2.2.2.2.2.2.1
theorem dX4_readItem_12 : decode cX4_readItem 12 = .ok (.if_icmp .ne 4, 3) := dX4_readItem_r0.2.2.2.2.2.2.2.2.1
theorem dX4_readItem_15 : decode cX4_readItem 15 = .ok (.return_, 1) := dX4_readItem_r0.2.2.2.2.2.2.2.2.2.1
theorem dX4_readItem_16 : decode cX4_readItem 16 = .ok (.aload_n 0, 1) := dX4_readItem_r0.2.2.2.2.2.2.2.2.2.2.1
theorem dX4_readItem_17 : decode cX4_readItem 17 = .ok (.iload_n 2, 1) := dX4_readItem_r0.2.2.2.2.2.2.2.2.2.2.2.1
theorem dX4_readItem_18 : decode cX4_readItem 18 = .ok (.invokevirtual 71, 3) := dX4_readItem_r0.2.2.2.2.2.2.2.2.2.2.2.2.1
theorem dX4_readItem_21 : decode cX4_readItem 21 = .ok (.ifCond .ne 9, 3) := dX4_readItem_r0.2.2.2.2.2.2.2.2.2.2.2.2.2.1
theorem dX4_readItem_24 : decode cX4_readItem 24 = .ok (.aload_n 0, 1) := dX4_readItem_r0.2.2.2.2.2.2.2.2.2.2.2.2.2.2.1
theorem dX4_readItem_25 : decode cX4_readItem 25 = .ok (.iload_n 1, 1) := dX4_readItem_r0.2.2.2.2.2.2.2.2.2.2.2.2.2.2.2.1
theorem dX4_readItem_r26 : zdcP cX4_readItem 26 [(.putfield 40, 3), (.return_, 1), (.iload_n 2, 1)] := zdcA_ok (by decide +kernel)
theorem dX4_readItem_26 : decode cX4_readItem 26 = .ok (.putfield 40, 3) := dX4_readItem_r26.1
theorem dX4_readItem_29 : decode cX4_readItem 29 = .ok (.return_, 1) := dX4_readItem_r26.2.1
theorem dX4_readItem_30 : decode cX4_readItem 30 = .ok (.iload_n 2, 1) := dX4_readItem_r26.2.2.1
theorem dX4_readItem_31 : decode cX4_readItem 31 = .ok (.tableswitch 112 0 6 #[41, 49, 57, 84, 91, 98, 105], 41) := by decide +kernel
theorem dX4_readItem_r72 : zdcP cX4_readItem 72 [(.aload_n 0, 1), (.iconst 1, 1), (.invokevirtual 75, 3), (.goto 74, 3), (.aload_n 0, 1), (.iconst (-1), 1), (.invokevirtual 75, 3), (.goto 66, 3), (.aload_n 0, 1), (.getfield 17, 3), (.getfield 43, 3), (.getfield 79, 3), (.aload_n 0, 1), (.getfield 17, 3), (.getfield 43, 3), (.getfield 82, 3)] := zdcA_ok (by decide +kernel)
theorem dX4_readItem_72 : decode cX4_readItem 72 = .ok (.aload_n 0, 1) := dX4_readItem_r72.1
theorem dX4_readItem_73 : decode cX4_readItem 73 = .ok (.iconst 1, 1) := dX4_readItem_r72.2.1
theorem dX4_readItem_74 : decode cX4_readItem 74 = .ok (.invokevirtual 75, 3) := dX4_readItem_r72.2.2.1
theorem dX4_readItem_77 : decode cX4_readItem 77 = .ok (.goto 74, 3) := dX4_readItem_r72.2.2.2.1
theorem dX4_readItem_80 : decode cX4_readItem 80 = .ok (.aload_n 0, 1) := dX4_readItem_r72.2.2.2.2.1
theorem dX4_readItem_81 : decode cX4_readItem 81 = .ok (.iconst (-1), 1) := dX4_readItem_r72.2.2.2.2.2.1
theorem dX4_readItem_82 : decode cX4_readItem 82 = .ok (.invokevirtual 75, 3) := dX4_readItem_r72.2.2.2.2.2.2.1
theorem dX4_readItem_85 : decode cX4_readItem 85 = .ok (.goto 66, 3) := dX4_readItem_r72.2.2.2.2.2.2.2.1
theorem dX4_readItem_88 : decode cX4_readItem 88 = .ok (.aload_n 0, 1) := dX4_readItem_r72.2.2.2.2.2.2.2.2.1
theorem dX4_readItem_89 : decode cX4_readItem 89 = .ok (.getfield 17, 3) := dX4_readItem_r72.2.2.2.2.2.2.2.2.2.1
theorem dX4_readItem_92 : decode cX4_readItem 92 = .ok (.getfield 43, 3) := dX4_readItem_r72.2.2.2.2.2.2.2.2.2.2.1
theorem dX4_readItem_95 : decode cX4_readItem 95 = .ok (.getfield 79, 3) := dX4_readItem_r72.2.2.2.2.2.2.2.2.2.2.2.1
theorem dX4_readItem_98 : decode cX4_readItem 98 = .ok (.aload_n 0, 1) := dX4_readItem_r72.2.2.2.2.2.2.2.2.2.2.2.2.1
theorem dX4_readItem_99 : decode cX4_readItem 99 = .ok (.getfield 17, 3) := dX4_readItem_r72.2.2.2.2.2.2.2.2.2.2.2.2.2.1
theorem dX4_readItem_102 : decode cX4_readItem 102 = .ok (.getfield 43, 3) := dX4_readItem_r72.2.2.2.2.2.2.2.2.2.2.2.2.2.2.1
theorem dX4_readItem_105 : decode cX4_readItem 105 = .ok (.getfield 82, 3) := dX4_readItem_r72.2.2.2.2.2.2.2.2.2.2.2.2.2.2.2.1
theorem dX4_readItem_r108 : zdcP cX4_readItem 108 [(.iconst 1, 1), (.isub, 1), (.iconst 1, 1), (.iastore, 1), (.goto 39, 3), (.aload_n 0, 1), (.invokevirtual 85, 3), (.goto 32, 3), (.aload_n 0, 1), (.invokevirtual 88, 3), (.goto 25, 3), (.aload_n 0, 1), (.invokevirtual 91, 3), (.goto 18, 3), (.aload_n 0, 1), (.invokevirtual 94, 3)] := zdcA_ok (by decide +kernel)
theorem dX4_readItem_108 : decode cX4_readItem 108 = .ok (.iconst 1, 1) := dX4_readItem_r108.1
theorem dX4_readItem_109 : decode cX4_readItem 109 = .ok (.isub, 1) := dX4_readItem_r108.2.1
theorem dX4_readItem_110 : decode cX4_readItem 110 = .ok (.iconst 1, 1) := dX4_readItem_r108.2.2.1
theorem dX4_readItem_111 : decode cX4_readItem 111 = .ok (.iastore, 1) := dX4_readItem_r108.2.2.2.1
theorem dX4_readItem_112 : decode cX4_readItem 112 = .ok (.goto 39, 3) := dX4_readItem_r108.2.2.2.2.1
theorem dX4_readItem_115 : decode cX4_readItem 115 = .ok (.aload_n 0, 1) := dX4_readItem_r108.2.2.2.2.2.1
theorem dX4_readItem_116 : decode cX4_readItem 116 = .ok (.invokevirtual 85, 3) := dX4_readItem_r108.2.2.2.2.2.2.1
theorem dX4_readItem_119 : decode cX4_readItem 119 = .ok (.goto 32, 3) := dX4_readItem_r108.2.2.2.2.2.2.2.1
theorem dX4_readItem_122 : decode cX4_readItem 122 = .ok (.aload_n 0, 1) := dX4_readItem_r108.2.2.2.2.2.2.2.2.1
theorem dX4_readItem_123 : decode cX4_readItem 123 = .ok (.invokevirtual 88, 3) := dX4_readItem_r108.2.2.2.2.2.2.2.2.2.1
theorem dX4_readItem_126 : decode cX4_readItem 126 = .ok (.goto 25, 3) := dX4_readItem_r108.2.2.2.2.2.2.2.2.2.2.1
theorem dX4_readItem_129 : decode cX4_readItem 129 = .ok (.aload_n 0, 1) := dX4_readItem_r108.2.2.2.2.2.2.2.2.2.2.2.1
theorem dX4_readItem_130 : decode cX4_readItem 130 = .ok (.invokevirtual 91, 3) := dX4_readItem_r108.2.2.2.2.2.2.2.2.2.2.2.2.1
theorem dX4_readItem_133 : decode cX4_readItem 133 = .ok (.goto 18, 3) := dX4_readItem_r108.2.2.2.2.2.2.2.2.2.2.2.2.2.1
theorem dX4_readItem_136 : decode cX4_readItem 136 = .ok (.aload_n 0, 1) := dX4_readItem_r108.2.2.2.2.2.2.2.2.2.2.2.2.2.2.1
theorem dX4_readItem_137 : decode cX4_readItem 137 = .ok (.invokevirtual 94, 3) := dX4_readItem_r108.2.2.2.2.2.2.2.2.2.2.2.2.2.2.2.1
theorem dX4_readItem_r140 : zdcP cX4_readItem 140 [(.goto 11, 3), (.aload_n 0, 1), (.iload_n 2, 1), (.bipush 7, 2), (.isub, 1), (.invokevirtual 97, 3), (.return_, 1)] := zdcA_ok (by decide +kernel)
theorem dX4_readItem_140 : decode cX4_readItem 140 = .ok (.goto 11, 3) := dX4_readItem_r140.1
theorem dX4_readItem_143 : decode cX4_readItem 143 = .ok (.aload_n 0, 1) := dX4_readItem_r140.2.1
theorem dX4_readItem_144 : decode cX4_readItem 144 = .ok (.iload_n 2, 1) := dX4_readItem_r140.2.2.1
theorem dX4_readItem_145 : decode cX4_readItem 145 = .ok (.bipush 7, 2) := dX4_readItem_r140.2.2.2.1
theorem dX4_readItem_147 : decode cX4_readItem 147 = .ok (.isub, 1) := dX4_readItem_r140.2.2.2.2.1
theorem dX4_readItem_148 : decode cX4_readItem 148 = .ok (.invokevirtual 97, 3) := dX4_readItem_r140.2.2.2.2.2.1
theorem dX4_readItem_151 : decode cX4_readItem 151 = .ok (.return_, 1) := dX4_readItem_r140.2.2.2.2.2.2.1
def wp_27 (m : zf_Me) (Q : zf_Me → Prop) : Prop := wp_35 m (fun x1 m2 => ((¬ x1.toInt = (-1) → wp_28 x1 m2 (fun b3 m4 => ((b3 = true → (((x1.toInt < 0 ∨ x1.toInt > 6) → wp_34 (x1 - 7) m4 (fun m6 => Q m6)) ∧ (x1.toInt = 0 → wp_29 1 m4 (fun m8 => Q m8)) ∧ (x1.toInt = 1 → wp_29 (-1) m4 (fun m10 => Q m10)) ∧ (x1.toInt = 2 → ((0 ≤ (Int32.toInt ((m4.1 37 4) - 1)) ∧ (Int32.toInt ((m4.1 37 4) - 1)) < (24 : Int)) ∧ ∀ m11, m11 = zf_u m4 39 (Int32.toInt ((m4.1 37 4) - 1)).toNat 1 → Q m11)) ∧ (x1.toInt = 3 → wp_30 m4 (fun m14 => Q m14)) ∧ (x1.toInt = 4 → wp_31 m4 (fun m16 => Q m16)) ∧ (x1.toInt = 5 → wp_32 m4 (fun m18 => Q m18)) ∧ (x1.toInt = 6 → wp_33 m4 (fun m20 => Q m20)))) ∧ (b3 = false → (∀ m21, m21 = zf_u m4 35 6 (m.1 35 3) → Q m21))))) ∧ (x1.toInt = (-1) → Q m2)))
theorem zr_27 {d : Nat} (hd : 8 ≤ d) {Q : zf_Me → Prop} {m : zf_Me} (h : wp_27 m Q) : zf_M d 27 [.inr (.inr (1, 35))] m (zf_O Q) := by
  obtain ⟨e, rfl⟩ : ∃ z, d = z + 1 := ⟨d - 1, by omega⟩
  unfold wp_27 at h
  refine zf_M_of (Nat.le_of_ble_eq_true rfl) zm_27 (L := [some (.inr (.inr (1, 35))), none, none]) rfl ?_
  refine zf_ld (pc' := 1) (v := .inr (.inr (1, 35))) dX4_readItem_0 rfl (fun _ _ _ => rfl) rfl rfl rfl ?_
  refine zf_gfi (pc' := 4) dX4_readItem_1 rfl rfl (by decide) rfl rfl ?_
  refine zf_st (pc' := 5) (L2 := [some (.inr (.inr (1, 35))), some (.inl (m.1 35 3)), none]) dX4_readItem_4 rfl (fun _ _ _ => rfl) rfl rfl rfl rfl rfl rfl ?_
  refine zf_ld (pc' := 6) (v := .inr (.inr (1, 35))) dX4_readItem_5 rfl (fun _ _ _ => rfl) rfl rfl rfl ?_
  refine zf_iv (k := 35) (pc' := 9) (r := []) dX4_readItem_6 rfl rfl rfl rfl (by decide) rfl rfl rfl (zr_35 (by omega) h) (zf_kI (fun x1 m2 h => ?_))
  refine zf_st (pc' := 10) (L2 := [some (.inr (.inr (1, 35))), some (.inl (m.1 35 3)), some (.inl x1)]) dX4_readItem_9 rfl (fun _ _ _ => rfl) rfl rfl rfl rfl rfl rfl ?_
  refine zf_ld (pc' := 11) (v := .inl x1) dX4_readItem_10 rfl (fun _ _ _ => rfl) rfl rfl rfl ?_
  refine zf_ic (v := (-1)) (pc' := 12) dX4_readItem_11 rfl rfl ?_
  refine zf_icmp_ne (tgt := 16) (pc' := 15) dX4_readItem_12 rfl rfl (fun g => ?_) (fun g => ?_)
  · replace h := h.1 g
    refine zf_ld (pc' := 17) (v := .inr (.inr (1, 35))) dX4_readItem_16 rfl (fun _ _ _ => rfl) rfl rfl rfl ?_
    refine zf_ld (pc' := 18) (v := .inl x1) dX4_readItem_17 rfl (fun _ _ _ => rfl) rfl rfl rfl ?_
    refine zf_iv (k := 28) (pc' := 21) (r := []) dX4_readItem_18 rfl rfl rfl rfl (by decide) rfl rfl rfl (zr_28 (by omega) h) (zf_kB (fun b3 m4 h => ?_))
    refine zf_ib_ne (tgt := 30) (pc' := 24) dX4_readItem_21 rfl rfl (fun g => ?_) (fun g => ?_)
    · replace h := h.1 g
      refine zf_ld (pc' := 31) (v := .inl x1) dX4_readItem_30 rfl (fun _ _ _ => rfl) rfl rfl rfl ?_
      refine zf_tsc (tgd := 143) dX4_readItem_31 rfl [72, 80, 88, 115, 122, 129, 136] (by decide) (by decide) (fun g => ?_) (zl_cons (fun g => ?_) (zl_cons (fun g => ?_) (zl_cons (fun g => ?_) (zl_cons (fun g => ?_) (zl_cons (fun g => ?_) (zl_cons (fun g => ?_) (zl_cons (fun g => ?_) (zl_nil))))))))
      · replace h := h.1 (by omega)
        refine zf_ld (pc' := 144) (v := .inr (.inr (1, 35))) dX4_readItem_143 rfl (fun _ _ _ => rfl) rfl rfl rfl ?_
        refine zf_ld (pc' := 145) (v := .inl x1) dX4_readItem_144 rfl (fun _ _ _ => rfl) rfl rfl rfl ?_
        refine zf_bi (v := 7) (pc' := 147) dX4_readItem_145 rfl rfl ?_
        refine zf_in (pc' := 148) (S' := [.inl (x1 - 7), .inr (.inr (1, 35))]) dX4_readItem_147 rfl (fun _ _ _ => rfl) ?_
        refine zf_iv (k := 34) (pc' := 151) (r := []) dX4_readItem_148 rfl rfl rfl rfl (by decide) rfl rfl rfl (zr_34 (by omega) h) (zf_kO (fun m6 h => ?_))
        exact zf_rv dX4_readItem_151 rfl h
      · replace h := h.2.1 (by omega)
        refine zf_ld (pc' := 73) (v := .inr (.inr (1, 35))) dX4_readItem_72 rfl (fun _ _ _ => rfl) rfl rfl rfl ?_
        refine zf_ic (v := 1) (pc' := 74) dX4_readItem_73 rfl rfl ?_
        refine zf_iv (k := 29) (pc' := 77) (r := []) dX4_readItem_74 rfl rfl rfl rfl (by decide) rfl rfl rfl (zr_29 (by omega) h) (zf_kO (fun m8 h => ?_))
        refine zf_goto (tgt := 151) dX4_readItem_77 rfl ?_
        exact zf_rv dX4_readItem_151 rfl h
      · replace h := h.2.2.1 (by omega)
        refine zf_ld (pc' := 81) (v := .inr (.inr (1, 35))) dX4_readItem_80 rfl (fun _ _ _ => rfl) rfl rfl rfl ?_
        refine zf_ic (v := (-1)) (pc' := 82) dX4_readItem_81 rfl rfl ?_
        refine zf_iv (k := 29) (pc' := 85) (r := []) dX4_readItem_82 rfl rfl rfl rfl (by decide) rfl rfl rfl (zr_29 (by omega) h) (zf_kO (fun m10 h => ?_))
        refine zf_goto (tgt := 151) dX4_readItem_85 rfl ?_
        exact zf_rv dX4_readItem_151 rfl h
      · replace h := h.2.2.2.1 (by omega)
        refine zf_ld (pc' := 89) (v := .inr (.inr (1, 35))) dX4_readItem_88 rfl (fun _ _ _ => rfl) rfl rfl rfl ?_
        refine zf_gfr (pc' := 92) (b := 36) dX4_readItem_89 rfl rfl (by decide) rfl rfl ?_
        refine zf_gfr (pc' := 95) (b := 37) dX4_readItem_92 rfl rfl zf_walk36.1 zf_walk36.2.1 rfl ?_
        refine zf_gfr (pc' := 98) (b := 39) dX4_readItem_95 rfl rfl zf_walk36.2.2.1.1 zf_walk36.2.2.1.2.1 rfl ?_
        refine zf_ld (pc' := 99) (v := .inr (.inr (1, 35))) dX4_readItem_98 rfl (fun _ _ _ => rfl) rfl rfl rfl ?_
        refine zf_gfr (pc' := 102) (b := 36) dX4_readItem_99 rfl rfl (by decide) rfl rfl ?_
        refine zf_gfr (pc' := 105) (b := 37) dX4_readItem_102 rfl rfl zf_walk36.1 zf_walk36.2.1 rfl ?_
        refine zf_gfi (pc' := 108) dX4_readItem_105 rfl rfl zf_walk36.2.2.1.1 zf_walk36.2.2.1.2.1 rfl ?_
        refine zf_ic (v := 1) (pc' := 109) dX4_readItem_108 rfl rfl ?_
        refine zf_in (pc' := 110) (S' := [.inl ((m4.1 37 4) - 1), .inr (.inr (1, 39))]) dX4_readItem_109 rfl (fun _ _ _ => rfl) ?_
        refine zf_ic (v := 1) (pc' := 111) dX4_readItem_110 rfl rfl ?_
        refine zf_ias (pc' := 112) dX4_readItem_111 rfl zf_walk36.2.2.1.2.2.2.1.1 zf_walk36.2.2.1.2.2.2.1.2 h.1 rfl (fun m11 e12 => ?_)
        replace h := h.2 m11 e12
        refine zf_goto (tgt := 151) dX4_readItem_112 rfl ?_
        exact zf_rv dX4_readItem_151 rfl h
      · replace h := h.2.2.2.2.1 (by omega)
        refine zf_ld (pc' := 116) (v := .inr (.inr (1, 35))) dX4_readItem_115 rfl (fun _ _ _ => rfl) rfl rfl rfl ?_
        refine zf_iv (k := 30) (pc' := 119) (r := []) dX4_readItem_116 rfl rfl rfl rfl (by decide) rfl rfl rfl (zr_30 (by omega) h) (zf_kO (fun m14 h => ?_))
        refine zf_goto (tgt := 151) dX4_readItem_119 rfl ?_
        exact zf_rv dX4_readItem_151 rfl h
      · replace h := h.2.2.2.2.2.1 (by omega)
        refine zf_ld (pc' := 123) (v := .inr (.inr (1, 35))) dX4_readItem_122 rfl (fun _ _ _ => rfl) rfl rfl rfl ?_
        refine zf_iv (k := 31) (pc' := 126) (r := []) dX4_readItem_123 rfl rfl rfl rfl (by decide) rfl rfl rfl (zr_31 (by omega) h) (zf_kO (fun m16 h => ?_))
        refine zf_goto (tgt := 151) dX4_readItem_126 rfl ?_
        exact zf_rv dX4_readItem_151 rfl h
      · replace h := h.2.2.2.2.2.2.1 (by omega)
        refine zf_ld (pc' := 130) (v := .inr (.inr (1, 35))) dX4_readItem_129 rfl (fun _ _ _ => rfl) rfl rfl rfl ?_
        refine zf_iv (k := 32) (pc' := 133) (r := []) dX4_readItem_130 rfl rfl rfl rfl (by decide) rfl rfl rfl (zr_32 (by omega) h) (zf_kO (fun m18 h => ?_))
        refine zf_goto (tgt := 151) dX4_readItem_133 rfl ?_
        exact zf_rv dX4_readItem_151 rfl h
      · replace h := h.2.2.2.2.2.2.2 (by omega)
        refine zf_ld (pc' := 137) (v := .inr (.inr (1, 35))) dX4_readItem_136 rfl (fun _ _ _ => rfl) rfl rfl rfl ?_
        refine zf_iv (k := 33) (pc' := 140) (r := []) dX4_readItem_137 rfl rfl rfl rfl (by decide) rfl rfl rfl (zr_33 (by omega) h) (zf_kO (fun m20 h => ?_))
        refine zf_goto (tgt := 151) dX4_readItem_140 rfl ?_
        exact zf_rv dX4_readItem_151 rfl h
    · replace h := h.2 g
      refine zf_ld (pc' := 25) (v := .inr (.inr (1, 35))) dX4_readItem_24 rfl (fun _ _ _ => rfl) rfl rfl rfl ?_
      refine zf_ld (pc' := 26) (v := .inl (m.1 35 3)) dX4_readItem_25 rfl (fun _ _ _ => rfl) rfl rfl rfl ?_
      refine zf_pf (pc' := 29) dX4_readItem_26 rfl rfl (by decide) rfl rfl rfl (fun m21 e22 => ?_)
      replace h := h m21 e22
      exact zf_rv dX4_readItem_29 rfl h
  · replace h := h.2 g
    exact zf_rv dX4_readItem_15 rfl h
def zt_26 : zx_MT := (4, yX4_read, cX4_read, 5, none, 2, 0)
theorem zm_26 : zx_m 26 = zt_26 := rfl
theorem dX4_read_r0 : zdcP cX4_read 0 [(.aload_n 0, 1), (.getfield 17, 3), (.getfield 43, 3), (.aload_n 2, 1), (.getfield 43, 3), (.invokevirtual 47, 3), (.aload_n 0, 1), (.getfield 17, 3), (.aload_n 2, 1), (.invokevirtual 50, 3), (.aload_n 0, 1), (.aload_n 1, 1), (.getfield 53, 3), (.putfield 27, 3), (.iconst 0, 1), (.istore_n 3, 1)] := zdcA_ok (by decide +kernel)
theorem dX4_read_0 : decode cX4_read 0 = .ok (.aload_n 0, 1) := dX4_read_r0.1
theorem dX4_read_1 : decode cX4_read 1 = .ok (.getfield 17, 3) := dX4_read_r0.2.1
theorem dX4_read_4 : decode cX4_read 4 = .ok (.getfield 43, 3) := dX4_read_r0.2.2.1
theorem dX4_read_7 : decode cX4_read 7 = .ok (.aload_n 2, 1) := dX4_read_r0.2.2.2.1
theorem dX4_read_8 : decode cX4_read 8 = .ok (.getfield 43, 3) := dX4_read_r0.2.2.2.2.1
theorem dX4_read_11 : decode cX4_read 11 = .ok (.invokevirtual 47, 3) := dX4_read_r0.2.2.2.2.2.1
theorem dX4_read_14 : decode cX4_read 14 = .ok (.aload_n 0, 1) := dX4_read_r0.2.2.2.2.2.2.1
theorem dX4_read_15 : decode cX4_read 15 = .ok (.getfield 17, 3) := dX4_read_r0.2.2.2.2.2.2.2.1
theorem dX4_read_18 : decode cX4_read 18 = .ok (.aload_n 2, 1) := dX4_read_r0.2.2.2.2.2.2.2.2.1
theorem dX4_read_19 : decode cX4_read 19 = .ok (.invokevirtual 50, 3) := dX4_read_r0.2.2.2.2.2.2.2.2.2.1
theorem dX4_read_22 : decode cX4_read 22 = .ok (.aload_n 0, 1) := dX4_read_r0.2.2.2.2.2.2.2.2.2.2.1
theorem dX4_read_23 : decode cX4_read 23 = .ok (.aload_n 1, 1) := dX4_read_r0.2.2.2.2.2.2.2.2.2.2.2.1
theorem dX4_read_24 : decode cX4_read 24 = .ok (.getfield 53, 3) := dX4_read_r0.2.2.2.2.2.2.2.2.2.2.2.2.1
theorem dX4_read_27 : decode cX4_read 27 = .ok (.putfield 27, 3) := dX4_read_r0.2.2.2.2.2.2.2.2.2.2.2.2.2.1
theorem dX4_read_30 : decode cX4_read 30 = .ok (.iconst 0, 1) := dX4_read_r0.2.2.2.2.2.2.2.2.2.2.2.2.2.2.1
theorem dX4_read_31 : decode cX4_read 31 = .ok (.istore_n 3, 1) := dX4_read_r0.2.2.2.2.2.2.2.2.2.2.2.2.2.2.2.1
theorem dX4_read_r32 : zdcP cX4_read 32 [(.iload_n 3, 1), (.aload_n 0, 1), (.getfield 27, 3), (.if_icmp .ge 20, 3), (.aload_n 0, 1), (.getfield 23, 3), (.iload_n 3, 1), (.aload_n 1, 1), (.iload_n 3, 1), (.invokevirtual 56, 3), (.iastore, 1), (.iinc 3 1, 3), (.goto (-22), 3), (.aload_n 0, 1), (.iconst 0, 1), (.putfield 31, 3)] := zdcA_ok (by decide +kernel)
theorem dX4_read_32 : decode cX4_read 32 = .ok (.iload_n 3, 1) := dX4_read_r32.1
theorem dX4_read_33 : decode cX4_read 33 = .ok (.aload_n 0, 1) := dX4_read_r32.2.1
theorem dX4_read_34 : decode cX4_read 34 = .ok (.getfield 27, 3) := dX4_read_r32.2.2.1
theorem dX4_read_37 : decode cX4_read 37 = .ok (.if_icmp .ge 20, 3) := dX4_read_r32.2.2.2.1
theorem dX4_read_40 : decode cX4_read 40 = .ok (.aload_n 0, 1) := dX4_read_r32.2.2.2.2.1
theorem dX4_read_41 : decode cX4_read 41 = .ok (.getfield 23, 3) := dX4_read_r32.2.2.2.2.2.1
theorem dX4_read_44 : decode cX4_read 44 = .ok (.iload_n 3, 1) := dX4_read_r32.2.2.2.2.2.2.1
theorem dX4_read_45 : decode cX4_read 45 = .ok (.aload_n 1, 1) := dX4_read_r32.2.2.2.2.2.2.2.1
theorem dX4_read_46 : decode cX4_read 46 = .ok (.iload_n 3, 1) := dX4_read_r32.2.2.2.2.2.2.2.2.1
theorem dX4_read_47 : decode cX4_read 47 = .ok (.invokevirtual 56, 3) := dX4_read_r32.2.2.2.2.2.2.2.2.2.1
theorem dX4_read_50 : decode cX4_read 50 = .ok (.iastore, 1) := dX4_read_r32.2.2.2.2.2.2.2.2.2.2.1
theorem dX4_read_51 : decode cX4_read 51 = .ok (.iinc 3 1, 3) := dX4_read_r32.2.2.2.2.2.2.2.2.2.2.2.1
theorem dX4_read_54 : decode cX4_read 54 = .ok (.goto (-22), 3) := dX4_read_r32.2.2.2.2.2.2.2.2.2.2.2.2.1
theorem dX4_read_57 : decode cX4_read 57 = .ok (.aload_n 0, 1) := dX4_read_r32.2.2.2.2.2.2.2.2.2.2.2.2.2.1
theorem dX4_read_58 : decode cX4_read 58 = .ok (.iconst 0, 1) := dX4_read_r32.2.2.2.2.2.2.2.2.2.2.2.2.2.2.1
theorem dX4_read_59 : decode cX4_read 59 = .ok (.putfield 31, 3) := dX4_read_r32.2.2.2.2.2.2.2.2.2.2.2.2.2.2.2.1
theorem dX4_read_r62 : zdcP cX4_read 62 [(.aload_n 0, 1), (.iconst 0, 1), (.putfield 37, 3), (.aload_n 0, 1), (.iconst (-1), 1), (.putfield 40, 3), (.iconst 1, 1), (.istore_n 3, 1), (.iconst 0, 1), (.istore 4, 2), (.iload_n 3, 1), (.ifCond .eq 65, 3), (.iload 4, 2), (.sipush 160, 3), (.if_icmp .gt 57, 3), (.aload_n 0, 1)] := zdcA_ok (by decide +kernel)
theorem dX4_read_62 : decode cX4_read 62 = .ok (.aload_n 0, 1) := dX4_read_r62.1
theorem dX4_read_63 : decode cX4_read 63 = .ok (.iconst 0, 1) := dX4_read_r62.2.1
theorem dX4_read_64 : decode cX4_read 64 = .ok (.putfield 37, 3) := dX4_read_r62.2.2.1
theorem dX4_read_67 : decode cX4_read 67 = .ok (.aload_n 0, 1) := dX4_read_r62.2.2.2.1
theorem dX4_read_68 : decode cX4_read 68 = .ok (.iconst (-1), 1) := dX4_read_r62.2.2.2.2.1
theorem dX4_read_69 : decode cX4_read 69 = .ok (.putfield 40, 3) := dX4_read_r62.2.2.2.2.2.1
theorem dX4_read_72 : decode cX4_read 72 = .ok (.iconst 1, 1) := dX4_read_r62.2.2.2.2.2.2.1
theorem dX4_read_73 : decode cX4_read 73 = .ok (.istore_n 3, 1) := dX4_read_r62.2.2.2.2.2.2.2.1
theorem dX4_read_74 : decode cX4_read 74 = .ok (.iconst 0, 1) := dX4_read_r62.2.2.2.2.2.2.2.2.1
theorem dX4_read_75 : decode cX4_read 75 = .ok (.istore 4, 2) := dX4_read_r62.2.2.2.2.2.2.2.2.2.1
theorem dX4_read_77 : decode cX4_read 77 = .ok (.iload_n 3, 1) := dX4_read_r62.2.2.2.2.2.2.2.2.2.2.1
theorem dX4_read_78 : decode cX4_read 78 = .ok (.ifCond .eq 65, 3) := dX4_read_r62.2.2.2.2.2.2.2.2.2.2.2.1
theorem dX4_read_81 : decode cX4_read 81 = .ok (.iload 4, 2) := dX4_read_r62.2.2.2.2.2.2.2.2.2.2.2.2.1
theorem dX4_read_83 : decode cX4_read 83 = .ok (.sipush 160, 3) := dX4_read_r62.2.2.2.2.2.2.2.2.2.2.2.2.2.1
theorem dX4_read_86 : decode cX4_read 86 = .ok (.if_icmp .gt 57, 3) := dX4_read_r62.2.2.2.2.2.2.2.2.2.2.2.2.2.2.1
theorem dX4_read_89 : decode cX4_read 89 = .ok (.aload_n 0, 1) := dX4_read_r62.2.2.2.2.2.2.2.2.2.2.2.2.2.2.2.1
theorem dX4_read_r90 : zdcP cX4_read 90 [(.invokevirtual 60, 3), (.aload_n 0, 1), (.dup, 1), (.getfield 37, 3), (.iconst 1, 1), (.iadd, 1), (.putfield 37, 3), (.aload_n 0, 1), (.getfield 40, 3), (.iconst (-1), 1), (.if_icmp .ne 27, 3), (.aload_n 0, 1), (.getfield 31, 3), (.aload_n 0, 1), (.getfield 27, 3), (.if_icmp .ge 16, 3)] := zdcA_ok (by decide +kernel)
theorem dX4_read_90 : decode cX4_read 90 = .ok (.invokevirtual 60, 3) := dX4_read_r90.1
theorem dX4_read_93 : decode cX4_read 93 = .ok (.aload_n 0, 1) := dX4_read_r90.2.1
theorem dX4_read_94 : decode cX4_read 94 = .ok (.dup, 1) := dX4_read_r90.2.2.1
theorem dX4_read_95 : decode cX4_read 95 = .ok (.getfield 37, 3) := dX4_read_r90.2.2.2.1
theorem dX4_read_98 : decode cX4_read 98 = .ok (.iconst 1, 1) := dX4_read_r90.2.2.2.2.1
theorem dX4_read_99 : decode cX4_read 99 = .ok (.iadd, 1) := dX4_read_r90.2.2.2.2.2.1
theorem dX4_read_100 : decode cX4_read 100 = .ok (.putfield 37, 3) := dX4_read_r90.2.2.2.2.2.2.1
theorem dX4_read_103 : decode cX4_read 103 = .ok (.aload_n 0, 1) := dX4_read_r90.2.2.2.2.2.2.2.1
theorem dX4_read_104 : decode cX4_read 104 = .ok (.getfield 40, 3) := dX4_read_r90.2.2.2.2.2.2.2.2.1
theorem dX4_read_107 : decode cX4_read 107 = .ok (.iconst (-1), 1) := dX4_read_r90.2.2.2.2.2.2.2.2.2.1
theorem dX4_read_108 : decode cX4_read 108 = .ok (.if_icmp .ne 27, 3) := dX4_read_r90.2.2.2.2.2.2.2.2.2.2.1
theorem dX4_read_111 : decode cX4_read 111 = .ok (.aload_n 0, 1) := dX4_read_r90.2.2.2.2.2.2.2.2.2.2.2.1
theorem dX4_read_112 : decode cX4_read 112 = .ok (.getfield 31, 3) := dX4_read_r90.2.2.2.2.2.2.2.2.2.2.2.2.1
theorem dX4_read_115 : decode cX4_read 115 = .ok (.aload_n 0, 1) := dX4_read_r90.2.2.2.2.2.2.2.2.2.2.2.2.2.1
theorem dX4_read_116 : decode cX4_read 116 = .ok (.getfield 27, 3) := dX4_read_r90.2.2.2.2.2.2.2.2.2.2.2.2.2.2.1
theorem dX4_read_119 : decode cX4_read 119 = .ok (.if_icmp .ge 16, 3) := dX4_read_r90.2.2.2.2.2.2.2.2.2.2.2.2.2.2.2.1
theorem dX4_read_r122 : zdcP cX4_read 122 [(.aload_n 0, 1), (.bipush 59, 2), (.invokevirtual 63, 3), (.ifCond .eq 7, 3), (.iconst 1, 1), (.goto 4, 3), (.iconst 0, 1), (.istore_n 3, 1), (.iinc 4 1, 3), (.goto (-63), 3), (.return_, 1)] := zdcA_ok (by decide +kernel)
theorem dX4_read_122 : decode cX4_read 122 = .ok (.aload_n 0, 1) := dX4_read_r122.1
theorem dX4_read_123 : decode cX4_read 123 = .ok (.bipush 59, 2) := dX4_read_r122.2.1
theorem dX4_read_125 : decode cX4_read 125 = .ok (.invokevirtual 63, 3) := dX4_read_r122.2.2.1
theorem dX4_read_128 : decode cX4_read 128 = .ok (.ifCond .eq 7, 3) := dX4_read_r122.2.2.2.1
theorem dX4_read_131 : decode cX4_read 131 = .ok (.iconst 1, 1) := dX4_read_r122.2.2.2.2.1
theorem dX4_read_132 : decode cX4_read 132 = .ok (.goto 4, 3) := dX4_read_r122.2.2.2.2.2.1
theorem dX4_read_135 : decode cX4_read 135 = .ok (.iconst 0, 1) := dX4_read_r122.2.2.2.2.2.2.1
theorem dX4_read_136 : decode cX4_read 136 = .ok (.istore_n 3, 1) := dX4_read_r122.2.2.2.2.2.2.2.1
theorem dX4_read_137 : decode cX4_read 137 = .ok (.iinc 4 1, 3) := dX4_read_r122.2.2.2.2.2.2.2.2.1
theorem dX4_read_140 : decode cX4_read 140 = .ok (.goto (-63), 3) := dX4_read_r122.2.2.2.2.2.2.2.2.2.1
theorem dX4_read_143 : decode cX4_read 143 = .ok (.return_, 1) := dX4_read_r122.2.2.2.2.2.2.2.2.2.2.1
def wq_26_77 (c1 : Nat) (r1 : Nat) (w2 : Nat) (y2 : Nat) (r2 : Nat) (Q : zf_Me → Prop) : Nat → Int32 → Int32 → zf_Me → Prop
  | 0, _, _, _ => False
  | n + 1, v3, v4, m => ((v3.toInt = 0 → Q m) ∧ (¬ v3.toInt = 0 → ((v4.toInt > 160 → Q m) ∧ (v4.toInt ≤ 160 → wp_27 m (fun m14 => (∀ m15, m15 = zf_u m14 35 5 ((m14.1 35 5) + 1) → ((¬ ((m15.1 35 6)).toInt = (-1) → wq_26_77 c1 r1 w2 y2 r2 Q n 0 (v4 + 1) m15) ∧ (((m15.1 35 6)).toInt = (-1) → ((((m15.1 35 3)).toInt ≥ ((m15.1 35 2)).toInt → wq_26_77 c1 r1 w2 y2 r2 Q n 0 (v4 + 1) m15) ∧ (((m15.1 35 3)).toInt < ((m15.1 35 2)).toInt → wp_39 59 m15 (fun b17 m18 => ((b17 = false → wq_26_77 c1 r1 w2 y2 r2 Q n 0 (v4 + 1) m18) ∧ (b17 = true → wq_26_77 c1 r1 w2 y2 r2 Q n 1 (v4 + 1) m18)))))))))))))
theorem zq_26_77 {d : Nat} (hd : 9 ≤ d) {c1 : Nat} {r1 : Nat} {w2 : Nat} {y2 : Nat} {r2 : Nat} (hp1 : zf_shelf c1 r1) (hp2 : zf_walk w2 y2 r2) {Q : zf_Me → Prop} : ∀ (n : Nat) (v3 : Int32) (v4 : Int32) (m : zf_Me), wq_26_77 c1 r1 w2 y2 r2 Q n v3 v4 m → zf_W none 0 0 d zt_26 77 [some (.inr (.inr (1, 35))), none, none, some (.inl v3), some (.inl v4)] [] m (zf_O Q) := by
  obtain ⟨e, rfl⟩ : ∃ z, d = z + 1 := ⟨d - 1, by omega⟩
  intro n
  induction n with
  | zero =>
    intro v3 v4 m h
    exact h.elim
  | succ n ih =>
    intro v3 v4 m h
    unfold wq_26_77 at h
    refine zf_ld (pc' := 78) (v := .inl v3) dX4_read_77 rfl (fun _ _ _ => rfl) rfl rfl rfl ?_
    refine zf_if_eq (tgt := 143) (pc' := 81) dX4_read_78 rfl rfl (fun g => ?_) (fun g => ?_)
    · replace h := h.1 g
      exact zf_rv dX4_read_143 rfl h
    · replace h := h.2 g
      refine zf_ld (pc' := 83) (v := .inl v4) dX4_read_81 rfl (fun _ _ _ => rfl) rfl rfl rfl ?_
      refine zf_si (v := 160) (pc' := 86) dX4_read_83 rfl rfl ?_
      refine zf_icmp_gt (tgt := 143) (pc' := 89) dX4_read_86 rfl rfl (fun g => ?_) (fun g => ?_)
      · replace h := h.1 g
        exact zf_rv dX4_read_143 rfl h
      · replace h := h.2 g
        refine zf_ld (pc' := 90) (v := .inr (.inr (1, 35))) dX4_read_89 rfl (fun _ _ _ => rfl) rfl rfl rfl ?_
        refine zf_iv (k := 27) (pc' := 93) (r := []) dX4_read_90 rfl rfl rfl rfl (by decide) rfl rfl rfl (zr_27 (by omega) h) (zf_kO (fun m14 h => ?_))
        refine zf_ld (pc' := 94) (v := .inr (.inr (1, 35))) dX4_read_93 rfl (fun _ _ _ => rfl) rfl rfl rfl ?_
        refine zf_in (pc' := 95) (S' := [.inr (.inr (1, 35)), .inr (.inr (1, 35))]) dX4_read_94 rfl (fun _ _ _ => rfl) ?_
        refine zf_gfi (pc' := 98) dX4_read_95 rfl rfl (by decide) rfl rfl ?_
        refine zf_ic (v := 1) (pc' := 99) dX4_read_98 rfl rfl ?_
        refine zf_in (pc' := 100) (S' := [.inl ((m14.1 35 5) + 1), .inr (.inr (1, 35))]) dX4_read_99 rfl (fun _ _ _ => rfl) ?_
        refine zf_pf (pc' := 103) dX4_read_100 rfl rfl (by decide) rfl rfl rfl (fun m15 e16 => ?_)
        replace h := h m15 e16
        refine zf_ld (pc' := 104) (v := .inr (.inr (1, 35))) dX4_read_103 rfl (fun _ _ _ => rfl) rfl rfl rfl ?_
        refine zf_gfi (pc' := 107) dX4_read_104 rfl rfl (by decide) rfl rfl ?_
        refine zf_ic (v := (-1)) (pc' := 108) dX4_read_107 rfl rfl ?_
        refine zf_icmp_ne (tgt := 135) (pc' := 111) dX4_read_108 rfl rfl (fun g => ?_) (fun g => ?_)
        · replace h := h.1 g
          refine zf_ic (v := 0) (pc' := 136) dX4_read_135 rfl rfl ?_
          refine zf_st (pc' := 137) (L2 := [some (.inr (.inr (1, 35))), none, none, some (.inl 0), some (.inl v4)]) dX4_read_136 rfl (fun _ _ _ => rfl) rfl rfl rfl rfl rfl rfl ?_
          refine zf_ii (y := (v4 + 1)) (L2 := [some (.inr (.inr (1, 35))), none, none, some (.inl 0), some (.inl (v4 + 1))]) (pc' := 140) dX4_read_137 rfl rfl rfl rfl rfl ?_
          refine zf_goto (tgt := 77) dX4_read_140 rfl ?_
          exact zf_lo (ih _ _ _ h) ⟨rfl, rfl, rfl, trivial⟩
        · replace h := h.2 g
          refine zf_ld (pc' := 112) (v := .inr (.inr (1, 35))) dX4_read_111 rfl (fun _ _ _ => rfl) rfl rfl rfl ?_
          refine zf_gfi (pc' := 115) dX4_read_112 rfl rfl (by decide) rfl rfl ?_
          refine zf_ld (pc' := 116) (v := .inr (.inr (1, 35))) dX4_read_115 rfl (fun _ _ _ => rfl) rfl rfl rfl ?_
          refine zf_gfi (pc' := 119) dX4_read_116 rfl rfl (by decide) rfl rfl ?_
          refine zf_icmp_ge (tgt := 135) (pc' := 122) dX4_read_119 rfl rfl (fun g => ?_) (fun g => ?_)
          · replace h := h.1 g
            refine zf_ic (v := 0) (pc' := 136) dX4_read_135 rfl rfl ?_
            refine zf_st (pc' := 137) (L2 := [some (.inr (.inr (1, 35))), none, none, some (.inl 0), some (.inl v4)]) dX4_read_136 rfl (fun _ _ _ => rfl) rfl rfl rfl rfl rfl rfl ?_
            refine zf_ii (y := (v4 + 1)) (L2 := [some (.inr (.inr (1, 35))), none, none, some (.inl 0), some (.inl (v4 + 1))]) (pc' := 140) dX4_read_137 rfl rfl rfl rfl rfl ?_
            refine zf_goto (tgt := 77) dX4_read_140 rfl ?_
            exact zf_lo (ih _ _ _ h) ⟨rfl, rfl, rfl, trivial⟩
          · replace h := h.2 g
            refine zf_ld (pc' := 123) (v := .inr (.inr (1, 35))) dX4_read_122 rfl (fun _ _ _ => rfl) rfl rfl rfl ?_
            refine zf_bi (v := 59) (pc' := 125) dX4_read_123 rfl rfl ?_
            refine zf_iv (k := 39) (pc' := 128) (r := []) dX4_read_125 rfl rfl rfl rfl (by decide) rfl rfl rfl (zr_39 (by omega) h) (zf_kB (fun b17 m18 h => ?_))
            refine zf_ib_eq (tgt := 135) (pc' := 131) dX4_read_128 rfl rfl (fun g => ?_) (fun g => ?_)
            · replace h := h.1 g
              refine zf_ic (v := 0) (pc' := 136) dX4_read_135 rfl rfl ?_
              refine zf_st (pc' := 137) (L2 := [some (.inr (.inr (1, 35))), none, none, some (.inl 0), some (.inl v4)]) dX4_read_136 rfl (fun _ _ _ => rfl) rfl rfl rfl rfl rfl rfl ?_
              refine zf_ii (y := (v4 + 1)) (L2 := [some (.inr (.inr (1, 35))), none, none, some (.inl 0), some (.inl (v4 + 1))]) (pc' := 140) dX4_read_137 rfl rfl rfl rfl rfl ?_
              refine zf_goto (tgt := 77) dX4_read_140 rfl ?_
              exact zf_lo (ih _ _ _ h) ⟨rfl, rfl, rfl, trivial⟩
            · replace h := h.2 g
              refine zf_ic (v := 1) (pc' := 132) dX4_read_131 rfl rfl ?_
              refine zf_goto (tgt := 136) dX4_read_132 rfl ?_
              refine zf_st (pc' := 137) (L2 := [some (.inr (.inr (1, 35))), none, none, some (.inl 1), some (.inl v4)]) dX4_read_136 rfl (fun _ _ _ => rfl) rfl rfl rfl rfl rfl rfl ?_
              refine zf_ii (y := (v4 + 1)) (L2 := [some (.inr (.inr (1, 35))), none, none, some (.inl 1), some (.inl (v4 + 1))]) (pc' := 140) dX4_read_137 rfl rfl rfl rfl rfl ?_
              refine zf_goto (tgt := 77) dX4_read_140 rfl ?_
              exact zf_lo (ih _ _ _ h) ⟨rfl, rfl, rfl, trivial⟩
def wq_26_32 (c1 : Nat) (r1 : Nat) (w2 : Nat) (y2 : Nat) (r2 : Nat) (Q : zf_Me → Prop) : Nat → Int32 → zf_Me → Prop
  | 0, _, _ => False
  | n + 1, v3, m => ((v3.toInt ≥ ((m.1 35 2)).toInt → (∀ m7, m7 = zf_u m 35 3 0 → (∀ m9, m9 = zf_u m7 35 5 0 → (∀ m11, m11 = zf_u m9 35 6 (-1) → (∃ n77, wq_26_77 c1 r1 w2 y2 r2 Q n77 1 0 m11))))) ∧ (v3.toInt < ((m.1 35 2)).toInt → wp_24 c1 r1 v3 m (fun x19 m20 => ((0 ≤ (Int32.toInt v3) ∧ (Int32.toInt v3) < (160 : Int)) ∧ ∀ m21, m21 = zf_u m20 43 (Int32.toInt v3).toNat x19 → wq_26_32 c1 r1 w2 y2 r2 Q n (v3 + 1) m21))))
theorem zq_26_32 {d : Nat} (hd : 9 ≤ d) {c1 : Nat} {r1 : Nat} {w2 : Nat} {y2 : Nat} {r2 : Nat} (hp1 : zf_shelf c1 r1) (hp2 : zf_walk w2 y2 r2) {Q : zf_Me → Prop} : ∀ (n : Nat) (v3 : Int32) (m : zf_Me), wq_26_32 c1 r1 w2 y2 r2 Q n v3 m → zf_W none 0 0 d zt_26 32 [some (.inr (.inr (1, 35))), some (.inr (.inr (1, c1))), none, some (.inl v3), none] [] m (zf_O Q) := by
  obtain ⟨e, rfl⟩ : ∃ z, d = z + 1 := ⟨d - 1, by omega⟩
  intro n
  induction n with
  | zero =>
    intro v3 m h
    exact h.elim
  | succ n ih =>
    intro v3 m h
    unfold wq_26_32 at h
    refine zf_ld (pc' := 33) (v := .inl v3) dX4_read_32 rfl (fun _ _ _ => rfl) rfl rfl rfl ?_
    refine zf_ld (pc' := 34) (v := .inr (.inr (1, 35))) dX4_read_33 rfl (fun _ _ _ => rfl) rfl rfl rfl ?_
    refine zf_gfi (pc' := 37) dX4_read_34 rfl rfl (by decide) rfl rfl ?_
    refine zf_icmp_ge (tgt := 57) (pc' := 40) dX4_read_37 rfl rfl (fun g => ?_) (fun g => ?_)
    · replace h := h.1 g
      refine zf_ld (pc' := 58) (v := .inr (.inr (1, 35))) dX4_read_57 rfl (fun _ _ _ => rfl) rfl rfl rfl ?_
      refine zf_ic (v := 0) (pc' := 59) dX4_read_58 rfl rfl ?_
      refine zf_pf (pc' := 62) dX4_read_59 rfl rfl (by decide) rfl rfl rfl (fun m7 e8 => ?_)
      replace h := h m7 e8
      refine zf_ld (pc' := 63) (v := .inr (.inr (1, 35))) dX4_read_62 rfl (fun _ _ _ => rfl) rfl rfl rfl ?_
      refine zf_ic (v := 0) (pc' := 64) dX4_read_63 rfl rfl ?_
      refine zf_pf (pc' := 67) dX4_read_64 rfl rfl (by decide) rfl rfl rfl (fun m9 e10 => ?_)
      replace h := h m9 e10
      refine zf_ld (pc' := 68) (v := .inr (.inr (1, 35))) dX4_read_67 rfl (fun _ _ _ => rfl) rfl rfl rfl ?_
      refine zf_ic (v := (-1)) (pc' := 69) dX4_read_68 rfl rfl ?_
      refine zf_pf (pc' := 72) dX4_read_69 rfl rfl (by decide) rfl rfl rfl (fun m11 e12 => ?_)
      replace h := h m11 e12
      refine zf_ic (v := 1) (pc' := 73) dX4_read_72 rfl rfl ?_
      refine zf_st (pc' := 74) (L2 := [some (.inr (.inr (1, 35))), some (.inr (.inr (1, c1))), none, some (.inl 1), none]) dX4_read_73 rfl (fun _ _ _ => rfl) rfl rfl rfl rfl rfl rfl ?_
      refine zf_ic (v := 0) (pc' := 75) dX4_read_74 rfl rfl ?_
      refine zf_st (pc' := 77) (L2 := [some (.inr (.inr (1, 35))), some (.inr (.inr (1, c1))), none, some (.inl 1), some (.inl 0)]) dX4_read_75 rfl (fun _ _ _ => rfl) rfl rfl rfl rfl rfl rfl ?_
      obtain ⟨n77, h⟩ := h
      exact zf_lo (zq_26_77 (by omega) hp1 hp2 n77 _ _ _ h) ⟨rfl, rfl, rfl, trivial⟩
    · replace h := h.2 g
      refine zf_ld (pc' := 41) (v := .inr (.inr (1, 35))) dX4_read_40 rfl (fun _ _ _ => rfl) rfl rfl rfl ?_
      refine zf_gfr (pc' := 44) (b := 43) dX4_read_41 rfl rfl (by decide) rfl rfl ?_
      refine zf_ld (pc' := 45) (v := .inl v3) dX4_read_44 rfl (fun _ _ _ => rfl) rfl rfl rfl ?_
      refine zf_ld (pc' := 46) (v := .inr (.inr (1, c1))) dX4_read_45 rfl (fun _ _ _ => rfl) rfl rfl rfl ?_
      refine zf_ld (pc' := 47) (v := .inl v3) dX4_read_46 rfl (fun _ _ _ => rfl) rfl rfl rfl ?_
      refine zf_iv (k := 24) (pc' := 50) (r := [.inl v3, .inr (.inr (1, 43))]) dX4_read_47 rfl rfl rfl rfl hp1.1 hp1.2.1 rfl rfl (zr_24 (by omega) hp1 h) (zf_kI (fun x19 m20 h => ?_))
      refine zf_ias (pc' := 51) dX4_read_50 rfl (⟨by decide, rfl⟩ : zf_arr 43 160).1 (⟨by decide, rfl⟩ : zf_arr 43 160).2 h.1 rfl (fun m21 e22 => ?_)
      replace h := h.2 m21 e22
      refine zf_ii (y := (v3 + 1)) (L2 := [some (.inr (.inr (1, 35))), some (.inr (.inr (1, c1))), none, some (.inl (v3 + 1)), none]) (pc' := 54) dX4_read_51 rfl rfl rfl rfl rfl ?_
      refine zf_goto (tgt := 32) dX4_read_54 rfl ?_
      exact zf_lo (ih _ _ h) ⟨rfl, rfl, rfl, trivial⟩
def wp_26 (c1 : Nat) (r1 : Nat) (w2 : Nat) (y2 : Nat) (r2 : Nat) (m : zf_Me) (Q : zf_Me → Prop) : Prop := wp_63 37 y2 m (fun m2 => wp_43 36 37 42 w2 y2 r2 m2 (fun m4 => (∀ m5, m5 = zf_u m4 35 2 (m4.1 c1 2) → (∃ n32, wq_26_32 c1 r1 w2 y2 r2 Q n32 0 m5))))
theorem zr_26 {d : Nat} (hd : 9 ≤ d) {c1 : Nat} {r1 : Nat} {w2 : Nat} {y2 : Nat} {r2 : Nat} (hp1 : zf_shelf c1 r1) (hp2 : zf_walk w2 y2 r2) {Q : zf_Me → Prop} {m : zf_Me} (h : wp_26 c1 r1 w2 y2 r2 m Q) : zf_M d 26 [.inr (.inr (1, 35)), .inr (.inr (1, c1)), .inr (.inr (1, w2))] m (zf_O Q) := by
  obtain ⟨e, rfl⟩ : ∃ z, d = z + 1 := ⟨d - 1, by omega⟩
  unfold wp_26 at h
  refine zf_M_of (Nat.le_of_ble_eq_true rfl) zm_26 (L := [some (.inr (.inr (1, 35))), some (.inr (.inr (1, c1))), some (.inr (.inr (1, w2))), none, none]) rfl ?_
  refine zf_ld (pc' := 1) (v := .inr (.inr (1, 35))) dX4_read_0 rfl (fun _ _ _ => rfl) rfl rfl rfl ?_
  refine zf_gfr (pc' := 4) (b := 36) dX4_read_1 rfl rfl (by decide) rfl rfl ?_
  refine zf_gfr (pc' := 7) (b := 37) dX4_read_4 rfl rfl zf_walk36.1 zf_walk36.2.1 rfl ?_
  refine zf_ld (pc' := 8) (v := .inr (.inr (1, w2))) dX4_read_7 rfl (fun _ _ _ => rfl) rfl rfl rfl ?_
  refine zf_gfr (pc' := 11) (b := y2) dX4_read_8 rfl rfl hp2.1 hp2.2.1 rfl ?_
  refine zf_iv (k := 63) (pc' := 14) (r := []) dX4_read_11 rfl rfl rfl rfl zf_walk36.2.2.1.1 zf_walk36.2.2.1.2.1 rfl rfl (zr_63 (by omega) zf_walk36.2.2.1 hp2.2.2.1 h) (zf_kO (fun m2 h => ?_))
  refine zf_ld (pc' := 15) (v := .inr (.inr (1, 35))) dX4_read_14 rfl (fun _ _ _ => rfl) rfl rfl rfl ?_
  refine zf_gfr (pc' := 18) (b := 36) dX4_read_15 rfl rfl (by decide) rfl rfl ?_
  refine zf_ld (pc' := 19) (v := .inr (.inr (1, w2))) dX4_read_18 rfl (fun _ _ _ => rfl) rfl rfl rfl ?_
  refine zf_iv (k := 43) (pc' := 22) (r := []) dX4_read_19 rfl rfl rfl rfl zf_walk36.1 zf_walk36.2.1 rfl rfl (zr_43 (by omega) zf_walk36 hp2 h) (zf_kO (fun m4 h => ?_))
  refine zf_ld (pc' := 23) (v := .inr (.inr (1, 35))) dX4_read_22 rfl (fun _ _ _ => rfl) rfl rfl rfl ?_
  refine zf_ld (pc' := 24) (v := .inr (.inr (1, c1))) dX4_read_23 rfl (fun _ _ _ => rfl) rfl rfl rfl ?_
  refine zf_gfi (pc' := 27) dX4_read_24 rfl rfl hp1.1 hp1.2.1 rfl ?_
  refine zf_pf (pc' := 30) dX4_read_27 rfl rfl (by decide) rfl rfl rfl (fun m5 e6 => ?_)
  replace h := h m5 e6
  refine zf_ic (v := 0) (pc' := 31) dX4_read_30 rfl rfl ?_
  refine zf_st (pc' := 32) (L2 := [some (.inr (.inr (1, 35))), some (.inr (.inr (1, c1))), some (.inr (.inr (1, w2))), some (.inl 0), none]) dX4_read_31 rfl (fun _ _ _ => rfl) rfl rfl rfl rfl rfl rfl ?_
  obtain ⟨n32, h⟩ := h
  exact zf_lo (zq_26_32 (by omega) hp1 hp2 n32 _ _ h) ⟨rfl, rfl, rfl, trivial⟩
def zt_45 : zx_MT := (5, yX5_asked, cX5_asked, 2, (some FieldType.int), 1, 0)
theorem zm_45 : zx_m 45 = zt_45 := rfl
theorem dX5_asked_0 : decode cX5_asked 0 = .ok (.iload_n 1, 1) := zdc_ok (by decide +kernel)
theorem dX5_asked_1 : decode cX5_asked 1 = .ok (.tableswitch 51 0 3 #[31, 36, 41, 46], 31) := by decide +kernel
theorem dX5_asked_r32 : zdcP cX5_asked 32 [(.aload_n 0, 1), (.getfield 19, 3), (.ireturn, 1), (.aload_n 0, 1), (.getfield 25, 3), (.ireturn, 1), (.aload_n 0, 1), (.getfield 37, 3), (.ireturn, 1), (.aload_n 0, 1), (.getfield 31, 3), (.ireturn, 1), (.aload_n 0, 1), (.getfield 34, 3), (.ireturn, 1)] := zdcA_ok (by decide +kernel)
theorem dX5_asked_32 : decode cX5_asked 32 = .ok (.aload_n 0, 1) := dX5_asked_r32.1
theorem dX5_asked_33 : decode cX5_asked 33 = .ok (.getfield 19, 3) := dX5_asked_r32.2.1
theorem dX5_asked_36 : decode cX5_asked 36 = .ok (.ireturn, 1) := dX5_asked_r32.2.2.1
theorem dX5_asked_37 : decode cX5_asked 37 = .ok (.aload_n 0, 1) := dX5_asked_r32.2.2.2.1
theorem dX5_asked_38 : decode cX5_asked 38 = .ok (.getfield 25, 3) := dX5_asked_r32.2.2.2.2.1
theorem dX5_asked_41 : decode cX5_asked 41 = .ok (.ireturn, 1) := dX5_asked_r32.2.2.2.2.2.1
theorem dX5_asked_42 : decode cX5_asked 42 = .ok (.aload_n 0, 1) := dX5_asked_r32.2.2.2.2.2.2.1
theorem dX5_asked_43 : decode cX5_asked 43 = .ok (.getfield 37, 3) := dX5_asked_r32.2.2.2.2.2.2.2.1
theorem dX5_asked_46 : decode cX5_asked 46 = .ok (.ireturn, 1) := dX5_asked_r32.2.2.2.2.2.2.2.2.1
theorem dX5_asked_47 : decode cX5_asked 47 = .ok (.aload_n 0, 1) := dX5_asked_r32.2.2.2.2.2.2.2.2.2.1
theorem dX5_asked_48 : decode cX5_asked 48 = .ok (.getfield 31, 3) := dX5_asked_r32.2.2.2.2.2.2.2.2.2.2.1
theorem dX5_asked_51 : decode cX5_asked 51 = .ok (.ireturn, 1) := dX5_asked_r32.2.2.2.2.2.2.2.2.2.2.2.1
theorem dX5_asked_52 : decode cX5_asked 52 = .ok (.aload_n 0, 1) := dX5_asked_r32.2.2.2.2.2.2.2.2.2.2.2.2.1
theorem dX5_asked_53 : decode cX5_asked 53 = .ok (.getfield 34, 3) := dX5_asked_r32.2.2.2.2.2.2.2.2.2.2.2.2.2.1
theorem dX5_asked_56 : decode cX5_asked 56 = .ok (.ireturn, 1) := dX5_asked_r32.2.2.2.2.2.2.2.2.2.2.2.2.2.2.1
def wp_45 (w0 : Nat) (y0 : Nat) (r0 : Nat) (v1 : Int32) (m : zf_Me) (Q : Int32 → zf_Me → Prop) : Prop := (((v1.toInt < 0 ∨ v1.toInt > 3) → Q (m.1 w0 8) m) ∧ (v1.toInt = 0 → Q (m.1 w0 3) m) ∧ (v1.toInt = 1 → Q (m.1 w0 5) m) ∧ (v1.toInt = 2 → Q (m.1 w0 9) m) ∧ (v1.toInt = 3 → Q (m.1 w0 7) m))
theorem zr_45 {d : Nat} (hd : 0 ≤ d) {w0 : Nat} {y0 : Nat} {r0 : Nat} (hp0 : zf_walk w0 y0 r0) {v1 : Int32} {Q : Int32 → zf_Me → Prop} {m : zf_Me} (h : wp_45 w0 y0 r0 v1 m Q) : zf_M d 45 [.inr (.inr (1, w0)), .inl v1] m (zf_I Q) := by
  unfold wp_45 at h
  refine zf_M_of (Nat.le_of_ble_eq_true rfl) zm_45 (L := [some (.inr (.inr (1, w0))), some (.inl v1)]) rfl ?_
  refine zf_ld (pc' := 1) (v := .inl v1) dX5_asked_0 rfl (fun _ _ _ => rfl) rfl rfl rfl ?_
  refine zf_tsc (tgd := 52) dX5_asked_1 rfl [32, 37, 42, 47] (by decide) (by decide) (fun g => ?_) (zl_cons (fun g => ?_) (zl_cons (fun g => ?_) (zl_cons (fun g => ?_) (zl_cons (fun g => ?_) (zl_nil)))))
  · replace h := h.1 (by omega)
    refine zf_ld (pc' := 53) (v := .inr (.inr (1, w0))) dX5_asked_52 rfl (fun _ _ _ => rfl) rfl rfl rfl ?_
    refine zf_gfi (pc' := 56) dX5_asked_53 rfl rfl hp0.1 hp0.2.1 rfl ?_
    exact zf_ri dX5_asked_56 rfl h
  · replace h := h.2.1 (by omega)
    refine zf_ld (pc' := 33) (v := .inr (.inr (1, w0))) dX5_asked_32 rfl (fun _ _ _ => rfl) rfl rfl rfl ?_
    refine zf_gfi (pc' := 36) dX5_asked_33 rfl rfl hp0.1 hp0.2.1 rfl ?_
    exact zf_ri dX5_asked_36 rfl h
  · replace h := h.2.2.1 (by omega)
    refine zf_ld (pc' := 38) (v := .inr (.inr (1, w0))) dX5_asked_37 rfl (fun _ _ _ => rfl) rfl rfl rfl ?_
    refine zf_gfi (pc' := 41) dX5_asked_38 rfl rfl hp0.1 hp0.2.1 rfl ?_
    exact zf_ri dX5_asked_41 rfl h
  · replace h := h.2.2.2.1 (by omega)
    refine zf_ld (pc' := 43) (v := .inr (.inr (1, w0))) dX5_asked_42 rfl (fun _ _ _ => rfl) rfl rfl rfl ?_
    refine zf_gfi (pc' := 46) dX5_asked_43 rfl rfl hp0.1 hp0.2.1 rfl ?_
    exact zf_ri dX5_asked_46 rfl h
  · replace h := h.2.2.2.2 (by omega)
    refine zf_ld (pc' := 48) (v := .inr (.inr (1, w0))) dX5_asked_47 rfl (fun _ _ _ => rfl) rfl rfl rfl ?_
    refine zf_gfi (pc' := 51) dX5_asked_48 rfl rfl hp0.1 hp0.2.1 rfl ?_
    exact zf_ri dX5_asked_51 rfl h
def zt_50 : zx_MT := (5, yX5_minutesThereAndBack, cX5_minutesThereAndBack, 1, (some FieldType.int), 0, 0)
theorem zm_50 : zx_m 50 = zt_50 := rfl
theorem dX5_minutesThereAndBack_r0 : zdcP cX5_minutesThereAndBack 0 [(.aload_n 0, 1), (.getfield 43, 3), (.bipush 9, 2), (.aload_n 0, 1), (.getfield 40, 3), (.imul, 1), (.iadd, 1), (.ireturn, 1)] := zdcA_ok (by decide +kernel)
theorem dX5_minutesThereAndBack_0 : decode cX5_minutesThereAndBack 0 = .ok (.aload_n 0, 1) := dX5_minutesThereAndBack_r0.1
theorem dX5_minutesThereAndBack_1 : decode cX5_minutesThereAndBack 1 = .ok (.getfield 43, 3) := dX5_minutesThereAndBack_r0.2.1
theorem dX5_minutesThereAndBack_4 : decode cX5_minutesThereAndBack 4 = .ok (.bipush 9, 2) := dX5_minutesThereAndBack_r0.2.2.1
theorem dX5_minutesThereAndBack_6 : decode cX5_minutesThereAndBack 6 = .ok (.aload_n 0, 1) := dX5_minutesThereAndBack_r0.2.2.2.1
theorem dX5_minutesThereAndBack_7 : decode cX5_minutesThereAndBack 7 = .ok (.getfield 40, 3) := dX5_minutesThereAndBack_r0.2.2.2.2.1
theorem dX5_minutesThereAndBack_10 : decode cX5_minutesThereAndBack 10 = .ok (.imul, 1) := dX5_minutesThereAndBack_r0.2.2.2.2.2.1
theorem dX5_minutesThereAndBack_11 : decode cX5_minutesThereAndBack 11 = .ok (.iadd, 1) := dX5_minutesThereAndBack_r0.2.2.2.2.2.2.1
theorem dX5_minutesThereAndBack_12 : decode cX5_minutesThereAndBack 12 = .ok (.ireturn, 1) := dX5_minutesThereAndBack_r0.2.2.2.2.2.2.2.1
def wp_50 (w0 : Nat) (y0 : Nat) (r0 : Nat) (m : zf_Me) (Q : Int32 → zf_Me → Prop) : Prop := Q ((m.1 w0 11) + (9 * (m.1 w0 10))) m
theorem zr_50 {d : Nat} (hd : 0 ≤ d) {w0 : Nat} {y0 : Nat} {r0 : Nat} (hp0 : zf_walk w0 y0 r0) {Q : Int32 → zf_Me → Prop} {m : zf_Me} (h : wp_50 w0 y0 r0 m Q) : zf_M d 50 [.inr (.inr (1, w0))] m (zf_I Q) := by
  unfold wp_50 at h
  refine zf_M_of (Nat.le_of_ble_eq_true rfl) zm_50 (L := [some (.inr (.inr (1, w0)))]) rfl ?_
  refine zf_ld (pc' := 1) (v := .inr (.inr (1, w0))) dX5_minutesThereAndBack_0 rfl (fun _ _ _ => rfl) rfl rfl rfl ?_
  refine zf_gfi (pc' := 4) dX5_minutesThereAndBack_1 rfl rfl hp0.1 hp0.2.1 rfl ?_
  refine zf_bi (v := 9) (pc' := 6) dX5_minutesThereAndBack_4 rfl rfl ?_
  refine zf_ld (pc' := 7) (v := .inr (.inr (1, w0))) dX5_minutesThereAndBack_6 rfl (fun _ _ _ => rfl) rfl rfl rfl ?_
  refine zf_gfi (pc' := 10) dX5_minutesThereAndBack_7 rfl rfl hp0.1 hp0.2.1 rfl ?_
  refine zf_in (pc' := 11) (S' := [.inl (9 * (m.1 w0 10)), .inl (m.1 w0 11)]) dX5_minutesThereAndBack_10 rfl (fun _ _ _ => rfl) ?_
  refine zf_in (pc' := 12) (S' := [.inl ((m.1 w0 11) + (9 * (m.1 w0 10)))]) dX5_minutesThereAndBack_11 rfl (fun _ _ _ => rfl) ?_
  exact zf_ri dX5_minutesThereAndBack_12 rfl h
def zt_61 : zx_MT := (5, yX5_draw, cX5_draw, 2, (some FieldType.int), 1, 0)
theorem zm_61 : zx_m 61 = zt_61 := rfl
theorem dX5_draw_r0 : zdcP cX5_draw 0 [(.aload_n 0, 1), (.aload_n 0, 1), (.getfield 46, 3), (.ldc 131, 2), (.imul, 1), (.sipush 12345, 3), (.iadd, 1), (.putfield 46, 3), (.iload_n 1, 1), (.ifCond .le 15, 3), (.aload_n 0, 1), (.getfield 46, 3), (.bipush 16, 2), (.iushr, 1), (.iload_n 1, 1), (.irem, 1)] := zdcA_ok (by decide +kernel)
theorem dX5_draw_0 : decode cX5_draw 0 = .ok (.aload_n 0, 1) := dX5_draw_r0.1
theorem dX5_draw_1 : decode cX5_draw 1 = .ok (.aload_n 0, 1) := dX5_draw_r0.2.1
theorem dX5_draw_2 : decode cX5_draw 2 = .ok (.getfield 46, 3) := dX5_draw_r0.2.2.1
theorem dX5_draw_5 : decode cX5_draw 5 = .ok (.ldc 131, 2) := dX5_draw_r0.2.2.2.1
theorem dX5_draw_7 : decode cX5_draw 7 = .ok (.imul, 1) := dX5_draw_r0.2.2.2.2.1
theorem dX5_draw_8 : decode cX5_draw 8 = .ok (.sipush 12345, 3) := dX5_draw_r0.2.2.2.2.2.1
theorem dX5_draw_11 : decode cX5_draw 11 = .ok (.iadd, 1) := dX5_draw_r0.2.2.2.2.2.2.1
theorem dX5_draw_12 : decode cX5_draw 12 = .ok (.putfield 46, 3) := dX5_draw_r0.2.2.2.2.2.2.2.1
theorem dX5_draw_15 : decode cX5_draw 15 = .ok (.iload_n 1, 1) := dX5_draw_r0.2.2.2.2.2.2.2.2.1
theorem dX5_draw_16 : decode cX5_draw 16 = .ok (.ifCond .le 15, 3) := dX5_draw_r0.2.2.2.2.2.2.2.2.2.1
theorem dX5_draw_19 : decode cX5_draw 19 = .ok (.aload_n 0, 1) := dX5_draw_r0.2.2.2.2.2.2.2.2.2.2.1
theorem dX5_draw_20 : decode cX5_draw 20 = .ok (.getfield 46, 3) := dX5_draw_r0.2.2.2.2.2.2.2.2.2.2.2.1
theorem dX5_draw_23 : decode cX5_draw 23 = .ok (.bipush 16, 2) := dX5_draw_r0.2.2.2.2.2.2.2.2.2.2.2.2.1
theorem dX5_draw_25 : decode cX5_draw 25 = .ok (.iushr, 1) := dX5_draw_r0.2.2.2.2.2.2.2.2.2.2.2.2.2.1
theorem dX5_draw_26 : decode cX5_draw 26 = .ok (.iload_n 1, 1) := dX5_draw_r0.2.2.2.2.2.2.2.2.2.2.2.2.2.2.1
theorem dX5_draw_27 : decode cX5_draw 27 = .ok (.irem, 1) := dX5_draw_r0.2.2.2.2.2.2.2.2.2.2.2.2.2.2.2.1
theorem dX5_draw_r28 : zdcP cX5_draw 28 [(.goto 4, 3), (.iconst 0, 1), (.ireturn, 1)] := zdcA_ok (by decide +kernel)
theorem dX5_draw_28 : decode cX5_draw 28 = .ok (.goto 4, 3) := dX5_draw_r28.1
theorem dX5_draw_31 : decode cX5_draw 31 = .ok (.iconst 0, 1) := dX5_draw_r28.2.1
theorem dX5_draw_32 : decode cX5_draw 32 = .ok (.ireturn, 1) := dX5_draw_r28.2.2.1
def wp_61 (w0 : Nat) (y0 : Nat) (r0 : Nat) (v1 : Int32) (m : zf_Me) (Q : Int32 → zf_Me → Prop) : Prop := (∀ m1, m1 = zf_u m w0 12 (((m.1 w0 12) * 1103515245) + 12345) → ((v1.toInt ≤ 0 → Q 0 m1) ∧ (v1.toInt > 0 → (¬ (Int32.toInt v1) = 0 ∧ Q ((((Int32.toUInt32 (m1.1 w0 12)) >>> ((Int32.toUInt32 16) &&& Int32.toUInt32 31)).toInt32) - (((Int32.toUInt32 (m1.1 w0 12)) >>> ((Int32.toUInt32 16) &&& Int32.toUInt32 31)).toInt32) / v1 * v1) m1))))
theorem zr_61 {d : Nat} (hd : 0 ≤ d) {w0 : Nat} {y0 : Nat} {r0 : Nat} (hp0 : zf_walk w0 y0 r0) {v1 : Int32} {Q : Int32 → zf_Me → Prop} {m : zf_Me} (h : wp_61 w0 y0 r0 v1 m Q) : zf_M d 61 [.inr (.inr (1, w0)), .inl v1] m (zf_I Q) := by
  unfold wp_61 at h
  refine zf_M_of (Nat.le_of_ble_eq_true rfl) zm_61 (L := [some (.inr (.inr (1, w0))), some (.inl v1)]) rfl ?_
  refine zf_ld (pc' := 1) (v := .inr (.inr (1, w0))) dX5_draw_0 rfl (fun _ _ _ => rfl) rfl rfl rfl ?_
  refine zf_ld (pc' := 2) (v := .inr (.inr (1, w0))) dX5_draw_1 rfl (fun _ _ _ => rfl) rfl rfl rfl ?_
  refine zf_gfi (pc' := 5) dX5_draw_2 rfl rfl hp0.1 hp0.2.1 rfl ?_
  refine zf_ldc (ix := 131) (v := 1103515245) (pc' := 7) dX5_draw_5 rfl (fun _ _ _ => rfl) rfl rfl ?_
  refine zf_in (pc' := 8) (S' := [.inl ((m.1 w0 12) * 1103515245), .inr (.inr (1, w0))]) dX5_draw_7 rfl (fun _ _ _ => rfl) ?_
  refine zf_si (v := 12345) (pc' := 11) dX5_draw_8 rfl rfl ?_
  refine zf_in (pc' := 12) (S' := [.inl (((m.1 w0 12) * 1103515245) + 12345), .inr (.inr (1, w0))]) dX5_draw_11 rfl (fun _ _ _ => rfl) ?_
  refine zf_pf (pc' := 15) dX5_draw_12 rfl rfl hp0.1 hp0.2.1 rfl rfl (fun m1 e2 => ?_)
  replace h := h m1 e2
  refine zf_ld (pc' := 16) (v := .inl v1) dX5_draw_15 rfl (fun _ _ _ => rfl) rfl rfl rfl ?_
  refine zf_if_le (tgt := 31) (pc' := 19) dX5_draw_16 rfl rfl (fun g => ?_) (fun g => ?_)
  · replace h := h.1 g
    refine zf_ic (v := 0) (pc' := 32) dX5_draw_31 rfl rfl ?_
    exact zf_ri dX5_draw_32 rfl h
  · replace h := h.2 g
    refine zf_ld (pc' := 20) (v := .inr (.inr (1, w0))) dX5_draw_19 rfl (fun _ _ _ => rfl) rfl rfl rfl ?_
    refine zf_gfi (pc' := 23) dX5_draw_20 rfl rfl hp0.1 hp0.2.1 rfl ?_
    refine zf_bi (v := 16) (pc' := 25) dX5_draw_23 rfl rfl ?_
    refine zf_in (pc' := 26) (S' := [.inl (((Int32.toUInt32 (m1.1 w0 12)) >>> ((Int32.toUInt32 16) &&& Int32.toUInt32 31)).toInt32)]) dX5_draw_25 rfl (fun _ _ _ => rfl) ?_
    refine zf_ld (pc' := 27) (v := .inl v1) dX5_draw_26 rfl (fun _ _ _ => rfl) rfl rfl rfl ?_
    refine zf_rem (pc' := 28) dX5_draw_27 rfl (fun z => h.1 (congrArg Int32.toInt z)) ?_
    replace h := h.2
    refine zf_goto (tgt := 32) dX5_draw_28 rfl ?_
    exact zf_ri dX5_draw_32 rfl h
def zt_64 : zx_MT := (6, yX6_hasFurlong, cX6_hasFurlong, 2, (some FieldType.boolean), 1, 0)
theorem zm_64 : zx_m 64 = zt_64 := rfl
theorem dX6_hasFurlong_r0 : zdcP cX6_hasFurlong 0 [(.iload_n 1, 1), (.ifCond .lt 15, 3), (.iload_n 1, 1), (.aload_n 0, 1), (.getfield 24, 3), (.if_icmp .ge 7, 3), (.iconst 1, 1), (.goto 4, 3), (.iconst 0, 1), (.ireturn, 1)] := zdcA_ok (by decide +kernel)
theorem dX6_hasFurlong_0 : decode cX6_hasFurlong 0 = .ok (.iload_n 1, 1) := dX6_hasFurlong_r0.1
theorem dX6_hasFurlong_1 : decode cX6_hasFurlong 1 = .ok (.ifCond .lt 15, 3) := dX6_hasFurlong_r0.2.1
theorem dX6_hasFurlong_4 : decode cX6_hasFurlong 4 = .ok (.iload_n 1, 1) := dX6_hasFurlong_r0.2.2.1
theorem dX6_hasFurlong_5 : decode cX6_hasFurlong 5 = .ok (.aload_n 0, 1) := dX6_hasFurlong_r0.2.2.2.1
theorem dX6_hasFurlong_6 : decode cX6_hasFurlong 6 = .ok (.getfield 24, 3) := dX6_hasFurlong_r0.2.2.2.2.1
theorem dX6_hasFurlong_9 : decode cX6_hasFurlong 9 = .ok (.if_icmp .ge 7, 3) := dX6_hasFurlong_r0.2.2.2.2.2.1
theorem dX6_hasFurlong_12 : decode cX6_hasFurlong 12 = .ok (.iconst 1, 1) := dX6_hasFurlong_r0.2.2.2.2.2.2.1
theorem dX6_hasFurlong_13 : decode cX6_hasFurlong 13 = .ok (.goto 4, 3) := dX6_hasFurlong_r0.2.2.2.2.2.2.2.1
theorem dX6_hasFurlong_16 : decode cX6_hasFurlong 16 = .ok (.iconst 0, 1) := dX6_hasFurlong_r0.2.2.2.2.2.2.2.2.1
theorem dX6_hasFurlong_17 : decode cX6_hasFurlong 17 = .ok (.ireturn, 1) := dX6_hasFurlong_r0.2.2.2.2.2.2.2.2.2.1
def wp_64 (y0 : Nat) (v1 : Int32) (m : zf_Me) (Q : Bool → zf_Me → Prop) : Prop := ((v1.toInt < 0 → Q false m) ∧ (v1.toInt ≥ 0 → ((v1.toInt ≥ ((m.1 y0 4)).toInt → Q false m) ∧ (v1.toInt < ((m.1 y0 4)).toInt → Q true m))))
theorem zr_64 {d : Nat} (hd : 0 ≤ d) {y0 : Nat} (hp0 : zf_way y0) {v1 : Int32} {Q : Bool → zf_Me → Prop} {m : zf_Me} (h : wp_64 y0 v1 m Q) : zf_M d 64 [.inr (.inr (1, y0)), .inl v1] m (zf_B Q) := by
  unfold wp_64 at h
  refine zf_M_of (Nat.le_of_ble_eq_true rfl) zm_64 (L := [some (.inr (.inr (1, y0))), some (.inl v1)]) rfl ?_
  refine zf_ld (pc' := 1) (v := .inl v1) dX6_hasFurlong_0 rfl (fun _ _ _ => rfl) rfl rfl rfl ?_
  refine zf_if_lt (tgt := 16) (pc' := 4) dX6_hasFurlong_1 rfl rfl (fun g => ?_) (fun g => ?_)
  · replace h := h.1 g
    refine zf_ic (v := 0) (pc' := 17) dX6_hasFurlong_16 rfl rfl ?_
    exact zf_rb (b := false) dX6_hasFurlong_17 rfl h
  · replace h := h.2 g
    refine zf_ld (pc' := 5) (v := .inl v1) dX6_hasFurlong_4 rfl (fun _ _ _ => rfl) rfl rfl rfl ?_
    refine zf_ld (pc' := 6) (v := .inr (.inr (1, y0))) dX6_hasFurlong_5 rfl (fun _ _ _ => rfl) rfl rfl rfl ?_
    refine zf_gfi (pc' := 9) dX6_hasFurlong_6 rfl rfl hp0.1 hp0.2.1 rfl ?_
    refine zf_icmp_ge (tgt := 16) (pc' := 12) dX6_hasFurlong_9 rfl rfl (fun g => ?_) (fun g => ?_)
    · replace h := h.1 g
      refine zf_ic (v := 0) (pc' := 17) dX6_hasFurlong_16 rfl rfl ?_
      exact zf_rb (b := false) dX6_hasFurlong_17 rfl h
    · replace h := h.2 g
      refine zf_ic (v := 1) (pc' := 13) dX6_hasFurlong_12 rfl rfl ?_
      refine zf_goto (tgt := 17) dX6_hasFurlong_13 rfl ?_
      exact zf_rb (b := true) dX6_hasFurlong_17 rfl h
def zt_114 : zx_MT := (7, yX7_isShelf, cX7_isShelf, 1, (some FieldType.boolean), 1, 1)
theorem zm_114 : zx_m 114 = zt_114 := rfl
theorem dX7_isShelf_r0 : zdcP cX7_isShelf 0 [(.iload_n 0, 1), (.ifCond .lt 13, 3), (.iload_n 0, 1), (.bipush 8, 2), (.if_icmp .ge 7, 3), (.iconst 1, 1), (.goto 4, 3), (.iconst 0, 1), (.ireturn, 1)] := zdcA_ok (by decide +kernel)
theorem dX7_isShelf_0 : decode cX7_isShelf 0 = .ok (.iload_n 0, 1) := dX7_isShelf_r0.1
theorem dX7_isShelf_1 : decode cX7_isShelf 1 = .ok (.ifCond .lt 13, 3) := dX7_isShelf_r0.2.1
theorem dX7_isShelf_4 : decode cX7_isShelf 4 = .ok (.iload_n 0, 1) := dX7_isShelf_r0.2.2.1
theorem dX7_isShelf_5 : decode cX7_isShelf 5 = .ok (.bipush 8, 2) := dX7_isShelf_r0.2.2.2.1
theorem dX7_isShelf_7 : decode cX7_isShelf 7 = .ok (.if_icmp .ge 7, 3) := dX7_isShelf_r0.2.2.2.2.1
theorem dX7_isShelf_10 : decode cX7_isShelf 10 = .ok (.iconst 1, 1) := dX7_isShelf_r0.2.2.2.2.2.1
theorem dX7_isShelf_11 : decode cX7_isShelf 11 = .ok (.goto 4, 3) := dX7_isShelf_r0.2.2.2.2.2.2.1
theorem dX7_isShelf_14 : decode cX7_isShelf 14 = .ok (.iconst 0, 1) := dX7_isShelf_r0.2.2.2.2.2.2.2.1
theorem dX7_isShelf_15 : decode cX7_isShelf 15 = .ok (.ireturn, 1) := dX7_isShelf_r0.2.2.2.2.2.2.2.2.1
def wp_114 (v0 : Int32) (m : zf_Me) (Q : Bool → zf_Me → Prop) : Prop := ((v0.toInt < 0 → Q false m) ∧ (v0.toInt ≥ 0 → ((v0.toInt ≥ 8 → Q false m) ∧ (v0.toInt < 8 → Q true m))))
theorem zr_114 {d : Nat} (hd : 0 ≤ d) {v0 : Int32} {Q : Bool → zf_Me → Prop} {m : zf_Me} (h : wp_114 v0 m Q) : zf_M d 114 [.inl v0] m (zf_B Q) := by
  unfold wp_114 at h
  refine zf_M_of (Nat.le_of_ble_eq_true rfl) zm_114 (L := [some (.inl v0)]) rfl ?_
  refine zf_ld (pc' := 1) (v := .inl v0) dX7_isShelf_0 rfl (fun _ _ _ => rfl) rfl rfl rfl ?_
  refine zf_if_lt (tgt := 14) (pc' := 4) dX7_isShelf_1 rfl rfl (fun g => ?_) (fun g => ?_)
  · replace h := h.1 g
    refine zf_ic (v := 0) (pc' := 15) dX7_isShelf_14 rfl rfl ?_
    exact zf_rb (b := false) dX7_isShelf_15 rfl h
  · replace h := h.2 g
    refine zf_ld (pc' := 5) (v := .inl v0) dX7_isShelf_4 rfl (fun _ _ _ => rfl) rfl rfl rfl ?_
    refine zf_bi (v := 8) (pc' := 7) dX7_isShelf_5 rfl rfl ?_
    refine zf_icmp_ge (tgt := 14) (pc' := 10) dX7_isShelf_7 rfl rfl (fun g => ?_) (fun g => ?_)
    · replace h := h.1 g
      refine zf_ic (v := 0) (pc' := 15) dX7_isShelf_14 rfl rfl ?_
      exact zf_rb (b := false) dX7_isShelf_15 rfl h
    · replace h := h.2 g
      refine zf_ic (v := 1) (pc' := 11) dX7_isShelf_10 rfl rfl ?_
      refine zf_goto (tgt := 15) dX7_isShelf_11 rfl ?_
      exact zf_rb (b := true) dX7_isShelf_15 rfl h
def zt_109 : zx_MT := (7, yX7_refuse, cX7_refuse, 2, (some FieldType.int), 1, 0)
theorem zm_109 : zx_m 109 = zt_109 := rfl
theorem dX7_refuse_r0 : zdcP cX7_refuse 0 [(.aload_n 0, 1), (.getfield 65, 3), (.iload_n 1, 1), (.dup2, 1), (.iaload, 1), (.iconst 1, 1), (.iadd, 1), (.iastore, 1), (.iload_n 1, 1), (.ineg, 1), (.ireturn, 1)] := zdcA_ok (by decide +kernel)
theorem dX7_refuse_0 : decode cX7_refuse 0 = .ok (.aload_n 0, 1) := dX7_refuse_r0.1
theorem dX7_refuse_1 : decode cX7_refuse 1 = .ok (.getfield 65, 3) := dX7_refuse_r0.2.1
theorem dX7_refuse_4 : decode cX7_refuse 4 = .ok (.iload_n 1, 1) := dX7_refuse_r0.2.2.1
theorem dX7_refuse_5 : decode cX7_refuse 5 = .ok (.dup2, 1) := dX7_refuse_r0.2.2.2.1
theorem dX7_refuse_6 : decode cX7_refuse 6 = .ok (.iaload, 1) := dX7_refuse_r0.2.2.2.2.1
theorem dX7_refuse_7 : decode cX7_refuse 7 = .ok (.iconst 1, 1) := dX7_refuse_r0.2.2.2.2.2.1
theorem dX7_refuse_8 : decode cX7_refuse 8 = .ok (.iadd, 1) := dX7_refuse_r0.2.2.2.2.2.2.1
theorem dX7_refuse_9 : decode cX7_refuse 9 = .ok (.iastore, 1) := dX7_refuse_r0.2.2.2.2.2.2.2.1
theorem dX7_refuse_10 : decode cX7_refuse 10 = .ok (.iload_n 1, 1) := dX7_refuse_r0.2.2.2.2.2.2.2.2.1
theorem dX7_refuse_11 : decode cX7_refuse 11 = .ok (.ineg, 1) := dX7_refuse_r0.2.2.2.2.2.2.2.2.2.1
theorem dX7_refuse_12 : decode cX7_refuse 12 = .ok (.ireturn, 1) := dX7_refuse_r0.2.2.2.2.2.2.2.2.2.2.1
def wp_109 (v1 : Int32) (m : zf_Me) (Q : Int32 → zf_Me → Prop) : Prop := ((0 ≤ (Int32.toInt v1) ∧ (Int32.toInt v1) < (8 : Int)) ∧ ((0 ≤ (Int32.toInt v1) ∧ (Int32.toInt v1) < (8 : Int)) ∧ ∀ m1, m1 = zf_u m 46 (Int32.toInt v1).toNat ((m.1 46 (Int32.toInt v1).toNat) + 1) → Q (-v1) m1))
theorem zr_109 {d : Nat} (hd : 0 ≤ d) {v1 : Int32} {Q : Int32 → zf_Me → Prop} {m : zf_Me} (h : wp_109 v1 m Q) : zf_M d 109 [.inr (.inr (1, 0)), .inl v1] m (zf_I Q) := by
  unfold wp_109 at h
  refine zf_M_of (Nat.le_of_ble_eq_true rfl) zm_109 (L := [some (.inr (.inr (1, 0))), some (.inl v1)]) rfl ?_
  refine zf_ld (pc' := 1) (v := .inr (.inr (1, 0))) dX7_refuse_0 rfl (fun _ _ _ => rfl) rfl rfl rfl ?_
  refine zf_gfr (pc' := 4) (b := 46) dX7_refuse_1 rfl rfl (by decide) rfl rfl ?_
  refine zf_ld (pc' := 5) (v := .inl v1) dX7_refuse_4 rfl (fun _ _ _ => rfl) rfl rfl rfl ?_
  refine zf_in (pc' := 6) (S' := [.inl v1, .inr (.inr (1, 46)), .inl v1, .inr (.inr (1, 46))]) dX7_refuse_5 rfl (fun _ _ _ => rfl) ?_
  refine zf_ial (pc' := 7) dX7_refuse_6 rfl (⟨by decide, rfl⟩ : zf_arr 46 8).1 (⟨by decide, rfl⟩ : zf_arr 46 8).2 h.1 rfl ?_
  replace h := h.2
  refine zf_ic (v := 1) (pc' := 8) dX7_refuse_7 rfl rfl ?_
  refine zf_in (pc' := 9) (S' := [.inl ((m.1 46 (Int32.toInt v1).toNat) + 1), .inl v1, .inr (.inr (1, 46))]) dX7_refuse_8 rfl (fun _ _ _ => rfl) ?_
  refine zf_ias (pc' := 10) dX7_refuse_9 rfl (⟨by decide, rfl⟩ : zf_arr 46 8).1 (⟨by decide, rfl⟩ : zf_arr 46 8).2 h.1 rfl (fun m1 e2 => ?_)
  replace h := h.2 m1 e2
  refine zf_ld (pc' := 11) (v := .inl v1) dX7_refuse_10 rfl (fun _ _ _ => rfl) rfl rfl rfl ?_
  refine zf_in (pc' := 12) (S' := [.inl (-v1)]) dX7_refuse_11 rfl (fun _ _ _ => rfl) ?_
  exact zf_ri dX7_refuse_12 rfl h
def zt_68 : zx_MT := (7, yX7_row, cX7_row, 4, (some FieldType.int), 3, 0)
theorem zm_68 : zx_m 68 = zt_68 := rfl
theorem dX7_row_r0 : zdcP cX7_row 0 [(.iload_n 1, 1), (.invokestatic 78, 3), (.ifCond .ne 9, 3), (.aload_n 0, 1), (.iconst 1, 1), (.invokevirtual 82, 3), (.ireturn, 1), (.iload_n 3, 1), (.ifCond .ge 9, 3), (.aload_n 0, 1), (.iconst 4, 1), (.invokevirtual 82, 3), (.ireturn, 1), (.iload_n 2, 1), (.ifCond .lt 8, 3), (.iload_n 2, 1)] := zdcA_ok (by decide +kernel)
theorem dX7_row_0 : decode cX7_row 0 = .ok (.iload_n 1, 1) := dX7_row_r0.1
theorem dX7_row_1 : decode cX7_row 1 = .ok (.invokestatic 78, 3) := dX7_row_r0.2.1
theorem dX7_row_4 : decode cX7_row 4 = .ok (.ifCond .ne 9, 3) := dX7_row_r0.2.2.1
theorem dX7_row_7 : decode cX7_row 7 = .ok (.aload_n 0, 1) := dX7_row_r0.2.2.2.1
theorem dX7_row_8 : decode cX7_row 8 = .ok (.iconst 1, 1) := dX7_row_r0.2.2.2.2.1
theorem dX7_row_9 : decode cX7_row 9 = .ok (.invokevirtual 82, 3) := dX7_row_r0.2.2.2.2.2.1
theorem dX7_row_12 : decode cX7_row 12 = .ok (.ireturn, 1) := dX7_row_r0.2.2.2.2.2.2.1
theorem dX7_row_13 : decode cX7_row 13 = .ok (.iload_n 3, 1) := dX7_row_r0.2.2.2.2.2.2.2.1
theorem dX7_row_14 : decode cX7_row 14 = .ok (.ifCond .ge 9, 3) := dX7_row_r0.2.2.2.2.2.2.2.2.1
theorem dX7_row_17 : decode cX7_row 17 = .ok (.aload_n 0, 1) := dX7_row_r0.2.2.2.2.2.2.2.2.2.1
theorem dX7_row_18 : decode cX7_row 18 = .ok (.iconst 4, 1) := dX7_row_r0.2.2.2.2.2.2.2.2.2.2.1
theorem dX7_row_19 : decode cX7_row 19 = .ok (.invokevirtual 82, 3) := dX7_row_r0.2.2.2.2.2.2.2.2.2.2.2.1
theorem dX7_row_22 : decode cX7_row 22 = .ok (.ireturn, 1) := dX7_row_r0.2.2.2.2.2.2.2.2.2.2.2.2.1
theorem dX7_row_23 : decode cX7_row 23 = .ok (.iload_n 2, 1) := dX7_row_r0.2.2.2.2.2.2.2.2.2.2.2.2.2.1
theorem dX7_row_24 : decode cX7_row 24 = .ok (.ifCond .lt 8, 3) := dX7_row_r0.2.2.2.2.2.2.2.2.2.2.2.2.2.2.1
theorem dX7_row_27 : decode cX7_row 27 = .ok (.iload_n 2, 1) := dX7_row_r0.2.2.2.2.2.2.2.2.2.2.2.2.2.2.2.1
theorem dX7_row_r28 : zdcP cX7_row 28 [(.iconst 4, 1), (.if_icmp .lt 10, 3), (.aload_n 0, 1), (.bipush 6, 2), (.invokevirtual 82, 3), (.ireturn, 1), (.iload_n 3, 1), (.sipush 160, 3), (.if_icmp .le 10, 3), (.aload_n 0, 1), (.bipush 7, 2), (.invokevirtual 82, 3), (.ireturn, 1), (.aload_n 0, 1), (.getfield 11, 3), (.iload_n 1, 1)] := zdcA_ok (by decide +kernel)
theorem dX7_row_28 : decode cX7_row 28 = .ok (.iconst 4, 1) := dX7_row_r28.1
theorem dX7_row_29 : decode cX7_row 29 = .ok (.if_icmp .lt 10, 3) := dX7_row_r28.2.1
theorem dX7_row_32 : decode cX7_row 32 = .ok (.aload_n 0, 1) := dX7_row_r28.2.2.1
theorem dX7_row_33 : decode cX7_row 33 = .ok (.bipush 6, 2) := dX7_row_r28.2.2.2.1
theorem dX7_row_35 : decode cX7_row 35 = .ok (.invokevirtual 82, 3) := dX7_row_r28.2.2.2.2.1
theorem dX7_row_38 : decode cX7_row 38 = .ok (.ireturn, 1) := dX7_row_r28.2.2.2.2.2.1
theorem dX7_row_39 : decode cX7_row 39 = .ok (.iload_n 3, 1) := dX7_row_r28.2.2.2.2.2.2.1
theorem dX7_row_40 : decode cX7_row 40 = .ok (.sipush 160, 3) := dX7_row_r28.2.2.2.2.2.2.2.1
theorem dX7_row_43 : decode cX7_row 43 = .ok (.if_icmp .le 10, 3) := dX7_row_r28.2.2.2.2.2.2.2.2.1
theorem dX7_row_46 : decode cX7_row 46 = .ok (.aload_n 0, 1) := dX7_row_r28.2.2.2.2.2.2.2.2.2.1
theorem dX7_row_47 : decode cX7_row 47 = .ok (.bipush 7, 2) := dX7_row_r28.2.2.2.2.2.2.2.2.2.2.1
theorem dX7_row_49 : decode cX7_row 49 = .ok (.invokevirtual 82, 3) := dX7_row_r28.2.2.2.2.2.2.2.2.2.2.2.1
theorem dX7_row_52 : decode cX7_row 52 = .ok (.ireturn, 1) := dX7_row_r28.2.2.2.2.2.2.2.2.2.2.2.2.1
theorem dX7_row_53 : decode cX7_row 53 = .ok (.aload_n 0, 1) := dX7_row_r28.2.2.2.2.2.2.2.2.2.2.2.2.2.1
theorem dX7_row_54 : decode cX7_row 54 = .ok (.getfield 11, 3) := dX7_row_r28.2.2.2.2.2.2.2.2.2.2.2.2.2.2.1
theorem dX7_row_57 : decode cX7_row 57 = .ok (.iload_n 1, 1) := dX7_row_r28.2.2.2.2.2.2.2.2.2.2.2.2.2.2.2.1
theorem dX7_row_r58 : zdcP cX7_row 58 [(.aaload, 1), (.iload_n 2, 1), (.iload_n 3, 1), (.invokevirtual 86, 3), (.iconst 1, 1), (.ireturn, 1)] := zdcA_ok (by decide +kernel)
theorem dX7_row_58 : decode cX7_row 58 = .ok (.aaload, 1) := dX7_row_r58.1
theorem dX7_row_59 : decode cX7_row 59 = .ok (.iload_n 2, 1) := dX7_row_r58.2.1
theorem dX7_row_60 : decode cX7_row 60 = .ok (.iload_n 3, 1) := dX7_row_r58.2.2.1
theorem dX7_row_61 : decode cX7_row 61 = .ok (.invokevirtual 86, 3) := dX7_row_r58.2.2.2.1
theorem dX7_row_64 : decode cX7_row 64 = .ok (.iconst 1, 1) := dX7_row_r58.2.2.2.2.1
theorem dX7_row_65 : decode cX7_row 65 = .ok (.ireturn, 1) := dX7_row_r58.2.2.2.2.2.1
def wp_68 (v1 : Int32) (v2 : Int32) (v3 : Int32) (m : zf_Me) (Q : Int32 → zf_Me → Prop) : Prop := wp_114 v1 m (fun b1 m2 => ((b1 = true → ((v3.toInt ≥ 0 → ((v2.toInt < 0 → wp_109 6 m2 (fun x3 m4 => Q x3 m4)) ∧ (v2.toInt ≥ 0 → ((v2.toInt < 4 → ((v3.toInt ≤ 160 → ((0 ≤ (Int32.toInt v1) ∧ (Int32.toInt v1) < 8) ∧ wp_22 (47 + 2 * (Int32.toInt v1).toNat) (48 + 2 * (Int32.toInt v1).toNat) v2 v3 m2 (fun m8 => Q 1 m8))) ∧ (v3.toInt > 160 → wp_109 7 m2 (fun x9 m10 => Q x9 m10)))) ∧ (v2.toInt ≥ 4 → wp_109 6 m2 (fun x11 m12 => Q x11 m12)))))) ∧ (v3.toInt < 0 → wp_109 4 m2 (fun x13 m14 => Q x13 m14)))) ∧ (b1 = false → wp_109 1 m2 (fun x15 m16 => Q x15 m16))))
theorem zr_68 {d : Nat} (hd : 1 ≤ d) {v1 : Int32} {v2 : Int32} {v3 : Int32} {Q : Int32 → zf_Me → Prop} {m : zf_Me} (h : wp_68 v1 v2 v3 m Q) : zf_M d 68 [.inr (.inr (1, 0)), .inl v1, .inl v2, .inl v3] m (zf_I Q) := by
  obtain ⟨e, rfl⟩ : ∃ z, d = z + 1 := ⟨d - 1, by omega⟩
  unfold wp_68 at h
  refine zf_M_of (Nat.le_of_ble_eq_true rfl) zm_68 (L := [some (.inr (.inr (1, 0))), some (.inl v1), some (.inl v2), some (.inl v3)]) rfl ?_
  refine zf_ld (pc' := 1) (v := .inl v1) dX7_row_0 rfl (fun _ _ _ => rfl) rfl rfl rfl ?_
  refine zf_is (k := 114) (pc' := 4) (r := []) dX7_row_1 rfl rfl rfl rfl rfl (zr_114 (by omega) h) (zf_kB (fun b1 m2 h => ?_))
  refine zf_ib_ne (tgt := 13) (pc' := 7) dX7_row_4 rfl rfl (fun g => ?_) (fun g => ?_)
  · replace h := h.1 g
    refine zf_ld (pc' := 14) (v := .inl v3) dX7_row_13 rfl (fun _ _ _ => rfl) rfl rfl rfl ?_
    refine zf_if_ge (tgt := 23) (pc' := 17) dX7_row_14 rfl rfl (fun g => ?_) (fun g => ?_)
    · replace h := h.1 g
      refine zf_ld (pc' := 24) (v := .inl v2) dX7_row_23 rfl (fun _ _ _ => rfl) rfl rfl rfl ?_
      refine zf_if_lt (tgt := 32) (pc' := 27) dX7_row_24 rfl rfl (fun g => ?_) (fun g => ?_)
      · replace h := h.1 g
        refine zf_ld (pc' := 33) (v := .inr (.inr (1, 0))) dX7_row_32 rfl (fun _ _ _ => rfl) rfl rfl rfl ?_
        refine zf_bi (v := 6) (pc' := 35) dX7_row_33 rfl rfl ?_
        refine zf_iv (k := 109) (pc' := 38) (r := []) dX7_row_35 rfl rfl rfl rfl (by decide) rfl rfl rfl (zr_109 (by omega) h) (zf_kI (fun x3 m4 h => ?_))
        exact zf_ri dX7_row_38 rfl h
      · replace h := h.2 g
        refine zf_ld (pc' := 28) (v := .inl v2) dX7_row_27 rfl (fun _ _ _ => rfl) rfl rfl rfl ?_
        refine zf_ic (v := 4) (pc' := 29) dX7_row_28 rfl rfl ?_
        refine zf_icmp_lt (tgt := 39) (pc' := 32) dX7_row_29 rfl rfl (fun g => ?_) (fun g => ?_)
        · replace h := h.1 g
          refine zf_ld (pc' := 40) (v := .inl v3) dX7_row_39 rfl (fun _ _ _ => rfl) rfl rfl rfl ?_
          refine zf_si (v := 160) (pc' := 43) dX7_row_40 rfl rfl ?_
          refine zf_icmp_le (tgt := 53) (pc' := 46) dX7_row_43 rfl rfl (fun g => ?_) (fun g => ?_)
          · replace h := h.1 g
            refine zf_ld (pc' := 54) (v := .inr (.inr (1, 0))) dX7_row_53 rfl (fun _ _ _ => rfl) rfl rfl rfl ?_
            refine zf_gfr (pc' := 57) (b := 1) dX7_row_54 rfl rfl (by decide) rfl rfl ?_
            refine zf_ld (pc' := 58) (v := .inl v1) dX7_row_57 rfl (fun _ _ _ => rfl) rfl rfl rfl ?_
            refine zf_aal (b := 47) (n := 8) (pc' := 59) dX7_row_58 rfl (by decide) rfl (by decide) rfl h.1 zf_row1 ?_
            have hb5 := h.1
            replace h := h.2
            have hx6 : zf_shelf (47 + 2 * (Int32.toInt v1).toNat) (48 + 2 * (Int32.toInt v1).toNat) := zf_shelves (by omega)
            refine zf_ld (pc' := 60) (v := .inl v2) dX7_row_59 rfl (fun _ _ _ => rfl) rfl rfl rfl ?_
            refine zf_ld (pc' := 61) (v := .inl v3) dX7_row_60 rfl (fun _ _ _ => rfl) rfl rfl rfl ?_
            refine zf_iv (k := 22) (pc' := 64) (r := []) dX7_row_61 rfl rfl rfl rfl hx6.1 hx6.2.1 rfl rfl (zr_22 (by omega) hx6 h) (zf_kO (fun m8 h => ?_))
            refine zf_ic (v := 1) (pc' := 65) dX7_row_64 rfl rfl ?_
            exact zf_ri dX7_row_65 rfl h
          · replace h := h.2 g
            refine zf_ld (pc' := 47) (v := .inr (.inr (1, 0))) dX7_row_46 rfl (fun _ _ _ => rfl) rfl rfl rfl ?_
            refine zf_bi (v := 7) (pc' := 49) dX7_row_47 rfl rfl ?_
            refine zf_iv (k := 109) (pc' := 52) (r := []) dX7_row_49 rfl rfl rfl rfl (by decide) rfl rfl rfl (zr_109 (by omega) h) (zf_kI (fun x9 m10 h => ?_))
            exact zf_ri dX7_row_52 rfl h
        · replace h := h.2 g
          refine zf_ld (pc' := 33) (v := .inr (.inr (1, 0))) dX7_row_32 rfl (fun _ _ _ => rfl) rfl rfl rfl ?_
          refine zf_bi (v := 6) (pc' := 35) dX7_row_33 rfl rfl ?_
          refine zf_iv (k := 109) (pc' := 38) (r := []) dX7_row_35 rfl rfl rfl rfl (by decide) rfl rfl rfl (zr_109 (by omega) h) (zf_kI (fun x11 m12 h => ?_))
          exact zf_ri dX7_row_38 rfl h
    · replace h := h.2 g
      refine zf_ld (pc' := 18) (v := .inr (.inr (1, 0))) dX7_row_17 rfl (fun _ _ _ => rfl) rfl rfl rfl ?_
      refine zf_ic (v := 4) (pc' := 19) dX7_row_18 rfl rfl ?_
      refine zf_iv (k := 109) (pc' := 22) (r := []) dX7_row_19 rfl rfl rfl rfl (by decide) rfl rfl rfl (zr_109 (by omega) h) (zf_kI (fun x13 m14 h => ?_))
      exact zf_ri dX7_row_22 rfl h
  · replace h := h.2 g
    refine zf_ld (pc' := 8) (v := .inr (.inr (1, 0))) dX7_row_7 rfl (fun _ _ _ => rfl) rfl rfl rfl ?_
    refine zf_ic (v := 1) (pc' := 9) dX7_row_8 rfl rfl ?_
    refine zf_iv (k := 109) (pc' := 12) (r := []) dX7_row_9 rfl rfl rfl rfl (by decide) rfl rfl rfl (zr_109 (by omega) h) (zf_kI (fun x15 m16 h => ?_))
    exact zf_ri dX7_row_12 rfl h
def zt_111 : zx_MT := (7, yX7_whyNoRow, cX7_whyNoRow, 2, (some FieldType.int), 1, 0)
theorem zm_111 : zx_m 111 = zt_111 := rfl
theorem dX7_whyNoRow_r0 : zdcP cX7_whyNoRow 0 [(.iload_n 1, 1), (.invokestatic 78, 3), (.ifCond .ne 5, 3), (.iconst 1, 1), (.ireturn, 1), (.aload_n 0, 1), (.getfield 11, 3), (.iload_n 1, 1), (.aaload, 1), (.invokevirtual 323, 3), (.ifCond .eq 5, 3), (.iconst 0, 1), (.ireturn, 1), (.aload_n 0, 1), (.getfield 11, 3), (.iload_n 1, 1)] := zdcA_ok (by decide +kernel)
theorem dX7_whyNoRow_0 : decode cX7_whyNoRow 0 = .ok (.iload_n 1, 1) := dX7_whyNoRow_r0.1
theorem dX7_whyNoRow_1 : decode cX7_whyNoRow 1 = .ok (.invokestatic 78, 3) := dX7_whyNoRow_r0.2.1
theorem dX7_whyNoRow_4 : decode cX7_whyNoRow 4 = .ok (.ifCond .ne 5, 3) := dX7_whyNoRow_r0.2.2.1
theorem dX7_whyNoRow_7 : decode cX7_whyNoRow 7 = .ok (.iconst 1, 1) := dX7_whyNoRow_r0.2.2.2.1
theorem dX7_whyNoRow_8 : decode cX7_whyNoRow 8 = .ok (.ireturn, 1) := dX7_whyNoRow_r0.2.2.2.2.1
theorem dX7_whyNoRow_9 : decode cX7_whyNoRow 9 = .ok (.aload_n 0, 1) := dX7_whyNoRow_r0.2.2.2.2.2.1
theorem dX7_whyNoRow_10 : decode cX7_whyNoRow 10 = .ok (.getfield 11, 3) := dX7_whyNoRow_r0.2.2.2.2.2.2.1
theorem dX7_whyNoRow_13 : decode cX7_whyNoRow 13 = .ok (.iload_n 1, 1) := dX7_whyNoRow_r0.2.2.2.2.2.2.2.1
theorem dX7_whyNoRow_14 : decode cX7_whyNoRow 14 = .ok (.aaload, 1) := dX7_whyNoRow_r0.2.2.2.2.2.2.2.2.1
theorem dX7_whyNoRow_15 : decode cX7_whyNoRow 15 = .ok (.invokevirtual 323, 3) := dX7_whyNoRow_r0.2.2.2.2.2.2.2.2.2.1
theorem dX7_whyNoRow_18 : decode cX7_whyNoRow 18 = .ok (.ifCond .eq 5, 3) := dX7_whyNoRow_r0.2.2.2.2.2.2.2.2.2.2.1
theorem dX7_whyNoRow_21 : decode cX7_whyNoRow 21 = .ok (.iconst 0, 1) := dX7_whyNoRow_r0.2.2.2.2.2.2.2.2.2.2.2.1
theorem dX7_whyNoRow_22 : decode cX7_whyNoRow 22 = .ok (.ireturn, 1) := dX7_whyNoRow_r0.2.2.2.2.2.2.2.2.2.2.2.2.1
theorem dX7_whyNoRow_23 : decode cX7_whyNoRow 23 = .ok (.aload_n 0, 1) := dX7_whyNoRow_r0.2.2.2.2.2.2.2.2.2.2.2.2.2.1
theorem dX7_whyNoRow_24 : decode cX7_whyNoRow 24 = .ok (.getfield 11, 3) := dX7_whyNoRow_r0.2.2.2.2.2.2.2.2.2.2.2.2.2.2.1
theorem dX7_whyNoRow_27 : decode cX7_whyNoRow 27 = .ok (.iload_n 1, 1) := dX7_whyNoRow_r0.2.2.2.2.2.2.2.2.2.2.2.2.2.2.2.1
theorem dX7_whyNoRow_r28 : zdcP cX7_whyNoRow 28 [(.aaload, 1), (.getfield 121, 3), (.iconst (-1), 1), (.if_icmp .ne 7, 3), (.iconst 3, 1), (.goto 4, 3), (.iconst 2, 1), (.ireturn, 1)] := zdcA_ok (by decide +kernel)
theorem dX7_whyNoRow_28 : decode cX7_whyNoRow 28 = .ok (.aaload, 1) := dX7_whyNoRow_r28.1
theorem dX7_whyNoRow_29 : decode cX7_whyNoRow 29 = .ok (.getfield 121, 3) := dX7_whyNoRow_r28.2.1
theorem dX7_whyNoRow_32 : decode cX7_whyNoRow 32 = .ok (.iconst (-1), 1) := dX7_whyNoRow_r28.2.2.1
theorem dX7_whyNoRow_33 : decode cX7_whyNoRow 33 = .ok (.if_icmp .ne 7, 3) := dX7_whyNoRow_r28.2.2.2.1
theorem dX7_whyNoRow_36 : decode cX7_whyNoRow 36 = .ok (.iconst 3, 1) := dX7_whyNoRow_r28.2.2.2.2.1
theorem dX7_whyNoRow_37 : decode cX7_whyNoRow 37 = .ok (.goto 4, 3) := dX7_whyNoRow_r28.2.2.2.2.2.1
theorem dX7_whyNoRow_40 : decode cX7_whyNoRow 40 = .ok (.iconst 2, 1) := dX7_whyNoRow_r28.2.2.2.2.2.2.1
theorem dX7_whyNoRow_41 : decode cX7_whyNoRow 41 = .ok (.ireturn, 1) := dX7_whyNoRow_r28.2.2.2.2.2.2.2.1
def wp_111 (v1 : Int32) (m : zf_Me) (Q : Int32 → zf_Me → Prop) : Prop := wp_114 v1 m (fun b1 m2 => ((b1 = true → ((0 ≤ (Int32.toInt v1) ∧ (Int32.toInt v1) < 8) ∧ wp_19 (47 + 2 * (Int32.toInt v1).toNat) (48 + 2 * (Int32.toInt v1).toNat) m2 (fun b5 m6 => ((b5 = false → ((0 ≤ (Int32.toInt v1) ∧ (Int32.toInt v1) < 8) ∧ ((¬ ((m6.1 (47 + 2 * (Int32.toInt v1).toNat) 1)).toInt = (-1) → Q 2 m6) ∧ (((m6.1 (47 + 2 * (Int32.toInt v1).toNat) 1)).toInt = (-1) → Q 3 m6)))) ∧ (b5 = true → Q 0 m6))))) ∧ (b1 = false → Q 1 m2)))
theorem zr_111 {d : Nat} (hd : 1 ≤ d) {v1 : Int32} {Q : Int32 → zf_Me → Prop} {m : zf_Me} (h : wp_111 v1 m Q) : zf_M d 111 [.inr (.inr (1, 0)), .inl v1] m (zf_I Q) := by
  obtain ⟨e, rfl⟩ : ∃ z, d = z + 1 := ⟨d - 1, by omega⟩
  unfold wp_111 at h
  refine zf_M_of (Nat.le_of_ble_eq_true rfl) zm_111 (L := [some (.inr (.inr (1, 0))), some (.inl v1)]) rfl ?_
  refine zf_ld (pc' := 1) (v := .inl v1) dX7_whyNoRow_0 rfl (fun _ _ _ => rfl) rfl rfl rfl ?_
  refine zf_is (k := 114) (pc' := 4) (r := []) dX7_whyNoRow_1 rfl rfl rfl rfl rfl (zr_114 (by omega) h) (zf_kB (fun b1 m2 h => ?_))
  refine zf_ib_ne (tgt := 9) (pc' := 7) dX7_whyNoRow_4 rfl rfl (fun g => ?_) (fun g => ?_)
  · replace h := h.1 g
    refine zf_ld (pc' := 10) (v := .inr (.inr (1, 0))) dX7_whyNoRow_9 rfl (fun _ _ _ => rfl) rfl rfl rfl ?_
    refine zf_gfr (pc' := 13) (b := 1) dX7_whyNoRow_10 rfl rfl (by decide) rfl rfl ?_
    refine zf_ld (pc' := 14) (v := .inl v1) dX7_whyNoRow_13 rfl (fun _ _ _ => rfl) rfl rfl rfl ?_
    refine zf_aal (b := 47) (n := 8) (pc' := 15) dX7_whyNoRow_14 rfl (by decide) rfl (by decide) rfl h.1 zf_row1 ?_
    have hb3 := h.1
    replace h := h.2
    have hx4 : zf_shelf (47 + 2 * (Int32.toInt v1).toNat) (48 + 2 * (Int32.toInt v1).toNat) := zf_shelves (by omega)
    refine zf_iv (k := 19) (pc' := 18) (r := []) dX7_whyNoRow_15 rfl rfl rfl rfl hx4.1 hx4.2.1 rfl rfl (zr_19 (by omega) hx4 h) (zf_kB (fun b5 m6 h => ?_))
    refine zf_ib_eq (tgt := 23) (pc' := 21) dX7_whyNoRow_18 rfl rfl (fun g => ?_) (fun g => ?_)
    · replace h := h.1 g
      refine zf_ld (pc' := 24) (v := .inr (.inr (1, 0))) dX7_whyNoRow_23 rfl (fun _ _ _ => rfl) rfl rfl rfl ?_
      refine zf_gfr (pc' := 27) (b := 1) dX7_whyNoRow_24 rfl rfl (by decide) rfl rfl ?_
      refine zf_ld (pc' := 28) (v := .inl v1) dX7_whyNoRow_27 rfl (fun _ _ _ => rfl) rfl rfl rfl ?_
      refine zf_aal (b := 47) (n := 8) (pc' := 29) dX7_whyNoRow_28 rfl (by decide) rfl (by decide) rfl h.1 zf_row1 ?_
      have hb7 := h.1
      replace h := h.2
      have hx8 : zf_shelf (47 + 2 * (Int32.toInt v1).toNat) (48 + 2 * (Int32.toInt v1).toNat) := zf_shelves (by omega)
      refine zf_gfi (pc' := 32) dX7_whyNoRow_29 rfl rfl hx8.1 hx8.2.1 rfl ?_
      refine zf_ic (v := (-1)) (pc' := 33) dX7_whyNoRow_32 rfl rfl ?_
      refine zf_icmp_ne (tgt := 40) (pc' := 36) dX7_whyNoRow_33 rfl rfl (fun g => ?_) (fun g => ?_)
      · replace h := h.1 g
        refine zf_ic (v := 2) (pc' := 41) dX7_whyNoRow_40 rfl rfl ?_
        exact zf_ri dX7_whyNoRow_41 rfl h
      · replace h := h.2 g
        refine zf_ic (v := 3) (pc' := 37) dX7_whyNoRow_36 rfl rfl ?_
        refine zf_goto (tgt := 41) dX7_whyNoRow_37 rfl ?_
        exact zf_ri dX7_whyNoRow_41 rfl h
    · replace h := h.2 g
      refine zf_ic (v := 0) (pc' := 22) dX7_whyNoRow_21 rfl rfl ?_
      exact zf_ri dX7_whyNoRow_22 rfl h
  · replace h := h.2 g
    refine zf_ic (v := 1) (pc' := 8) dX7_whyNoRow_7 rfl rfl ?_
    exact zf_ri dX7_whyNoRow_8 rfl h
def zt_69 : zx_MT := (7, yX7_set, cX7_set, 6, (some FieldType.int), 3, 0)
theorem zm_69 : zx_m 69 = zt_69 := rfl
theorem dX7_set_r0 : zdcP cX7_set 0 [(.aload_n 0, 1), (.iload_n 1, 1), (.invokevirtual 90, 3), (.istore 5, 2), (.iload 5, 2), (.ifCond .eq 10, 3), (.aload_n 0, 1), (.iload 5, 2), (.invokevirtual 82, 3), (.ireturn, 1), (.aload_n 0, 1), (.getfield 11, 3), (.iload_n 1, 1), (.aaload, 1), (.iload_n 2, 1), (.invokevirtual 93, 3)] := zdcA_ok (by decide +kernel)
theorem dX7_set_0 : decode cX7_set 0 = .ok (.aload_n 0, 1) := dX7_set_r0.1
theorem dX7_set_1 : decode cX7_set 1 = .ok (.iload_n 1, 1) := dX7_set_r0.2.1
theorem dX7_set_2 : decode cX7_set 2 = .ok (.invokevirtual 90, 3) := dX7_set_r0.2.2.1
theorem dX7_set_5 : decode cX7_set 5 = .ok (.istore 5, 2) := dX7_set_r0.2.2.2.1
theorem dX7_set_7 : decode cX7_set 7 = .ok (.iload 5, 2) := dX7_set_r0.2.2.2.2.1
theorem dX7_set_9 : decode cX7_set 9 = .ok (.ifCond .eq 10, 3) := dX7_set_r0.2.2.2.2.2.1
theorem dX7_set_12 : decode cX7_set 12 = .ok (.aload_n 0, 1) := dX7_set_r0.2.2.2.2.2.2.1
theorem dX7_set_13 : decode cX7_set 13 = .ok (.iload 5, 2) := dX7_set_r0.2.2.2.2.2.2.2.1
theorem dX7_set_15 : decode cX7_set 15 = .ok (.invokevirtual 82, 3) := dX7_set_r0.2.2.2.2.2.2.2.2.1
theorem dX7_set_18 : decode cX7_set 18 = .ok (.ireturn, 1) := dX7_set_r0.2.2.2.2.2.2.2.2.2.1
theorem dX7_set_19 : decode cX7_set 19 = .ok (.aload_n 0, 1) := dX7_set_r0.2.2.2.2.2.2.2.2.2.2.1
theorem dX7_set_20 : decode cX7_set 20 = .ok (.getfield 11, 3) := dX7_set_r0.2.2.2.2.2.2.2.2.2.2.2.1
theorem dX7_set_23 : decode cX7_set 23 = .ok (.iload_n 1, 1) := dX7_set_r0.2.2.2.2.2.2.2.2.2.2.2.2.1
theorem dX7_set_24 : decode cX7_set 24 = .ok (.aaload, 1) := dX7_set_r0.2.2.2.2.2.2.2.2.2.2.2.2.2.1
theorem dX7_set_25 : decode cX7_set 25 = .ok (.iload_n 2, 1) := dX7_set_r0.2.2.2.2.2.2.2.2.2.2.2.2.2.2.1
theorem dX7_set_26 : decode cX7_set 26 = .ok (.invokevirtual 93, 3) := dX7_set_r0.2.2.2.2.2.2.2.2.2.2.2.2.2.2.2.1
theorem dX7_set_r29 : zdcP cX7_set 29 [(.ifCond .ne 9, 3), (.aload_n 0, 1), (.iconst 5, 1), (.invokevirtual 82, 3), (.ireturn, 1), (.aload_n 0, 1), (.getfield 11, 3), (.iload_n 1, 1), (.aaload, 1), (.iload_n 2, 1), (.lload_n 3, 1), (.invokevirtual 96, 3), (.iconst 1, 1), (.ireturn, 1)] := zdcA_ok (by decide +kernel)
theorem dX7_set_29 : decode cX7_set 29 = .ok (.ifCond .ne 9, 3) := dX7_set_r29.1
theorem dX7_set_32 : decode cX7_set 32 = .ok (.aload_n 0, 1) := dX7_set_r29.2.1
theorem dX7_set_33 : decode cX7_set 33 = .ok (.iconst 5, 1) := dX7_set_r29.2.2.1
theorem dX7_set_34 : decode cX7_set 34 = .ok (.invokevirtual 82, 3) := dX7_set_r29.2.2.2.1
theorem dX7_set_37 : decode cX7_set 37 = .ok (.ireturn, 1) := dX7_set_r29.2.2.2.2.1
theorem dX7_set_38 : decode cX7_set 38 = .ok (.aload_n 0, 1) := dX7_set_r29.2.2.2.2.2.1
theorem dX7_set_39 : decode cX7_set 39 = .ok (.getfield 11, 3) := dX7_set_r29.2.2.2.2.2.2.1
theorem dX7_set_42 : decode cX7_set 42 = .ok (.iload_n 1, 1) := dX7_set_r29.2.2.2.2.2.2.2.1
theorem dX7_set_43 : decode cX7_set 43 = .ok (.aaload, 1) := dX7_set_r29.2.2.2.2.2.2.2.2.1
theorem dX7_set_44 : decode cX7_set 44 = .ok (.iload_n 2, 1) := dX7_set_r29.2.2.2.2.2.2.2.2.2.1
theorem dX7_set_45 : decode cX7_set 45 = .ok (.lload_n 3, 1) := dX7_set_r29.2.2.2.2.2.2.2.2.2.2.1
theorem dX7_set_46 : decode cX7_set 46 = .ok (.invokevirtual 96, 3) := dX7_set_r29.2.2.2.2.2.2.2.2.2.2.2.1
theorem dX7_set_49 : decode cX7_set 49 = .ok (.iconst 1, 1) := dX7_set_r29.2.2.2.2.2.2.2.2.2.2.2.2.1
theorem dX7_set_50 : decode cX7_set 50 = .ok (.ireturn, 1) := dX7_set_r29.2.2.2.2.2.2.2.2.2.2.2.2.2.1
def wp_69 (v1 : Int32) (v2 : Int32) (v3 : Int64) (m : zf_Me) (Q : Int32 → zf_Me → Prop) : Prop := wp_111 v1 m (fun x1 m2 => ((x1.toInt = 0 → ((0 ≤ (Int32.toInt v1) ∧ (Int32.toInt v1) < 8) ∧ wp_20 (47 + 2 * (Int32.toInt v1).toNat) (48 + 2 * (Int32.toInt v1).toNat) v2 m2 (fun b5 m6 => ((b5 = true → ((0 ≤ (Int32.toInt v1) ∧ (Int32.toInt v1) < 8) ∧ wp_23 (47 + 2 * (Int32.toInt v1).toNat) (48 + 2 * (Int32.toInt v1).toNat) v2 v3 m6 (fun m10 => Q 1 m10))) ∧ (b5 = false → wp_109 5 m6 (fun x11 m12 => Q x11 m12)))))) ∧ (¬ x1.toInt = 0 → wp_109 x1 m2 (fun x13 m14 => Q x13 m14))))
theorem zr_69 {d : Nat} (hd : 2 ≤ d) {v1 : Int32} {v2 : Int32} {v3 : Int64} {Q : Int32 → zf_Me → Prop} {m : zf_Me} (h : wp_69 v1 v2 v3 m Q) : zf_M d 69 [.inr (.inr (1, 0)), .inl v1, .inl v2, .inr (.inl v3)] m (zf_I Q) := by
  obtain ⟨e, rfl⟩ : ∃ z, d = z + 1 := ⟨d - 1, by omega⟩
  unfold wp_69 at h
  refine zf_M_of (Nat.le_of_ble_eq_true rfl) zm_69 (L := [some (.inr (.inr (1, 0))), some (.inl v1), some (.inl v2), some (.inr (.inl v3)), none, none]) rfl ?_
  refine zf_ld (pc' := 1) (v := .inr (.inr (1, 0))) dX7_set_0 rfl (fun _ _ _ => rfl) rfl rfl rfl ?_
  refine zf_ld (pc' := 2) (v := .inl v1) dX7_set_1 rfl (fun _ _ _ => rfl) rfl rfl rfl ?_
  refine zf_iv (k := 111) (pc' := 5) (r := []) dX7_set_2 rfl rfl rfl rfl (by decide) rfl rfl rfl (zr_111 (by omega) h) (zf_kI (fun x1 m2 h => ?_))
  refine zf_st (pc' := 7) (L2 := [some (.inr (.inr (1, 0))), some (.inl v1), some (.inl v2), some (.inr (.inl v3)), none, some (.inl x1)]) dX7_set_5 rfl (fun _ _ _ => rfl) rfl rfl rfl rfl rfl rfl ?_
  refine zf_ld (pc' := 9) (v := .inl x1) dX7_set_7 rfl (fun _ _ _ => rfl) rfl rfl rfl ?_
  refine zf_if_eq (tgt := 19) (pc' := 12) dX7_set_9 rfl rfl (fun g => ?_) (fun g => ?_)
  · replace h := h.1 g
    refine zf_ld (pc' := 20) (v := .inr (.inr (1, 0))) dX7_set_19 rfl (fun _ _ _ => rfl) rfl rfl rfl ?_
    refine zf_gfr (pc' := 23) (b := 1) dX7_set_20 rfl rfl (by decide) rfl rfl ?_
    refine zf_ld (pc' := 24) (v := .inl v1) dX7_set_23 rfl (fun _ _ _ => rfl) rfl rfl rfl ?_
    refine zf_aal (b := 47) (n := 8) (pc' := 25) dX7_set_24 rfl (by decide) rfl (by decide) rfl h.1 zf_row1 ?_
    have hb3 := h.1
    replace h := h.2
    have hx4 : zf_shelf (47 + 2 * (Int32.toInt v1).toNat) (48 + 2 * (Int32.toInt v1).toNat) := zf_shelves (by omega)
    refine zf_ld (pc' := 26) (v := .inl v2) dX7_set_25 rfl (fun _ _ _ => rfl) rfl rfl rfl ?_
    refine zf_iv (k := 20) (pc' := 29) (r := []) dX7_set_26 rfl rfl rfl rfl hx4.1 hx4.2.1 rfl rfl (zr_20 (by omega) hx4 h) (zf_kB (fun b5 m6 h => ?_))
    refine zf_ib_ne (tgt := 38) (pc' := 32) dX7_set_29 rfl rfl (fun g => ?_) (fun g => ?_)
    · replace h := h.1 g
      refine zf_ld (pc' := 39) (v := .inr (.inr (1, 0))) dX7_set_38 rfl (fun _ _ _ => rfl) rfl rfl rfl ?_
      refine zf_gfr (pc' := 42) (b := 1) dX7_set_39 rfl rfl (by decide) rfl rfl ?_
      refine zf_ld (pc' := 43) (v := .inl v1) dX7_set_42 rfl (fun _ _ _ => rfl) rfl rfl rfl ?_
      refine zf_aal (b := 47) (n := 8) (pc' := 44) dX7_set_43 rfl (by decide) rfl (by decide) rfl h.1 zf_row1 ?_
      have hb7 := h.1
      replace h := h.2
      have hx8 : zf_shelf (47 + 2 * (Int32.toInt v1).toNat) (48 + 2 * (Int32.toInt v1).toNat) := zf_shelves (by omega)
      refine zf_ld (pc' := 45) (v := .inl v2) dX7_set_44 rfl (fun _ _ _ => rfl) rfl rfl rfl ?_
      refine zf_ld (pc' := 46) (v := .inr (.inl v3)) dX7_set_45 rfl (fun _ _ _ => rfl) rfl rfl rfl ?_
      refine zf_iv (k := 23) (pc' := 49) (r := []) dX7_set_46 rfl rfl rfl rfl hx8.1 hx8.2.1 rfl rfl (zr_23 (by omega) hx8 h) (zf_kO (fun m10 h => ?_))
      refine zf_ic (v := 1) (pc' := 50) dX7_set_49 rfl rfl ?_
      exact zf_ri dX7_set_50 rfl h
    · replace h := h.2 g
      refine zf_ld (pc' := 33) (v := .inr (.inr (1, 0))) dX7_set_32 rfl (fun _ _ _ => rfl) rfl rfl rfl ?_
      refine zf_ic (v := 5) (pc' := 34) dX7_set_33 rfl rfl ?_
      refine zf_iv (k := 109) (pc' := 37) (r := []) dX7_set_34 rfl rfl rfl rfl (by decide) rfl rfl rfl (zr_109 (by omega) h) (zf_kI (fun x11 m12 h => ?_))
      exact zf_ri dX7_set_37 rfl h
  · replace h := h.2 g
    refine zf_ld (pc' := 13) (v := .inr (.inr (1, 0))) dX7_set_12 rfl (fun _ _ _ => rfl) rfl rfl rfl ?_
    refine zf_ld (pc' := 15) (v := .inl x1) dX7_set_13 rfl (fun _ _ _ => rfl) rfl rfl rfl ?_
    refine zf_iv (k := 109) (pc' := 18) (r := []) dX7_set_15 rfl rfl rfl rfl (by decide) rfl rfl rfl (zr_109 (by omega) h) (zf_kI (fun x13 m14 h => ?_))
    exact zf_ri dX7_set_18 rfl h
def zt_112 : zx_MT := (7, yX7_whyNoCopy, cX7_whyNoCopy, 5, (some FieldType.int), 2, 0)
theorem zm_112 : zx_m 112 = zt_112 := rfl
theorem dX7_whyNoCopy_r0 : zdcP cX7_whyNoCopy 0 [(.aload_n 0, 1), (.iload_n 1, 1), (.invokevirtual 90, 3), (.istore_n 3, 1), (.aload_n 0, 1), (.iload_n 2, 1), (.invokevirtual 90, 3), (.istore 4, 2), (.iload_n 3, 1), (.iconst 1, 1), (.if_icmp .eq 9, 3), (.iload 4, 2), (.iconst 1, 1), (.if_icmp .ne 5, 3), (.iconst 1, 1), (.ireturn, 1)] := zdcA_ok (by decide +kernel)
theorem dX7_whyNoCopy_0 : decode cX7_whyNoCopy 0 = .ok (.aload_n 0, 1) := dX7_whyNoCopy_r0.1
theorem dX7_whyNoCopy_1 : decode cX7_whyNoCopy 1 = .ok (.iload_n 1, 1) := dX7_whyNoCopy_r0.2.1
theorem dX7_whyNoCopy_2 : decode cX7_whyNoCopy 2 = .ok (.invokevirtual 90, 3) := dX7_whyNoCopy_r0.2.2.1
theorem dX7_whyNoCopy_5 : decode cX7_whyNoCopy 5 = .ok (.istore_n 3, 1) := dX7_whyNoCopy_r0.2.2.2.1
theorem dX7_whyNoCopy_6 : decode cX7_whyNoCopy 6 = .ok (.aload_n 0, 1) := dX7_whyNoCopy_r0.2.2.2.2.1
theorem dX7_whyNoCopy_7 : decode cX7_whyNoCopy 7 = .ok (.iload_n 2, 1) := dX7_whyNoCopy_r0.2.2.2.2.2.1
theorem dX7_whyNoCopy_8 : decode cX7_whyNoCopy 8 = .ok (.invokevirtual 90, 3) := dX7_whyNoCopy_r0.2.2.2.2.2.2.1
theorem dX7_whyNoCopy_11 : decode cX7_whyNoCopy 11 = .ok (.istore 4, 2) := dX7_whyNoCopy_r0.2.2.2.2.2.2.2.1
theorem dX7_whyNoCopy_13 : decode cX7_whyNoCopy 13 = .ok (.iload_n 3, 1) := dX7_whyNoCopy_r0.2.2.2.2.2.2.2.2.1
theorem dX7_whyNoCopy_14 : decode cX7_whyNoCopy 14 = .ok (.iconst 1, 1) := dX7_whyNoCopy_r0.2.2.2.2.2.2.2.2.2.1
theorem dX7_whyNoCopy_15 : decode cX7_whyNoCopy 15 = .ok (.if_icmp .eq 9, 3) := dX7_whyNoCopy_r0.2.2.2.2.2.2.2.2.2.2.1
theorem dX7_whyNoCopy_18 : decode cX7_whyNoCopy 18 = .ok (.iload 4, 2) := dX7_whyNoCopy_r0.2.2.2.2.2.2.2.2.2.2.2.1
theorem dX7_whyNoCopy_20 : decode cX7_whyNoCopy 20 = .ok (.iconst 1, 1) := dX7_whyNoCopy_r0.2.2.2.2.2.2.2.2.2.2.2.2.1
theorem dX7_whyNoCopy_21 : decode cX7_whyNoCopy 21 = .ok (.if_icmp .ne 5, 3) := dX7_whyNoCopy_r0.2.2.2.2.2.2.2.2.2.2.2.2.2.1
theorem dX7_whyNoCopy_24 : decode cX7_whyNoCopy 24 = .ok (.iconst 1, 1) := dX7_whyNoCopy_r0.2.2.2.2.2.2.2.2.2.2.2.2.2.2.1
theorem dX7_whyNoCopy_25 : decode cX7_whyNoCopy 25 = .ok (.ireturn, 1) := dX7_whyNoCopy_r0.2.2.2.2.2.2.2.2.2.2.2.2.2.2.2.1
theorem dX7_whyNoCopy_r26 : zdcP cX7_whyNoCopy 26 [(.iload_n 3, 1), (.iconst 2, 1), (.if_icmp .eq 9, 3), (.iload 4, 2), (.iconst 2, 1), (.if_icmp .ne 5, 3), (.iconst 2, 1), (.ireturn, 1), (.iload_n 3, 1), (.iconst 3, 1), (.if_icmp .eq 9, 3), (.iload 4, 2), (.iconst 3, 1), (.if_icmp .ne 5, 3), (.iconst 3, 1), (.ireturn, 1)] := zdcA_ok (by decide +kernel)
theorem dX7_whyNoCopy_26 : decode cX7_whyNoCopy 26 = .ok (.iload_n 3, 1) := dX7_whyNoCopy_r26.1
theorem dX7_whyNoCopy_27 : decode cX7_whyNoCopy 27 = .ok (.iconst 2, 1) := dX7_whyNoCopy_r26.2.1
theorem dX7_whyNoCopy_28 : decode cX7_whyNoCopy 28 = .ok (.if_icmp .eq 9, 3) := dX7_whyNoCopy_r26.2.2.1
theorem dX7_whyNoCopy_31 : decode cX7_whyNoCopy 31 = .ok (.iload 4, 2) := dX7_whyNoCopy_r26.2.2.2.1
theorem dX7_whyNoCopy_33 : decode cX7_whyNoCopy 33 = .ok (.iconst 2, 1) := dX7_whyNoCopy_r26.2.2.2.2.1
theorem dX7_whyNoCopy_34 : decode cX7_whyNoCopy 34 = .ok (.if_icmp .ne 5, 3) := dX7_whyNoCopy_r26.2.2.2.2.2.1
theorem dX7_whyNoCopy_37 : decode cX7_whyNoCopy 37 = .ok (.iconst 2, 1) := dX7_whyNoCopy_r26.2.2.2.2.2.2.1
theorem dX7_whyNoCopy_38 : decode cX7_whyNoCopy 38 = .ok (.ireturn, 1) := dX7_whyNoCopy_r26.2.2.2.2.2.2.2.1
theorem dX7_whyNoCopy_39 : decode cX7_whyNoCopy 39 = .ok (.iload_n 3, 1) := dX7_whyNoCopy_r26.2.2.2.2.2.2.2.2.1
theorem dX7_whyNoCopy_40 : decode cX7_whyNoCopy 40 = .ok (.iconst 3, 1) := dX7_whyNoCopy_r26.2.2.2.2.2.2.2.2.2.1
theorem dX7_whyNoCopy_41 : decode cX7_whyNoCopy 41 = .ok (.if_icmp .eq 9, 3) := dX7_whyNoCopy_r26.2.2.2.2.2.2.2.2.2.2.1
theorem dX7_whyNoCopy_44 : decode cX7_whyNoCopy 44 = .ok (.iload 4, 2) := dX7_whyNoCopy_r26.2.2.2.2.2.2.2.2.2.2.2.1
theorem dX7_whyNoCopy_46 : decode cX7_whyNoCopy 46 = .ok (.iconst 3, 1) := dX7_whyNoCopy_r26.2.2.2.2.2.2.2.2.2.2.2.2.1
theorem dX7_whyNoCopy_47 : decode cX7_whyNoCopy 47 = .ok (.if_icmp .ne 5, 3) := dX7_whyNoCopy_r26.2.2.2.2.2.2.2.2.2.2.2.2.2.1
theorem dX7_whyNoCopy_50 : decode cX7_whyNoCopy 50 = .ok (.iconst 3, 1) := dX7_whyNoCopy_r26.2.2.2.2.2.2.2.2.2.2.2.2.2.2.1
theorem dX7_whyNoCopy_51 : decode cX7_whyNoCopy 51 = .ok (.ireturn, 1) := dX7_whyNoCopy_r26.2.2.2.2.2.2.2.2.2.2.2.2.2.2.2.1
theorem dX7_whyNoCopy_r52 : zdcP cX7_whyNoCopy 52 [(.aload_n 0, 1), (.getfield 11, 3), (.iload_n 1, 1), (.aaload, 1), (.getfield 121, 3), (.aload_n 0, 1), (.getfield 11, 3), (.iload_n 2, 1), (.aaload, 1), (.getfield 121, 3), (.if_icmp .ne 7, 3), (.iconst 0, 1), (.goto 4, 3), (.iconst 2, 1), (.ireturn, 1)] := zdcA_ok (by decide +kernel)
theorem dX7_whyNoCopy_52 : decode cX7_whyNoCopy 52 = .ok (.aload_n 0, 1) := dX7_whyNoCopy_r52.1
theorem dX7_whyNoCopy_53 : decode cX7_whyNoCopy 53 = .ok (.getfield 11, 3) := dX7_whyNoCopy_r52.2.1
theorem dX7_whyNoCopy_56 : decode cX7_whyNoCopy 56 = .ok (.iload_n 1, 1) := dX7_whyNoCopy_r52.2.2.1
theorem dX7_whyNoCopy_57 : decode cX7_whyNoCopy 57 = .ok (.aaload, 1) := dX7_whyNoCopy_r52.2.2.2.1
theorem dX7_whyNoCopy_58 : decode cX7_whyNoCopy 58 = .ok (.getfield 121, 3) := dX7_whyNoCopy_r52.2.2.2.2.1
theorem dX7_whyNoCopy_61 : decode cX7_whyNoCopy 61 = .ok (.aload_n 0, 1) := dX7_whyNoCopy_r52.2.2.2.2.2.1
theorem dX7_whyNoCopy_62 : decode cX7_whyNoCopy 62 = .ok (.getfield 11, 3) := dX7_whyNoCopy_r52.2.2.2.2.2.2.1
theorem dX7_whyNoCopy_65 : decode cX7_whyNoCopy 65 = .ok (.iload_n 2, 1) := dX7_whyNoCopy_r52.2.2.2.2.2.2.2.1
theorem dX7_whyNoCopy_66 : decode cX7_whyNoCopy 66 = .ok (.aaload, 1) := dX7_whyNoCopy_r52.2.2.2.2.2.2.2.2.1
theorem dX7_whyNoCopy_67 : decode cX7_whyNoCopy 67 = .ok (.getfield 121, 3) := dX7_whyNoCopy_r52.2.2.2.2.2.2.2.2.2.1
theorem dX7_whyNoCopy_70 : decode cX7_whyNoCopy 70 = .ok (.if_icmp .ne 7, 3) := dX7_whyNoCopy_r52.2.2.2.2.2.2.2.2.2.2.1
theorem dX7_whyNoCopy_73 : decode cX7_whyNoCopy 73 = .ok (.iconst 0, 1) := dX7_whyNoCopy_r52.2.2.2.2.2.2.2.2.2.2.2.1
theorem dX7_whyNoCopy_74 : decode cX7_whyNoCopy 74 = .ok (.goto 4, 3) := dX7_whyNoCopy_r52.2.2.2.2.2.2.2.2.2.2.2.2.1
theorem dX7_whyNoCopy_77 : decode cX7_whyNoCopy 77 = .ok (.iconst 2, 1) := dX7_whyNoCopy_r52.2.2.2.2.2.2.2.2.2.2.2.2.2.1
theorem dX7_whyNoCopy_78 : decode cX7_whyNoCopy 78 = .ok (.ireturn, 1) := dX7_whyNoCopy_r52.2.2.2.2.2.2.2.2.2.2.2.2.2.2.1
def wp_112 (v1 : Int32) (v2 : Int32) (m : zf_Me) (Q : Int32 → zf_Me → Prop) : Prop := wp_111 v1 m (fun x1 m2 => wp_111 v2 m2 (fun x3 m4 => ((x1.toInt = 1 → Q 1 m4) ∧ (¬ x1.toInt = 1 → ((¬ x3.toInt = 1 → ((x1.toInt = 2 → Q 2 m4) ∧ (¬ x1.toInt = 2 → ((¬ x3.toInt = 2 → ((x1.toInt = 3 → Q 3 m4) ∧ (¬ x1.toInt = 3 → ((¬ x3.toInt = 3 → ((0 ≤ (Int32.toInt v1) ∧ (Int32.toInt v1) < 8) ∧ ((0 ≤ (Int32.toInt v2) ∧ (Int32.toInt v2) < 8) ∧ ((¬ ((m4.1 (47 + 2 * (Int32.toInt v1).toNat) 1)).toInt = ((m4.1 (47 + 2 * (Int32.toInt v2).toNat) 1)).toInt → Q 2 m4) ∧ (((m4.1 (47 + 2 * (Int32.toInt v1).toNat) 1)).toInt = ((m4.1 (47 + 2 * (Int32.toInt v2).toNat) 1)).toInt → Q 0 m4))))) ∧ (x3.toInt = 3 → Q 3 m4))))) ∧ (x3.toInt = 2 → Q 2 m4))))) ∧ (x3.toInt = 1 → Q 1 m4))))))
theorem zr_112 {d : Nat} (hd : 2 ≤ d) {v1 : Int32} {v2 : Int32} {Q : Int32 → zf_Me → Prop} {m : zf_Me} (h : wp_112 v1 v2 m Q) : zf_M d 112 [.inr (.inr (1, 0)), .inl v1, .inl v2] m (zf_I Q) := by
  obtain ⟨e, rfl⟩ : ∃ z, d = z + 1 := ⟨d - 1, by omega⟩
  unfold wp_112 at h
  refine zf_M_of (Nat.le_of_ble_eq_true rfl) zm_112 (L := [some (.inr (.inr (1, 0))), some (.inl v1), some (.inl v2), none, none]) rfl ?_
  refine zf_ld (pc' := 1) (v := .inr (.inr (1, 0))) dX7_whyNoCopy_0 rfl (fun _ _ _ => rfl) rfl rfl rfl ?_
  refine zf_ld (pc' := 2) (v := .inl v1) dX7_whyNoCopy_1 rfl (fun _ _ _ => rfl) rfl rfl rfl ?_
  refine zf_iv (k := 111) (pc' := 5) (r := []) dX7_whyNoCopy_2 rfl rfl rfl rfl (by decide) rfl rfl rfl (zr_111 (by omega) h) (zf_kI (fun x1 m2 h => ?_))
  refine zf_st (pc' := 6) (L2 := [some (.inr (.inr (1, 0))), some (.inl v1), some (.inl v2), some (.inl x1), none]) dX7_whyNoCopy_5 rfl (fun _ _ _ => rfl) rfl rfl rfl rfl rfl rfl ?_
  refine zf_ld (pc' := 7) (v := .inr (.inr (1, 0))) dX7_whyNoCopy_6 rfl (fun _ _ _ => rfl) rfl rfl rfl ?_
  refine zf_ld (pc' := 8) (v := .inl v2) dX7_whyNoCopy_7 rfl (fun _ _ _ => rfl) rfl rfl rfl ?_
  refine zf_iv (k := 111) (pc' := 11) (r := []) dX7_whyNoCopy_8 rfl rfl rfl rfl (by decide) rfl rfl rfl (zr_111 (by omega) h) (zf_kI (fun x3 m4 h => ?_))
  refine zf_st (pc' := 13) (L2 := [some (.inr (.inr (1, 0))), some (.inl v1), some (.inl v2), some (.inl x1), some (.inl x3)]) dX7_whyNoCopy_11 rfl (fun _ _ _ => rfl) rfl rfl rfl rfl rfl rfl ?_
  refine zf_ld (pc' := 14) (v := .inl x1) dX7_whyNoCopy_13 rfl (fun _ _ _ => rfl) rfl rfl rfl ?_
  refine zf_ic (v := 1) (pc' := 15) dX7_whyNoCopy_14 rfl rfl ?_
  refine zf_icmp_eq (tgt := 24) (pc' := 18) dX7_whyNoCopy_15 rfl rfl (fun g => ?_) (fun g => ?_)
  · replace h := h.1 g
    refine zf_ic (v := 1) (pc' := 25) dX7_whyNoCopy_24 rfl rfl ?_
    exact zf_ri dX7_whyNoCopy_25 rfl h
  · replace h := h.2 g
    refine zf_ld (pc' := 20) (v := .inl x3) dX7_whyNoCopy_18 rfl (fun _ _ _ => rfl) rfl rfl rfl ?_
    refine zf_ic (v := 1) (pc' := 21) dX7_whyNoCopy_20 rfl rfl ?_
    refine zf_icmp_ne (tgt := 26) (pc' := 24) dX7_whyNoCopy_21 rfl rfl (fun g => ?_) (fun g => ?_)
    · replace h := h.1 g
      refine zf_ld (pc' := 27) (v := .inl x1) dX7_whyNoCopy_26 rfl (fun _ _ _ => rfl) rfl rfl rfl ?_
      refine zf_ic (v := 2) (pc' := 28) dX7_whyNoCopy_27 rfl rfl ?_
      refine zf_icmp_eq (tgt := 37) (pc' := 31) dX7_whyNoCopy_28 rfl rfl (fun g => ?_) (fun g => ?_)
      · replace h := h.1 g
        refine zf_ic (v := 2) (pc' := 38) dX7_whyNoCopy_37 rfl rfl ?_
        exact zf_ri dX7_whyNoCopy_38 rfl h
      · replace h := h.2 g
        refine zf_ld (pc' := 33) (v := .inl x3) dX7_whyNoCopy_31 rfl (fun _ _ _ => rfl) rfl rfl rfl ?_
        refine zf_ic (v := 2) (pc' := 34) dX7_whyNoCopy_33 rfl rfl ?_
        refine zf_icmp_ne (tgt := 39) (pc' := 37) dX7_whyNoCopy_34 rfl rfl (fun g => ?_) (fun g => ?_)
        · replace h := h.1 g
          refine zf_ld (pc' := 40) (v := .inl x1) dX7_whyNoCopy_39 rfl (fun _ _ _ => rfl) rfl rfl rfl ?_
          refine zf_ic (v := 3) (pc' := 41) dX7_whyNoCopy_40 rfl rfl ?_
          refine zf_icmp_eq (tgt := 50) (pc' := 44) dX7_whyNoCopy_41 rfl rfl (fun g => ?_) (fun g => ?_)
          · replace h := h.1 g
            refine zf_ic (v := 3) (pc' := 51) dX7_whyNoCopy_50 rfl rfl ?_
            exact zf_ri dX7_whyNoCopy_51 rfl h
          · replace h := h.2 g
            refine zf_ld (pc' := 46) (v := .inl x3) dX7_whyNoCopy_44 rfl (fun _ _ _ => rfl) rfl rfl rfl ?_
            refine zf_ic (v := 3) (pc' := 47) dX7_whyNoCopy_46 rfl rfl ?_
            refine zf_icmp_ne (tgt := 52) (pc' := 50) dX7_whyNoCopy_47 rfl rfl (fun g => ?_) (fun g => ?_)
            · replace h := h.1 g
              refine zf_ld (pc' := 53) (v := .inr (.inr (1, 0))) dX7_whyNoCopy_52 rfl (fun _ _ _ => rfl) rfl rfl rfl ?_
              refine zf_gfr (pc' := 56) (b := 1) dX7_whyNoCopy_53 rfl rfl (by decide) rfl rfl ?_
              refine zf_ld (pc' := 57) (v := .inl v1) dX7_whyNoCopy_56 rfl (fun _ _ _ => rfl) rfl rfl rfl ?_
              refine zf_aal (b := 47) (n := 8) (pc' := 58) dX7_whyNoCopy_57 rfl (by decide) rfl (by decide) rfl h.1 zf_row1 ?_
              have hb5 := h.1
              replace h := h.2
              have hx6 : zf_shelf (47 + 2 * (Int32.toInt v1).toNat) (48 + 2 * (Int32.toInt v1).toNat) := zf_shelves (by omega)
              refine zf_gfi (pc' := 61) dX7_whyNoCopy_58 rfl rfl hx6.1 hx6.2.1 rfl ?_
              refine zf_ld (pc' := 62) (v := .inr (.inr (1, 0))) dX7_whyNoCopy_61 rfl (fun _ _ _ => rfl) rfl rfl rfl ?_
              refine zf_gfr (pc' := 65) (b := 1) dX7_whyNoCopy_62 rfl rfl (by decide) rfl rfl ?_
              refine zf_ld (pc' := 66) (v := .inl v2) dX7_whyNoCopy_65 rfl (fun _ _ _ => rfl) rfl rfl rfl ?_
              refine zf_aal (b := 47) (n := 8) (pc' := 67) dX7_whyNoCopy_66 rfl (by decide) rfl (by decide) rfl h.1 zf_row1 ?_
              have hb7 := h.1
              replace h := h.2
              have hx8 : zf_shelf (47 + 2 * (Int32.toInt v2).toNat) (48 + 2 * (Int32.toInt v2).toNat) := zf_shelves (by omega)
              refine zf_gfi (pc' := 70) dX7_whyNoCopy_67 rfl rfl hx8.1 hx8.2.1 rfl ?_
              refine zf_icmp_ne (tgt := 77) (pc' := 73) dX7_whyNoCopy_70 rfl rfl (fun g => ?_) (fun g => ?_)
              · replace h := h.1 g
                refine zf_ic (v := 2) (pc' := 78) dX7_whyNoCopy_77 rfl rfl ?_
                exact zf_ri dX7_whyNoCopy_78 rfl h
              · replace h := h.2 g
                refine zf_ic (v := 0) (pc' := 74) dX7_whyNoCopy_73 rfl rfl ?_
                refine zf_goto (tgt := 78) dX7_whyNoCopy_74 rfl ?_
                exact zf_ri dX7_whyNoCopy_78 rfl h
            · replace h := h.2 g
              refine zf_ic (v := 3) (pc' := 51) dX7_whyNoCopy_50 rfl rfl ?_
              exact zf_ri dX7_whyNoCopy_51 rfl h
        · replace h := h.2 g
          refine zf_ic (v := 2) (pc' := 38) dX7_whyNoCopy_37 rfl rfl ?_
          exact zf_ri dX7_whyNoCopy_38 rfl h
    · replace h := h.2 g
      refine zf_ic (v := 1) (pc' := 25) dX7_whyNoCopy_24 rfl rfl ?_
      exact zf_ri dX7_whyNoCopy_25 rfl h
end
