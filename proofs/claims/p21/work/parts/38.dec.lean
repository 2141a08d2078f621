/-! part 38: methods 157..: laid by wip/flat/dec.py -/
def zt_157 : zx_MT := (8, yX8_reads, cX8_reads, 2, (some FieldType.boolean), 0, 0)
theorem zm_157 : zx_m 157 = zt_157 := rfl
theorem dX8_reads_r0 : zdcP cX8_reads 0 [(.aload_n 0, 1), (.iconst 0, 1), (.putfield 171, 3), (.aload_n 0, 1), (.invokevirtual 174, 3), (.ifCond .ne 12, 3), (.aload_n 0, 1), (.aload_n 0, 1), (.getfield 162, 3), (.invokevirtual 177, 3), (.ireturn, 1), (.iconst 0, 1), (.istore_n 1, 1), (.iload_n 1, 1), (.iconst 2, 1), (.if_icmp .ge 56, 3)] := zdcA_ok (by decide +kernel)
theorem dX8_reads_0 : decode cX8_reads 0 = .ok (.aload_n 0, 1) := dX8_reads_r0.1
theorem dX8_reads_1 : decode cX8_reads 1 = .ok (.iconst 0, 1) := dX8_reads_r0.2.1
theorem dX8_reads_2 : decode cX8_reads 2 = .ok (.putfield 171, 3) := dX8_reads_r0.2.2.1
theorem dX8_reads_5 : decode cX8_reads 5 = .ok (.aload_n 0, 1) := dX8_reads_r0.2.2.2.1
theorem dX8_reads_6 : decode cX8_reads 6 = .ok (.invokevirtual 174, 3) := dX8_reads_r0.2.2.2.2.1
theorem dX8_reads_9 : decode cX8_reads 9 = .ok (.ifCond .ne 12, 3) := dX8_reads_r0.2.2.2.2.2.1
theorem dX8_reads_12 : decode cX8_reads 12 = .ok (.aload_n 0, 1) := dX8_reads_r0.2.2.2.2.2.2.1
theorem dX8_reads_13 : decode cX8_reads 13 = .ok (.aload_n 0, 1) := dX8_reads_r0.2.2.2.2.2.2.2.1
theorem dX8_reads_14 : decode cX8_reads 14 = .ok (.getfield 162, 3) := dX8_reads_r0.2.2.2.2.2.2.2.2.1
theorem dX8_reads_17 : decode cX8_reads 17 = .ok (.invokevirtual 177, 3) := dX8_reads_r0.2.2.2.2.2.2.2.2.2.1
theorem dX8_reads_20 : decode cX8_reads 20 = .ok (.ireturn, 1) := dX8_reads_r0.2.2.2.2.2.2.2.2.2.2.1
theorem dX8_reads_21 : decode cX8_reads 21 = .ok (.iconst 0, 1) := dX8_reads_r0.2.2.2.2.2.2.2.2.2.2.2.1
theorem dX8_reads_22 : decode cX8_reads 22 = .ok (.istore_n 1, 1) := dX8_reads_r0.2.2.2.2.2.2.2.2.2.2.2.2.1
theorem dX8_reads_23 : decode cX8_reads 23 = .ok (.iload_n 1, 1) := dX8_reads_r0.2.2.2.2.2.2.2.2.2.2.2.2.2.1
theorem dX8_reads_24 : decode cX8_reads 24 = .ok (.iconst 2, 1) := dX8_reads_r0.2.2.2.2.2.2.2.2.2.2.2.2.2.2.1
theorem dX8_reads_25 : decode cX8_reads 25 = .ok (.if_icmp .ge 56, 3) := dX8_reads_r0.2.2.2.2.2.2.2.2.2.2.2.2.2.2.2.1
theorem dX8_reads_r28 : zdcP cX8_reads 28 [(.aload_n 0, 1), (.invokevirtual 174, 3), (.ifCond .eq 49, 3), (.aload_n 0, 1), (.bipush 10, 2), (.aload_n 0, 1), (.getfield 171, 3), (.imul, 1), (.aload_n 0, 1), (.getfield 68, 3), (.aload_n 0, 1), (.getfield 168, 3), (.aload_n 0, 1), (.getfield 162, 3), (.iadd, 1), (.laload, 1)] := zdcA_ok (by decide +kernel)
theorem dX8_reads_28 : decode cX8_reads 28 = .ok (.aload_n 0, 1) := dX8_reads_r28.1
theorem dX8_reads_29 : decode cX8_reads 29 = .ok (.invokevirtual 174, 3) := dX8_reads_r28.2.1
theorem dX8_reads_32 : decode cX8_reads 32 = .ok (.ifCond .eq 49, 3) := dX8_reads_r28.2.2.1
theorem dX8_reads_35 : decode cX8_reads 35 = .ok (.aload_n 0, 1) := dX8_reads_r28.2.2.2.1
theorem dX8_reads_36 : decode cX8_reads 36 = .ok (.bipush 10, 2) := dX8_reads_r28.2.2.2.2.1
theorem dX8_reads_38 : decode cX8_reads 38 = .ok (.aload_n 0, 1) := dX8_reads_r28.2.2.2.2.2.1
theorem dX8_reads_39 : decode cX8_reads 39 = .ok (.getfield 171, 3) := dX8_reads_r28.2.2.2.2.2.2.1
theorem dX8_reads_42 : decode cX8_reads 42 = .ok (.imul, 1) := dX8_reads_r28.2.2.2.2.2.2.2.1
theorem dX8_reads_43 : decode cX8_reads 43 = .ok (.aload_n 0, 1) := dX8_reads_r28.2.2.2.2.2.2.2.2.1
theorem dX8_reads_44 : decode cX8_reads 44 = .ok (.getfield 68, 3) := dX8_reads_r28.2.2.2.2.2.2.2.2.2.1
theorem dX8_reads_47 : decode cX8_reads 47 = .ok (.aload_n 0, 1) := dX8_reads_r28.2.2.2.2.2.2.2.2.2.2.1
theorem dX8_reads_48 : decode cX8_reads 48 = .ok (.getfield 168, 3) := dX8_reads_r28.2.2.2.2.2.2.2.2.2.2.2.1
theorem dX8_reads_51 : decode cX8_reads 51 = .ok (.aload_n 0, 1) := dX8_reads_r28.2.2.2.2.2.2.2.2.2.2.2.2.1
theorem dX8_reads_52 : decode cX8_reads 52 = .ok (.getfield 162, 3) := dX8_reads_r28.2.2.2.2.2.2.2.2.2.2.2.2.2.1
theorem dX8_reads_55 : decode cX8_reads 55 = .ok (.iadd, 1) := dX8_reads_r28.2.2.2.2.2.2.2.2.2.2.2.2.2.2.1
theorem dX8_reads_56 : decode cX8_reads 56 = .ok (.laload, 1) := dX8_reads_r28.2.2.2.2.2.2.2.2.2.2.2.2.2.2.2.1
theorem dX8_reads_r57 : zdcP cX8_reads 57 [(.l2i, 1), (.iadd, 1), (.bipush 48, 2), (.isub, 1), (.putfield 171, 3), (.aload_n 0, 1), (.dup, 1), (.getfield 162, 3), (.iconst 1, 1), (.iadd, 1), (.putfield 162, 3), (.iinc 1 1, 3), (.goto (-55), 3), (.iconst 1, 1), (.ireturn, 1)] := zdcA_ok (by decide +kernel)
theorem dX8_reads_57 : decode cX8_reads 57 = .ok (.l2i, 1) := dX8_reads_r57.1
theorem dX8_reads_58 : decode cX8_reads 58 = .ok (.iadd, 1) := dX8_reads_r57.2.1
theorem dX8_reads_59 : decode cX8_reads 59 = .ok (.bipush 48, 2) := dX8_reads_r57.2.2.1
theorem dX8_reads_61 : decode cX8_reads 61 = .ok (.isub, 1) := dX8_reads_r57.2.2.2.1
theorem dX8_reads_62 : decode cX8_reads 62 = .ok (.putfield 171, 3) := dX8_reads_r57.2.2.2.2.1
theorem dX8_reads_65 : decode cX8_reads 65 = .ok (.aload_n 0, 1) := dX8_reads_r57.2.2.2.2.2.1
theorem dX8_reads_66 : decode cX8_reads 66 = .ok (.dup, 1) := dX8_reads_r57.2.2.2.2.2.2.1
theorem dX8_reads_67 : decode cX8_reads 67 = .ok (.getfield 162, 3) := dX8_reads_r57.2.2.2.2.2.2.2.1
theorem dX8_reads_70 : decode cX8_reads 70 = .ok (.iconst 1, 1) := dX8_reads_r57.2.2.2.2.2.2.2.2.1
theorem dX8_reads_71 : decode cX8_reads 71 = .ok (.iadd, 1) := dX8_reads_r57.2.2.2.2.2.2.2.2.2.1
theorem dX8_reads_72 : decode cX8_reads 72 = .ok (.putfield 162, 3) := dX8_reads_r57.2.2.2.2.2.2.2.2.2.2.1
theorem dX8_reads_75 : decode cX8_reads 75 = .ok (.iinc 1 1, 3) := dX8_reads_r57.2.2.2.2.2.2.2.2.2.2.2.1
theorem dX8_reads_78 : decode cX8_reads 78 = .ok (.goto (-55), 3) := dX8_reads_r57.2.2.2.2.2.2.2.2.2.2.2.2.1
theorem dX8_reads_81 : decode cX8_reads 81 = .ok (.iconst 1, 1) := dX8_reads_r57.2.2.2.2.2.2.2.2.2.2.2.2.2.1
theorem dX8_reads_82 : decode cX8_reads 82 = .ok (.ireturn, 1) := dX8_reads_r57.2.2.2.2.2.2.2.2.2.2.2.2.2.2.1
def wq_157_23 (Q : Bool → zf_Me → Prop) : Nat → Int32 → zf_Me → Prop
  | 0, _, _ => False
  | n + 1, v1, m => ((v1.toInt ≥ 2 → Q true m) ∧ (v1.toInt < 2 → wp_156 m (fun b5 m6 => ((b5 = false → Q true m6) ∧ (b5 = true → ((0 ≤ (Int32.toInt ((m6.1 63 29) + (m6.1 63 30))) ∧ (Int32.toInt ((m6.1 63 29) + (m6.1 63 30))) < (1280 : Int)) ∧ (∀ m7, m7 = zf_u m6 63 32 (((10 * (m6.1 63 32)) + (Int64.toInt32 (m6.2 74 (Int32.toInt ((m6.1 63 29) + (m6.1 63 30))).toNat))) - 48) → (∀ m9, m9 = zf_u m7 63 30 ((m7.1 63 30) + 1) → wq_157_23 Q n (v1 + 1) m9))))))))
theorem zq_157_23 {d : Nat} (hd : 1 ≤ d) {Q : Bool → zf_Me → Prop} : ∀ (n : Nat) (v1 : Int32) (m : zf_Me), wq_157_23 Q n v1 m → zf_W none 0 0 d zt_157 23 [some (.inr (.inr (1, 63))), some (.inl v1)] [] m (zf_B Q) := by
  obtain ⟨e, rfl⟩ : ∃ z, d = z + 1 := ⟨d - 1, by omega⟩
  intro n
  induction n with
  | zero =>
    intro v1 m h
    exact h.elim
  | succ n ih =>
    intro v1 m h
    unfold wq_157_23 at h
    refine zf_ld (pc' := 24) (v := .inl v1) dX8_reads_23 rfl (fun _ _ _ => rfl) rfl rfl rfl ?_
    refine zf_ic (v := 2) (pc' := 25) dX8_reads_24 rfl rfl ?_
    refine zf_icmp_ge (tgt := 81) (pc' := 28) dX8_reads_25 rfl rfl (fun g => ?_) (fun g => ?_)
    · replace h := h.1 g
      refine zf_ic (v := 1) (pc' := 82) dX8_reads_81 rfl rfl ?_
      exact zf_rb (b := true) dX8_reads_82 rfl h
    · replace h := h.2 g
      refine zf_ld (pc' := 29) (v := .inr (.inr (1, 63))) dX8_reads_28 rfl (fun _ _ _ => rfl) rfl rfl rfl ?_
      refine zf_iv (k := 156) (pc' := 32) (r := []) dX8_reads_29 rfl rfl rfl rfl (by decide) rfl rfl rfl (zr_156 (by omega) h) (zf_kB (fun b5 m6 h => ?_))
      refine zf_ib_eq (tgt := 81) (pc' := 35) dX8_reads_32 rfl rfl (fun g => ?_) (fun g => ?_)
      · replace h := h.1 g
        refine zf_ic (v := 1) (pc' := 82) dX8_reads_81 rfl rfl ?_
        exact zf_rb (b := true) dX8_reads_82 rfl h
      · replace h := h.2 g
        refine zf_ld (pc' := 36) (v := .inr (.inr (1, 63))) dX8_reads_35 rfl (fun _ _ _ => rfl) rfl rfl rfl ?_
        refine zf_bi (v := 10) (pc' := 38) dX8_reads_36 rfl rfl ?_
        refine zf_ld (pc' := 39) (v := .inr (.inr (1, 63))) dX8_reads_38 rfl (fun _ _ _ => rfl) rfl rfl rfl ?_
        refine zf_gfi (pc' := 42) dX8_reads_39 rfl rfl (by decide) rfl rfl ?_
        refine zf_in (pc' := 43) (S' := [.inl (10 * (m6.1 63 32)), .inr (.inr (1, 63))]) dX8_reads_42 rfl (fun _ _ _ => rfl) ?_
        refine zf_ld (pc' := 44) (v := .inr (.inr (1, 63))) dX8_reads_43 rfl (fun _ _ _ => rfl) rfl rfl rfl ?_
        refine zf_gfr (pc' := 47) (b := 74) dX8_reads_44 rfl rfl (by decide) rfl rfl ?_
        refine zf_ld (pc' := 48) (v := .inr (.inr (1, 63))) dX8_reads_47 rfl (fun _ _ _ => rfl) rfl rfl rfl ?_
        refine zf_gfi (pc' := 51) dX8_reads_48 rfl rfl (by decide) rfl rfl ?_
        refine zf_ld (pc' := 52) (v := .inr (.inr (1, 63))) dX8_reads_51 rfl (fun _ _ _ => rfl) rfl rfl rfl ?_
        refine zf_gfi (pc' := 55) dX8_reads_52 rfl rfl (by decide) rfl rfl ?_
        refine zf_in (pc' := 56) (S' := [.inl ((m6.1 63 29) + (m6.1 63 30)), .inr (.inr (1, 74)), .inl (10 * (m6.1 63 32)), .inr (.inr (1, 63))]) dX8_reads_55 rfl (fun _ _ _ => rfl) ?_
        refine zf_lal (pc' := 57) dX8_reads_56 rfl (⟨by decide, rfl⟩ : zf_larr 74 1280).1 (⟨by decide, rfl⟩ : zf_larr 74 1280).2 h.1 rfl ?_
        replace h := h.2
        refine zf_in (pc' := 58) (S' := [.inl (Int64.toInt32 (m6.2 74 (Int32.toInt ((m6.1 63 29) + (m6.1 63 30))).toNat)), .inl (10 * (m6.1 63 32)), .inr (.inr (1, 63))]) dX8_reads_57 rfl (fun _ _ _ => rfl) ?_
        refine zf_in (pc' := 59) (S' := [.inl ((10 * (m6.1 63 32)) + (Int64.toInt32 (m6.2 74 (Int32.toInt ((m6.1 63 29) + (m6.1 63 30))).toNat))), .inr (.inr (1, 63))]) dX8_reads_58 rfl (fun _ _ _ => rfl) ?_
        refine zf_bi (v := 48) (pc' := 61) dX8_reads_59 rfl rfl ?_
        refine zf_in (pc' := 62) (S' := [.inl (((10 * (m6.1 63 32)) + (Int64.toInt32 (m6.2 74 (Int32.toInt ((m6.1 63 29) + (m6.1 63 30))).toNat))) - 48), .inr (.inr (1, 63))]) dX8_reads_61 rfl (fun _ _ _ => rfl) ?_
        refine zf_pf (pc' := 65) dX8_reads_62 rfl rfl (by decide) rfl rfl rfl (fun m7 e8 => ?_)
        replace h := h m7 e8
        refine zf_ld (pc' := 66) (v := .inr (.inr (1, 63))) dX8_reads_65 rfl (fun _ _ _ => rfl) rfl rfl rfl ?_
        refine zf_in (pc' := 67) (S' := [.inr (.inr (1, 63)), .inr (.inr (1, 63))]) dX8_reads_66 rfl (fun _ _ _ => rfl) ?_
        refine zf_gfi (pc' := 70) dX8_reads_67 rfl rfl (by decide) rfl rfl ?_
        refine zf_ic (v := 1) (pc' := 71) dX8_reads_70 rfl rfl ?_
        refine zf_in (pc' := 72) (S' := [.inl ((m7.1 63 30) + 1), .inr (.inr (1, 63))]) dX8_reads_71 rfl (fun _ _ _ => rfl) ?_
        refine zf_pf (pc' := 75) dX8_reads_72 rfl rfl (by decide) rfl rfl rfl (fun m9 e10 => ?_)
        replace h := h m9 e10
        refine zf_ii (y := (v1 + 1)) (L2 := [some (.inr (.inr (1, 63))), some (.inl (v1 + 1))]) (pc' := 78) dX8_reads_75 rfl rfl rfl rfl rfl ?_
        refine zf_goto (tgt := 23) dX8_reads_78 rfl ?_
        exact zf_lo (ih _ _ h) ⟨rfl, rfl, trivial⟩
def wp_157 (m : zf_Me) (Q : Bool → zf_Me → Prop) : Prop := (∀ m1, m1 = zf_u m 63 32 0 → wp_156 m1 (fun b3 m4 => ((b3 = true → (∃ n23, wq_157_23 Q n23 0 m4)) ∧ (b3 = false → wp_153 (m4.1 63 30) m4 (fun b11 m12 => Q b11 m12)))))
theorem zr_157 {d : Nat} (hd : 1 ≤ d) {Q : Bool → zf_Me → Prop} {m : zf_Me} (h : wp_157 m Q) : zf_M d 157 [.inr (.inr (1, 63))] m (zf_B Q) := by
  obtain ⟨e, rfl⟩ : ∃ z, d = z + 1 := ⟨d - 1, by omega⟩
  unfold wp_157 at h
  refine zf_M_of (Nat.le_of_ble_eq_true rfl) zm_157 (L := [some (.inr (.inr (1, 63))), none]) rfl ?_
  refine zf_ld (pc' := 1) (v := .inr (.inr (1, 63))) dX8_reads_0 rfl (fun _ _ _ => rfl) rfl rfl rfl ?_
  refine zf_ic (v := 0) (pc' := 2) dX8_reads_1 rfl rfl ?_
  refine zf_pf (pc' := 5) dX8_reads_2 rfl rfl (by decide) rfl rfl rfl (fun m1 e2 => ?_)
  replace h := h m1 e2
  refine zf_ld (pc' := 6) (v := .inr (.inr (1, 63))) dX8_reads_5 rfl (fun _ _ _ => rfl) rfl rfl rfl ?_
  refine zf_iv (k := 156) (pc' := 9) (r := []) dX8_reads_6 rfl rfl rfl rfl (by decide) rfl rfl rfl (zr_156 (by omega) h) (zf_kB (fun b3 m4 h => ?_))
  refine zf_ib_ne (tgt := 21) (pc' := 12) dX8_reads_9 rfl rfl (fun g => ?_) (fun g => ?_)
  · replace h := h.1 g
    refine zf_ic (v := 0) (pc' := 22) dX8_reads_21 rfl rfl ?_
    refine zf_st (pc' := 23) (L2 := [some (.inr (.inr (1, 63))), some (.inl 0)]) dX8_reads_22 rfl (fun _ _ _ => rfl) rfl rfl rfl rfl rfl rfl ?_
    obtain ⟨n23, h⟩ := h
    exact zf_lo (zq_157_23 (by omega) n23 _ _ h) ⟨rfl, rfl, trivial⟩
  · replace h := h.2 g
    refine zf_ld (pc' := 13) (v := .inr (.inr (1, 63))) dX8_reads_12 rfl (fun _ _ _ => rfl) rfl rfl rfl ?_
    refine zf_ld (pc' := 14) (v := .inr (.inr (1, 63))) dX8_reads_13 rfl (fun _ _ _ => rfl) rfl rfl rfl ?_
    refine zf_gfi (pc' := 17) dX8_reads_14 rfl rfl (by decide) rfl rfl ?_
    refine zf_iv (k := 153) (pc' := 20) (r := []) dX8_reads_17 rfl rfl rfl rfl (by decide) rfl rfl rfl (zr_153 (by omega) h) (zf_kB (fun b11 m12 h => ?_))
    exact zf_rb (b := b11) dX8_reads_20 rfl h
def zt_166 : zx_MT := (8, yX8_mayCarry, cX8_mayCarry, 3, (some FieldType.boolean), 1, 0)
theorem zm_166 : zx_m 166 = zt_166 := rfl
theorem dX8_mayCarry_r0 : zdcP cX8_mayCarry 0 [(.aload_n 0, 1), (.iload_n 1, 1), (.invokevirtual 119, 3), (.ifCond .eq 42, 3), (.aload_n 0, 1), (.getfield 207, 3), (.aload_n 0, 1), (.getfield 108, 3), (.if_icmp .ge 31, 3), (.aload_n 0, 1), (.getfield 53, 3), (.iload_n 1, 1), (.iaload, 1), (.aload_n 0, 1), (.iload_n 1, 1), (.aload_n 0, 1)] := zdcA_ok (by decide +kernel)
theorem dX8_mayCarry_0 : decode cX8_mayCarry 0 = .ok (.aload_n 0, 1) := dX8_mayCarry_r0.1
theorem dX8_mayCarry_1 : decode cX8_mayCarry 1 = .ok (.iload_n 1, 1) := dX8_mayCarry_r0.2.1
theorem dX8_mayCarry_2 : decode cX8_mayCarry 2 = .ok (.invokevirtual 119, 3) := dX8_mayCarry_r0.2.2.1
theorem dX8_mayCarry_5 : decode cX8_mayCarry 5 = .ok (.ifCond .eq 42, 3) := dX8_mayCarry_r0.2.2.2.1
theorem dX8_mayCarry_8 : decode cX8_mayCarry 8 = .ok (.aload_n 0, 1) := dX8_mayCarry_r0.2.2.2.2.1
theorem dX8_mayCarry_9 : decode cX8_mayCarry 9 = .ok (.getfield 207, 3) := dX8_mayCarry_r0.2.2.2.2.2.1
theorem dX8_mayCarry_12 : decode cX8_mayCarry 12 = .ok (.aload_n 0, 1) := dX8_mayCarry_r0.2.2.2.2.2.2.1
theorem dX8_mayCarry_13 : decode cX8_mayCarry 13 = .ok (.getfield 108, 3) := dX8_mayCarry_r0.2.2.2.2.2.2.2.1
theorem dX8_mayCarry_16 : decode cX8_mayCarry 16 = .ok (.if_icmp .ge 31, 3) := dX8_mayCarry_r0.2.2.2.2.2.2.2.2.1
theorem dX8_mayCarry_19 : decode cX8_mayCarry 19 = .ok (.aload_n 0, 1) := dX8_mayCarry_r0.2.2.2.2.2.2.2.2.2.1
theorem dX8_mayCarry_20 : decode cX8_mayCarry 20 = .ok (.getfield 53, 3) := dX8_mayCarry_r0.2.2.2.2.2.2.2.2.2.2.1
theorem dX8_mayCarry_23 : decode cX8_mayCarry 23 = .ok (.iload_n 1, 1) := dX8_mayCarry_r0.2.2.2.2.2.2.2.2.2.2.2.1
theorem dX8_mayCarry_24 : decode cX8_mayCarry 24 = .ok (.iaload, 1) := dX8_mayCarry_r0.2.2.2.2.2.2.2.2.2.2.2.2.1
theorem dX8_mayCarry_25 : decode cX8_mayCarry 25 = .ok (.aload_n 0, 1) := dX8_mayCarry_r0.2.2.2.2.2.2.2.2.2.2.2.2.2.1
theorem dX8_mayCarry_26 : decode cX8_mayCarry 26 = .ok (.iload_n 1, 1) := dX8_mayCarry_r0.2.2.2.2.2.2.2.2.2.2.2.2.2.2.1
theorem dX8_mayCarry_27 : decode cX8_mayCarry 27 = .ok (.aload_n 0, 1) := dX8_mayCarry_r0.2.2.2.2.2.2.2.2.2.2.2.2.2.2.2.1
theorem dX8_mayCarry_r28 : zdcP cX8_mayCarry 28 [(.getfield 41, 3), (.aload_n 0, 1), (.getfield 207, 3), (.iaload, 1), (.invokevirtual 126, 3), (.iadd, 1), (.aload_n 0, 1), (.getfield 28, 3), (.if_icmp .le 5, 3), (.iconst 0, 1), (.ireturn, 1), (.aload_n 0, 1), (.getfield 47, 3), (.iload_n 1, 1), (.iaload, 1), (.istore_n 2, 1)] := zdcA_ok (by decide +kernel)
theorem dX8_mayCarry_28 : decode cX8_mayCarry 28 = .ok (.getfield 41, 3) := dX8_mayCarry_r28.1
theorem dX8_mayCarry_31 : decode cX8_mayCarry 31 = .ok (.aload_n 0, 1) := dX8_mayCarry_r28.2.1
theorem dX8_mayCarry_32 : decode cX8_mayCarry 32 = .ok (.getfield 207, 3) := dX8_mayCarry_r28.2.2.1
theorem dX8_mayCarry_35 : decode cX8_mayCarry 35 = .ok (.iaload, 1) := dX8_mayCarry_r28.2.2.2.1
theorem dX8_mayCarry_36 : decode cX8_mayCarry 36 = .ok (.invokevirtual 126, 3) := dX8_mayCarry_r28.2.2.2.2.1
theorem dX8_mayCarry_39 : decode cX8_mayCarry 39 = .ok (.iadd, 1) := dX8_mayCarry_r28.2.2.2.2.2.1
theorem dX8_mayCarry_40 : decode cX8_mayCarry 40 = .ok (.aload_n 0, 1) := dX8_mayCarry_r28.2.2.2.2.2.2.1
theorem dX8_mayCarry_41 : decode cX8_mayCarry 41 = .ok (.getfield 28, 3) := dX8_mayCarry_r28.2.2.2.2.2.2.2.1
theorem dX8_mayCarry_44 : decode cX8_mayCarry 44 = .ok (.if_icmp .le 5, 3) := dX8_mayCarry_r28.2.2.2.2.2.2.2.2.1
theorem dX8_mayCarry_47 : decode cX8_mayCarry 47 = .ok (.iconst 0, 1) := dX8_mayCarry_r28.2.2.2.2.2.2.2.2.2.1
theorem dX8_mayCarry_48 : decode cX8_mayCarry 48 = .ok (.ireturn, 1) := dX8_mayCarry_r28.2.2.2.2.2.2.2.2.2.2.1
theorem dX8_mayCarry_49 : decode cX8_mayCarry 49 = .ok (.aload_n 0, 1) := dX8_mayCarry_r28.2.2.2.2.2.2.2.2.2.2.2.1
theorem dX8_mayCarry_50 : decode cX8_mayCarry 50 = .ok (.getfield 47, 3) := dX8_mayCarry_r28.2.2.2.2.2.2.2.2.2.2.2.2.1
theorem dX8_mayCarry_53 : decode cX8_mayCarry 53 = .ok (.iload_n 1, 1) := dX8_mayCarry_r28.2.2.2.2.2.2.2.2.2.2.2.2.2.1
theorem dX8_mayCarry_54 : decode cX8_mayCarry 54 = .ok (.iaload, 1) := dX8_mayCarry_r28.2.2.2.2.2.2.2.2.2.2.2.2.2.2.1
theorem dX8_mayCarry_55 : decode cX8_mayCarry 55 = .ok (.istore_n 2, 1) := dX8_mayCarry_r28.2.2.2.2.2.2.2.2.2.2.2.2.2.2.2.1
theorem dX8_mayCarry_r56 : zdcP cX8_mayCarry 56 [(.iload_n 2, 1), (.iconst 2, 1), (.if_icmp .eq 8, 3), (.iload_n 2, 1), (.iconst 5, 1), (.if_icmp .ne 10, 3), (.aload_n 0, 1), (.invokevirtual 122, 3), (.ifCond .eq 26, 3), (.iload_n 2, 1), (.bipush 6, 2), (.if_icmp .ne 16, 3), (.aload_n 0, 1), (.getfield 41, 3), (.aload_n 0, 1), (.getfield 207, 3)] := zdcA_ok (by decide +kernel)
theorem dX8_mayCarry_56 : decode cX8_mayCarry 56 = .ok (.iload_n 2, 1) := dX8_mayCarry_r56.1
theorem dX8_mayCarry_57 : decode cX8_mayCarry 57 = .ok (.iconst 2, 1) := dX8_mayCarry_r56.2.1
theorem dX8_mayCarry_58 : decode cX8_mayCarry 58 = .ok (.if_icmp .eq 8, 3) := dX8_mayCarry_r56.2.2.1
theorem dX8_mayCarry_61 : decode cX8_mayCarry 61 = .ok (.iload_n 2, 1) := dX8_mayCarry_r56.2.2.2.1
theorem dX8_mayCarry_62 : decode cX8_mayCarry 62 = .ok (.iconst 5, 1) := dX8_mayCarry_r56.2.2.2.2.1
theorem dX8_mayCarry_63 : decode cX8_mayCarry 63 = .ok (.if_icmp .ne 10, 3) := dX8_mayCarry_r56.2.2.2.2.2.1
theorem dX8_mayCarry_66 : decode cX8_mayCarry 66 = .ok (.aload_n 0, 1) := dX8_mayCarry_r56.2.2.2.2.2.2.1
theorem dX8_mayCarry_67 : decode cX8_mayCarry 67 = .ok (.invokevirtual 122, 3) := dX8_mayCarry_r56.2.2.2.2.2.2.2.1
theorem dX8_mayCarry_70 : decode cX8_mayCarry 70 = .ok (.ifCond .eq 26, 3) := dX8_mayCarry_r56.2.2.2.2.2.2.2.2.1
theorem dX8_mayCarry_73 : decode cX8_mayCarry 73 = .ok (.iload_n 2, 1) := dX8_mayCarry_r56.2.2.2.2.2.2.2.2.2.1
theorem dX8_mayCarry_74 : decode cX8_mayCarry 74 = .ok (.bipush 6, 2) := dX8_mayCarry_r56.2.2.2.2.2.2.2.2.2.2.1
theorem dX8_mayCarry_76 : decode cX8_mayCarry 76 = .ok (.if_icmp .ne 16, 3) := dX8_mayCarry_r56.2.2.2.2.2.2.2.2.2.2.2.1
theorem dX8_mayCarry_79 : decode cX8_mayCarry 79 = .ok (.aload_n 0, 1) := dX8_mayCarry_r56.2.2.2.2.2.2.2.2.2.2.2.2.1
theorem dX8_mayCarry_80 : decode cX8_mayCarry 80 = .ok (.getfield 41, 3) := dX8_mayCarry_r56.2.2.2.2.2.2.2.2.2.2.2.2.2.1
theorem dX8_mayCarry_83 : decode cX8_mayCarry 83 = .ok (.aload_n 0, 1) := dX8_mayCarry_r56.2.2.2.2.2.2.2.2.2.2.2.2.2.2.1
theorem dX8_mayCarry_84 : decode cX8_mayCarry 84 = .ok (.getfield 207, 3) := dX8_mayCarry_r56.2.2.2.2.2.2.2.2.2.2.2.2.2.2.2.1
theorem dX8_mayCarry_r87 : zdcP cX8_mayCarry 87 [(.iaload, 1), (.iconst 1, 1), (.if_icmp .gt 7, 3), (.iconst 1, 1), (.goto 4, 3), (.iconst 0, 1), (.ireturn, 1)] := zdcA_ok (by decide +kernel)
theorem dX8_mayCarry_87 : decode cX8_mayCarry 87 = .ok (.iaload, 1) := dX8_mayCarry_r87.1
theorem dX8_mayCarry_88 : decode cX8_mayCarry 88 = .ok (.iconst 1, 1) := dX8_mayCarry_r87.2.1
theorem dX8_mayCarry_89 : decode cX8_mayCarry 89 = .ok (.if_icmp .gt 7, 3) := dX8_mayCarry_r87.2.2.1
theorem dX8_mayCarry_92 : decode cX8_mayCarry 92 = .ok (.iconst 1, 1) := dX8_mayCarry_r87.2.2.2.1
theorem dX8_mayCarry_93 : decode cX8_mayCarry 93 = .ok (.goto 4, 3) := dX8_mayCarry_r87.2.2.2.2.1
theorem dX8_mayCarry_96 : decode cX8_mayCarry 96 = .ok (.iconst 0, 1) := dX8_mayCarry_r87.2.2.2.2.2.1
theorem dX8_mayCarry_97 : decode cX8_mayCarry 97 = .ok (.ireturn, 1) := dX8_mayCarry_r87.2.2.2.2.2.2.1
def wq_166_73 (v1 : Int32) (v2 : Int32) (m : zf_Me) (Q : Bool → zf_Me → Prop) : Prop := ((¬ v2.toInt = 6 → Q true m) ∧ (v2.toInt = 6 → ((0 ≤ (Int32.toInt (m.1 63 10)) ∧ (Int32.toInt (m.1 63 10)) < (24 : Int)) ∧ ((((m.1 65 (Int32.toInt (m.1 63 10)).toNat)).toInt > 1 → Q false m) ∧ (((m.1 65 (Int32.toInt (m.1 63 10)).toNat)).toInt ≤ 1 → Q true m)))))
theorem zq_166_73 {d : Nat} (hd : 1 ≤ d) {v1 : Int32} {Q : Bool → zf_Me → Prop} {v2 : Int32} {m : zf_Me} (h : wq_166_73 v1 v2 m Q) : zf_W none 0 0 d zt_166 73 [some (.inr (.inr (1, 63))), none, some (.inl v2)] [] m (zf_B Q) := by
  unfold wq_166_73 at h
  refine zf_ld (pc' := 74) (v := .inl v2) dX8_mayCarry_73 rfl (fun _ _ _ => rfl) rfl rfl rfl ?_
  refine zf_bi (v := 6) (pc' := 76) dX8_mayCarry_74 rfl rfl ?_
  refine zf_icmp_ne (tgt := 92) (pc' := 79) dX8_mayCarry_76 rfl rfl (fun g => ?_) (fun g => ?_)
  · replace h := h.1 g
    refine zf_ic (v := 1) (pc' := 93) dX8_mayCarry_92 rfl rfl ?_
    refine zf_goto (tgt := 97) dX8_mayCarry_93 rfl ?_
    exact zf_rb (b := true) dX8_mayCarry_97 rfl h
  · replace h := h.2 g
    refine zf_ld (pc' := 80) (v := .inr (.inr (1, 63))) dX8_mayCarry_79 rfl (fun _ _ _ => rfl) rfl rfl rfl ?_
    refine zf_gfr (pc' := 83) (b := 65) dX8_mayCarry_80 rfl rfl (by decide) rfl rfl ?_
    refine zf_ld (pc' := 84) (v := .inr (.inr (1, 63))) dX8_mayCarry_83 rfl (fun _ _ _ => rfl) rfl rfl rfl ?_
    refine zf_gfi (pc' := 87) dX8_mayCarry_84 rfl rfl (by decide) rfl rfl ?_
    refine zf_ial (pc' := 88) dX8_mayCarry_87 rfl (⟨by decide, rfl⟩ : zf_arr 65 24).1 (⟨by decide, rfl⟩ : zf_arr 65 24).2 h.1 rfl ?_
    replace h := h.2
    refine zf_ic (v := 1) (pc' := 89) dX8_mayCarry_88 rfl rfl ?_
    refine zf_icmp_gt (tgt := 96) (pc' := 92) dX8_mayCarry_89 rfl rfl (fun g => ?_) (fun g => ?_)
    · replace h := h.1 g
      refine zf_ic (v := 0) (pc' := 97) dX8_mayCarry_96 rfl rfl ?_
      exact zf_rb (b := false) dX8_mayCarry_97 rfl h
    · replace h := h.2 g
      refine zf_ic (v := 1) (pc' := 93) dX8_mayCarry_92 rfl rfl ?_
      refine zf_goto (tgt := 97) dX8_mayCarry_93 rfl ?_
      exact zf_rb (b := true) dX8_mayCarry_97 rfl h
def wq_166_66 (v1 : Int32) (v2 : Int32) (m : zf_Me) (Q : Bool → zf_Me → Prop) : Prop := wp_164 m (fun b5 m6 => ((b5 = false → Q false m6) ∧ (b5 = true → wq_166_73 v1 v2 m6 Q)))
theorem zq_166_66 {d : Nat} (hd : 1 ≤ d) {v1 : Int32} {Q : Bool → zf_Me → Prop} {v2 : Int32} {m : zf_Me} (h : wq_166_66 v1 v2 m Q) : zf_W none 0 0 d zt_166 66 [some (.inr (.inr (1, 63))), none, some (.inl v2)] [] m (zf_B Q) := by
  obtain ⟨e, rfl⟩ : ∃ z, d = z + 1 := ⟨d - 1, by omega⟩
  unfold wq_166_66 at h
  refine zf_ld (pc' := 67) (v := .inr (.inr (1, 63))) dX8_mayCarry_66 rfl (fun _ _ _ => rfl) rfl rfl rfl ?_
  refine zf_iv (k := 164) (pc' := 70) (r := []) dX8_mayCarry_67 rfl rfl rfl rfl (by decide) rfl rfl rfl (zr_164 (by omega) h) (zf_kB (fun b5 m6 h => ?_))
  refine zf_ib_eq (tgt := 96) (pc' := 73) dX8_mayCarry_70 rfl rfl (fun g => ?_) (fun g => ?_)
  · replace h := h.1 g
    refine zf_ic (v := 0) (pc' := 97) dX8_mayCarry_96 rfl rfl ?_
    exact zf_rb (b := false) dX8_mayCarry_97 rfl h
  · replace h := h.2 g
    exact zf_lo (zq_166_73 (by omega) h) ⟨rfl, rfl, trivial⟩
def wp_166 (v1 : Int32) (m : zf_Me) (Q : Bool → zf_Me → Prop) : Prop := wp_128 v1 m (fun b1 m2 => ((b1 = false → Q false m2) ∧ (b1 = true → ((((m2.1 63 10)).toInt ≥ ((m2.1 63 0)).toInt → Q false m2) ∧ (((m2.1 63 10)).toInt < ((m2.1 63 0)).toInt → ((0 ≤ (Int32.toInt v1) ∧ (Int32.toInt v1) < (6 : Int)) ∧ ((0 ≤ (Int32.toInt (m2.1 63 10)) ∧ (Int32.toInt (m2.1 63 10)) < (24 : Int)) ∧ wp_165 v1 (m2.1 65 (Int32.toInt (m2.1 63 10)).toNat) m2 (fun x3 m4 => (((((m2.1 69 (Int32.toInt v1).toNat) + x3)).toInt ≤ ((m4.1 63 9)).toInt → ((0 ≤ (Int32.toInt v1) ∧ (Int32.toInt v1) < (6 : Int)) ∧ ((((m4.1 67 (Int32.toInt v1).toNat)).toInt = 2 → wq_166_66 v1 (m4.1 67 (Int32.toInt v1).toNat) m4 Q) ∧ (¬ ((m4.1 67 (Int32.toInt v1).toNat)).toInt = 2 → ((¬ ((m4.1 67 (Int32.toInt v1).toNat)).toInt = 5 → wq_166_73 v1 (m4.1 67 (Int32.toInt v1).toNat) m4 Q) ∧ (((m4.1 67 (Int32.toInt v1).toNat)).toInt = 5 → wq_166_66 v1 (m4.1 67 (Int32.toInt v1).toNat) m4 Q)))))) ∧ ((((m2.1 69 (Int32.toInt v1).toNat) + x3)).toInt > ((m4.1 63 9)).toInt → Q false m4))))))))))
theorem zr_166 {d : Nat} (hd : 1 ≤ d) {v1 : Int32} {Q : Bool → zf_Me → Prop} {m : zf_Me} (h : wp_166 v1 m Q) : zf_M d 166 [.inr (.inr (1, 63)), .inl v1] m (zf_B Q) := by
  obtain ⟨e, rfl⟩ : ∃ z, d = z + 1 := ⟨d - 1, by omega⟩
  unfold wp_166 at h
  refine zf_M_of (Nat.le_of_ble_eq_true rfl) zm_166 (L := [some (.inr (.inr (1, 63))), some (.inl v1), none]) rfl ?_
  refine zf_ld (pc' := 1) (v := .inr (.inr (1, 63))) dX8_mayCarry_0 rfl (fun _ _ _ => rfl) rfl rfl rfl ?_
  refine zf_ld (pc' := 2) (v := .inl v1) dX8_mayCarry_1 rfl (fun _ _ _ => rfl) rfl rfl rfl ?_
  refine zf_iv (k := 128) (pc' := 5) (r := []) dX8_mayCarry_2 rfl rfl rfl rfl (by decide) rfl rfl rfl (zr_128 (by omega) h) (zf_kB (fun b1 m2 h => ?_))
  refine zf_ib_eq (tgt := 47) (pc' := 8) dX8_mayCarry_5 rfl rfl (fun g => ?_) (fun g => ?_)
  · replace h := h.1 g
    refine zf_ic (v := 0) (pc' := 48) dX8_mayCarry_47 rfl rfl ?_
    exact zf_rb (b := false) dX8_mayCarry_48 rfl h
  · replace h := h.2 g
    refine zf_ld (pc' := 9) (v := .inr (.inr (1, 63))) dX8_mayCarry_8 rfl (fun _ _ _ => rfl) rfl rfl rfl ?_
    refine zf_gfi (pc' := 12) dX8_mayCarry_9 rfl rfl (by decide) rfl rfl ?_
    refine zf_ld (pc' := 13) (v := .inr (.inr (1, 63))) dX8_mayCarry_12 rfl (fun _ _ _ => rfl) rfl rfl rfl ?_
    refine zf_gfi (pc' := 16) dX8_mayCarry_13 rfl rfl (by decide) rfl rfl ?_
    refine zf_icmp_ge (tgt := 47) (pc' := 19) dX8_mayCarry_16 rfl rfl (fun g => ?_) (fun g => ?_)
    · replace h := h.1 g
      refine zf_ic (v := 0) (pc' := 48) dX8_mayCarry_47 rfl rfl ?_
      exact zf_rb (b := false) dX8_mayCarry_48 rfl h
    · replace h := h.2 g
      refine zf_ld (pc' := 20) (v := .inr (.inr (1, 63))) dX8_mayCarry_19 rfl (fun _ _ _ => rfl) rfl rfl rfl ?_
      refine zf_gfr (pc' := 23) (b := 69) dX8_mayCarry_20 rfl rfl (by decide) rfl rfl ?_
      refine zf_ld (pc' := 24) (v := .inl v1) dX8_mayCarry_23 rfl (fun _ _ _ => rfl) rfl rfl rfl ?_
      refine zf_ial (pc' := 25) dX8_mayCarry_24 rfl (⟨by decide, rfl⟩ : zf_arr 69 6).1 (⟨by decide, rfl⟩ : zf_arr 69 6).2 h.1 rfl ?_
      replace h := h.2
      refine zf_ld (pc' := 26) (v := .inr (.inr (1, 63))) dX8_mayCarry_25 rfl (fun _ _ _ => rfl) rfl rfl rfl ?_
      refine zf_ld (pc' := 27) (v := .inl v1) dX8_mayCarry_26 rfl (fun _ _ _ => rfl) rfl rfl rfl ?_
      refine zf_ld (pc' := 28) (v := .inr (.inr (1, 63))) dX8_mayCarry_27 rfl (fun _ _ _ => rfl) rfl rfl rfl ?_
      refine zf_gfr (pc' := 31) (b := 65) dX8_mayCarry_28 rfl rfl (by decide) rfl rfl ?_
      refine zf_ld (pc' := 32) (v := .inr (.inr (1, 63))) dX8_mayCarry_31 rfl (fun _ _ _ => rfl) rfl rfl rfl ?_
      refine zf_gfi (pc' := 35) dX8_mayCarry_32 rfl rfl (by decide) rfl rfl ?_
      refine zf_ial (pc' := 36) dX8_mayCarry_35 rfl (⟨by decide, rfl⟩ : zf_arr 65 24).1 (⟨by decide, rfl⟩ : zf_arr 65 24).2 h.1 rfl ?_
      replace h := h.2
      refine zf_iv (k := 165) (pc' := 39) (r := [.inl (m2.1 69 (Int32.toInt v1).toNat)]) dX8_mayCarry_36 rfl rfl rfl rfl (by decide) rfl rfl rfl (zr_165 (by omega) h) (zf_kI (fun x3 m4 h => ?_))
      refine zf_in (pc' := 40) (S' := [.inl ((m2.1 69 (Int32.toInt v1).toNat) + x3)]) dX8_mayCarry_39 rfl (fun _ _ _ => rfl) ?_
      refine zf_ld (pc' := 41) (v := .inr (.inr (1, 63))) dX8_mayCarry_40 rfl (fun _ _ _ => rfl) rfl rfl rfl ?_
      refine zf_gfi (pc' := 44) dX8_mayCarry_41 rfl rfl (by decide) rfl rfl ?_
      refine zf_icmp_le (tgt := 49) (pc' := 47) dX8_mayCarry_44 rfl rfl (fun g => ?_) (fun g => ?_)
      · replace h := h.1 g
        refine zf_ld (pc' := 50) (v := .inr (.inr (1, 63))) dX8_mayCarry_49 rfl (fun _ _ _ => rfl) rfl rfl rfl ?_
        refine zf_gfr (pc' := 53) (b := 67) dX8_mayCarry_50 rfl rfl (by decide) rfl rfl ?_
        refine zf_ld (pc' := 54) (v := .inl v1) dX8_mayCarry_53 rfl (fun _ _ _ => rfl) rfl rfl rfl ?_
        refine zf_ial (pc' := 55) dX8_mayCarry_54 rfl (⟨by decide, rfl⟩ : zf_arr 67 6).1 (⟨by decide, rfl⟩ : zf_arr 67 6).2 h.1 rfl ?_
        replace h := h.2
        refine zf_st (pc' := 56) (L2 := [some (.inr (.inr (1, 63))), some (.inl v1), some (.inl (m4.1 67 (Int32.toInt v1).toNat))]) dX8_mayCarry_55 rfl (fun _ _ _ => rfl) rfl rfl rfl rfl rfl rfl ?_
        refine zf_ld (pc' := 57) (v := .inl (m4.1 67 (Int32.toInt v1).toNat)) dX8_mayCarry_56 rfl (fun _ _ _ => rfl) rfl rfl rfl ?_
        refine zf_ic (v := 2) (pc' := 58) dX8_mayCarry_57 rfl rfl ?_
        refine zf_icmp_eq (tgt := 66) (pc' := 61) dX8_mayCarry_58 rfl rfl (fun g => ?_) (fun g => ?_)
        · replace h := h.1 g
          exact zf_lo (zq_166_66 (by omega) h) ⟨rfl, rfl, trivial⟩
        · replace h := h.2 g
          refine zf_ld (pc' := 62) (v := .inl (m4.1 67 (Int32.toInt v1).toNat)) dX8_mayCarry_61 rfl (fun _ _ _ => rfl) rfl rfl rfl ?_
          refine zf_ic (v := 5) (pc' := 63) dX8_mayCarry_62 rfl rfl ?_
          refine zf_icmp_ne (tgt := 73) (pc' := 66) dX8_mayCarry_63 rfl rfl (fun g => ?_) (fun g => ?_)
          · replace h := h.1 g
            exact zf_lo (zq_166_73 (by omega) h) ⟨rfl, rfl, trivial⟩
          · replace h := h.2 g
            exact zf_lo (zq_166_66 (by omega) h) ⟨rfl, rfl, trivial⟩
      · replace h := h.2 g
        refine zf_ic (v := 0) (pc' := 48) dX8_mayCarry_47 rfl rfl ?_
        exact zf_rb (b := false) dX8_mayCarry_48 rfl h
def zt_167 : zx_MT := (8, yX8_mayBe, cX8_mayBe, 2, (some FieldType.boolean), 1, 0)
theorem zm_167 : zx_m 167 = zt_167 := rfl
theorem dX8_mayBe_r0 : zdcP cX8_mayBe 0 [(.iload_n 1, 1), (.bipush 6, 2), (.if_icmp .ge 9, 3), (.aload_n 0, 1), (.iload_n 1, 1), (.invokevirtual 220, 3), (.ireturn, 1), (.iload_n 1, 1), (.bipush 9, 2), (.if_icmp .ne 41, 3), (.aload_n 0, 1), (.getfield 210, 3), (.sipush 900, 3), (.if_icmp .gt 29, 3), (.aload_n 0, 1), (.getfield 207, 3)] := zdcA_ok (by decide +kernel)
theorem dX8_mayBe_0 : decode cX8_mayBe 0 = .ok (.iload_n 1, 1) := dX8_mayBe_r0.1
theorem dX8_mayBe_1 : decode cX8_mayBe 1 = .ok (.bipush 6, 2) := dX8_mayBe_r0.2.1
theorem dX8_mayBe_3 : decode cX8_mayBe 3 = .ok (.if_icmp .ge 9, 3) := dX8_mayBe_r0.2.2.1
theorem dX8_mayBe_6 : decode cX8_mayBe 6 = .ok (.aload_n 0, 1) := dX8_mayBe_r0.2.2.2.1
theorem dX8_mayBe_7 : decode cX8_mayBe 7 = .ok (.iload_n 1, 1) := dX8_mayBe_r0.2.2.2.2.1
theorem dX8_mayBe_8 : decode cX8_mayBe 8 = .ok (.invokevirtual 220, 3) := dX8_mayBe_r0.2.2.2.2.2.1
theorem dX8_mayBe_11 : decode cX8_mayBe 11 = .ok (.ireturn, 1) := dX8_mayBe_r0.2.2.2.2.2.2.1
theorem dX8_mayBe_12 : decode cX8_mayBe 12 = .ok (.iload_n 1, 1) := dX8_mayBe_r0.2.2.2.2.2.2.2.1
theorem dX8_mayBe_13 : decode cX8_mayBe 13 = .ok (.bipush 9, 2) := dX8_mayBe_r0.2.2.2.2.2.2.2.2.1
theorem dX8_mayBe_15 : decode cX8_mayBe 15 = .ok (.if_icmp .ne 41, 3) := dX8_mayBe_r0.2.2.2.2.2.2.2.2.2.1
theorem dX8_mayBe_18 : decode cX8_mayBe 18 = .ok (.aload_n 0, 1) := dX8_mayBe_r0.2.2.2.2.2.2.2.2.2.2.1
theorem dX8_mayBe_19 : decode cX8_mayBe 19 = .ok (.getfield 210, 3) := dX8_mayBe_r0.2.2.2.2.2.2.2.2.2.2.2.1
theorem dX8_mayBe_22 : decode cX8_mayBe 22 = .ok (.sipush 900, 3) := dX8_mayBe_r0.2.2.2.2.2.2.2.2.2.2.2.2.1
theorem dX8_mayBe_25 : decode cX8_mayBe 25 = .ok (.if_icmp .gt 29, 3) := dX8_mayBe_r0.2.2.2.2.2.2.2.2.2.2.2.2.2.1
theorem dX8_mayBe_28 : decode cX8_mayBe 28 = .ok (.aload_n 0, 1) := dX8_mayBe_r0.2.2.2.2.2.2.2.2.2.2.2.2.2.2.1
theorem dX8_mayBe_29 : decode cX8_mayBe 29 = .ok (.getfield 207, 3) := dX8_mayBe_r0.2.2.2.2.2.2.2.2.2.2.2.2.2.2.2.1
theorem dX8_mayBe_r32 : zdcP cX8_mayBe 32 [(.ifCond .eq 18, 3), (.aload_n 0, 1), (.getfield 44, 3), (.aload_n 0, 1), (.getfield 207, 3), (.iconst 1, 1), (.isub, 1), (.iaload, 1), (.iconst 1, 1), (.if_icmp .ne 7, 3), (.iconst 1, 1), (.goto 4, 3), (.iconst 0, 1), (.ireturn, 1), (.aload_n 0, 1), (.getfield 207, 3)] := zdcA_ok (by decide +kernel)
theorem dX8_mayBe_32 : decode cX8_mayBe 32 = .ok (.ifCond .eq 18, 3) := dX8_mayBe_r32.1
theorem dX8_mayBe_35 : decode cX8_mayBe 35 = .ok (.aload_n 0, 1) := dX8_mayBe_r32.2.1
theorem dX8_mayBe_36 : decode cX8_mayBe 36 = .ok (.getfield 44, 3) := dX8_mayBe_r32.2.2.1
theorem dX8_mayBe_39 : decode cX8_mayBe 39 = .ok (.aload_n 0, 1) := dX8_mayBe_r32.2.2.2.1
theorem dX8_mayBe_40 : decode cX8_mayBe 40 = .ok (.getfield 207, 3) := dX8_mayBe_r32.2.2.2.2.1
theorem dX8_mayBe_43 : decode cX8_mayBe 43 = .ok (.iconst 1, 1) := dX8_mayBe_r32.2.2.2.2.2.1
theorem dX8_mayBe_44 : decode cX8_mayBe 44 = .ok (.isub, 1) := dX8_mayBe_r32.2.2.2.2.2.2.1
theorem dX8_mayBe_45 : decode cX8_mayBe 45 = .ok (.iaload, 1) := dX8_mayBe_r32.2.2.2.2.2.2.2.1
theorem dX8_mayBe_46 : decode cX8_mayBe 46 = .ok (.iconst 1, 1) := dX8_mayBe_r32.2.2.2.2.2.2.2.2.1
theorem dX8_mayBe_47 : decode cX8_mayBe 47 = .ok (.if_icmp .ne 7, 3) := dX8_mayBe_r32.2.2.2.2.2.2.2.2.2.1
theorem dX8_mayBe_50 : decode cX8_mayBe 50 = .ok (.iconst 1, 1) := dX8_mayBe_r32.2.2.2.2.2.2.2.2.2.2.1
theorem dX8_mayBe_51 : decode cX8_mayBe 51 = .ok (.goto 4, 3) := dX8_mayBe_r32.2.2.2.2.2.2.2.2.2.2.2.1
theorem dX8_mayBe_54 : decode cX8_mayBe 54 = .ok (.iconst 0, 1) := dX8_mayBe_r32.2.2.2.2.2.2.2.2.2.2.2.2.1
theorem dX8_mayBe_55 : decode cX8_mayBe 55 = .ok (.ireturn, 1) := dX8_mayBe_r32.2.2.2.2.2.2.2.2.2.2.2.2.2.1
theorem dX8_mayBe_56 : decode cX8_mayBe 56 = .ok (.aload_n 0, 1) := dX8_mayBe_r32.2.2.2.2.2.2.2.2.2.2.2.2.2.2.1
theorem dX8_mayBe_57 : decode cX8_mayBe 57 = .ok (.getfield 207, 3) := dX8_mayBe_r32.2.2.2.2.2.2.2.2.2.2.2.2.2.2.2.1
theorem dX8_mayBe_r60 : zdcP cX8_mayBe 60 [(.aload_n 0, 1), (.getfield 108, 3), (.if_icmp .ge 10, 3), (.aload_n 0, 1), (.invokevirtual 122, 3), (.ifCond .eq 5, 3), (.iconst 0, 1), (.ireturn, 1), (.iload_n 1, 1), (.bipush 6, 2), (.if_icmp .ne 18, 3), (.aload_n 0, 1), (.getfield 13, 3), (.ifCond .le 7, 3), (.iconst 1, 1), (.goto 40, 3)] := zdcA_ok (by decide +kernel)
theorem dX8_mayBe_60 : decode cX8_mayBe 60 = .ok (.aload_n 0, 1) := dX8_mayBe_r60.1
theorem dX8_mayBe_61 : decode cX8_mayBe 61 = .ok (.getfield 108, 3) := dX8_mayBe_r60.2.1
theorem dX8_mayBe_64 : decode cX8_mayBe 64 = .ok (.if_icmp .ge 10, 3) := dX8_mayBe_r60.2.2.1
theorem dX8_mayBe_67 : decode cX8_mayBe 67 = .ok (.aload_n 0, 1) := dX8_mayBe_r60.2.2.2.1
theorem dX8_mayBe_68 : decode cX8_mayBe 68 = .ok (.invokevirtual 122, 3) := dX8_mayBe_r60.2.2.2.2.1
theorem dX8_mayBe_71 : decode cX8_mayBe 71 = .ok (.ifCond .eq 5, 3) := dX8_mayBe_r60.2.2.2.2.2.1
theorem dX8_mayBe_74 : decode cX8_mayBe 74 = .ok (.iconst 0, 1) := dX8_mayBe_r60.2.2.2.2.2.2.1
theorem dX8_mayBe_75 : decode cX8_mayBe 75 = .ok (.ireturn, 1) := dX8_mayBe_r60.2.2.2.2.2.2.2.1
theorem dX8_mayBe_76 : decode cX8_mayBe 76 = .ok (.iload_n 1, 1) := dX8_mayBe_r60.2.2.2.2.2.2.2.2.1
theorem dX8_mayBe_77 : decode cX8_mayBe 77 = .ok (.bipush 6, 2) := dX8_mayBe_r60.2.2.2.2.2.2.2.2.2.1
theorem dX8_mayBe_79 : decode cX8_mayBe 79 = .ok (.if_icmp .ne 18, 3) := dX8_mayBe_r60.2.2.2.2.2.2.2.2.2.2.1
theorem dX8_mayBe_82 : decode cX8_mayBe 82 = .ok (.aload_n 0, 1) := dX8_mayBe_r60.2.2.2.2.2.2.2.2.2.2.2.1
theorem dX8_mayBe_83 : decode cX8_mayBe 83 = .ok (.getfield 13, 3) := dX8_mayBe_r60.2.2.2.2.2.2.2.2.2.2.2.2.1
theorem dX8_mayBe_86 : decode cX8_mayBe 86 = .ok (.ifCond .le 7, 3) := dX8_mayBe_r60.2.2.2.2.2.2.2.2.2.2.2.2.2.1
theorem dX8_mayBe_89 : decode cX8_mayBe 89 = .ok (.iconst 1, 1) := dX8_mayBe_r60.2.2.2.2.2.2.2.2.2.2.2.2.2.2.1
theorem dX8_mayBe_90 : decode cX8_mayBe 90 = .ok (.goto 40, 3) := dX8_mayBe_r60.2.2.2.2.2.2.2.2.2.2.2.2.2.2.2.1
theorem dX8_mayBe_r93 : zdcP cX8_mayBe 93 [(.iconst 0, 1), (.goto 36, 3), (.iload_n 1, 1), (.bipush 7, 2), (.if_icmp .ne 18, 3), (.aload_n 0, 1), (.getfield 22, 3), (.ifCond .le 7, 3), (.iconst 1, 1), (.goto 19, 3), (.iconst 0, 1), (.goto 15, 3), (.aload_n 0, 1), (.getfield 25, 3), (.ifCond .le 7, 3), (.iconst 1, 1)] := zdcA_ok (by decide +kernel)
theorem dX8_mayBe_93 : decode cX8_mayBe 93 = .ok (.iconst 0, 1) := dX8_mayBe_r93.1
theorem dX8_mayBe_94 : decode cX8_mayBe 94 = .ok (.goto 36, 3) := dX8_mayBe_r93.2.1
theorem dX8_mayBe_97 : decode cX8_mayBe 97 = .ok (.iload_n 1, 1) := dX8_mayBe_r93.2.2.1
theorem dX8_mayBe_98 : decode cX8_mayBe 98 = .ok (.bipush 7, 2) := dX8_mayBe_r93.2.2.2.1
theorem dX8_mayBe_100 : decode cX8_mayBe 100 = .ok (.if_icmp .ne 18, 3) := dX8_mayBe_r93.2.2.2.2.1
theorem dX8_mayBe_103 : decode cX8_mayBe 103 = .ok (.aload_n 0, 1) := dX8_mayBe_r93.2.2.2.2.2.1
theorem dX8_mayBe_104 : decode cX8_mayBe 104 = .ok (.getfield 22, 3) := dX8_mayBe_r93.2.2.2.2.2.2.1
theorem dX8_mayBe_107 : decode cX8_mayBe 107 = .ok (.ifCond .le 7, 3) := dX8_mayBe_r93.2.2.2.2.2.2.2.1
theorem dX8_mayBe_110 : decode cX8_mayBe 110 = .ok (.iconst 1, 1) := dX8_mayBe_r93.2.2.2.2.2.2.2.2.1
theorem dX8_mayBe_111 : decode cX8_mayBe 111 = .ok (.goto 19, 3) := dX8_mayBe_r93.2.2.2.2.2.2.2.2.2.1
theorem dX8_mayBe_114 : decode cX8_mayBe 114 = .ok (.iconst 0, 1) := dX8_mayBe_r93.2.2.2.2.2.2.2.2.2.2.1
theorem dX8_mayBe_115 : decode cX8_mayBe 115 = .ok (.goto 15, 3) := dX8_mayBe_r93.2.2.2.2.2.2.2.2.2.2.2.1
theorem dX8_mayBe_118 : decode cX8_mayBe 118 = .ok (.aload_n 0, 1) := dX8_mayBe_r93.2.2.2.2.2.2.2.2.2.2.2.2.1
theorem dX8_mayBe_119 : decode cX8_mayBe 119 = .ok (.getfield 25, 3) := dX8_mayBe_r93.2.2.2.2.2.2.2.2.2.2.2.2.2.1
theorem dX8_mayBe_122 : decode cX8_mayBe 122 = .ok (.ifCond .le 7, 3) := dX8_mayBe_r93.2.2.2.2.2.2.2.2.2.2.2.2.2.2.1
theorem dX8_mayBe_125 : decode cX8_mayBe 125 = .ok (.iconst 1, 1) := dX8_mayBe_r93.2.2.2.2.2.2.2.2.2.2.2.2.2.2.2.1
theorem dX8_mayBe_r126 : zdcP cX8_mayBe 126 [(.goto 4, 3), (.iconst 0, 1), (.ireturn, 1)] := zdcA_ok (by decide +kernel)
theorem dX8_mayBe_126 : decode cX8_mayBe 126 = .ok (.goto 4, 3) := dX8_mayBe_r126.1
theorem dX8_mayBe_129 : decode cX8_mayBe 129 = .ok (.iconst 0, 1) := dX8_mayBe_r126.2.1
theorem dX8_mayBe_130 : decode cX8_mayBe 130 = .ok (.ireturn, 1) := dX8_mayBe_r126.2.2.1
def wp_167 (v1 : Int32) (m : zf_Me) (Q : Bool → zf_Me → Prop) : Prop := ((v1.toInt ≥ 6 → ((¬ v1.toInt = 9 → ((((m.1 63 10)).toInt ≥ ((m.1 63 0)).toInt → Q false m) ∧ (((m.1 63 10)).toInt < ((m.1 63 0)).toInt → wp_164 m (fun b1 m2 => ((b1 = false → ((¬ v1.toInt = 6 → ((¬ v1.toInt = 7 → ((((m2.1 63 8)).toInt ≤ 0 → Q false m2) ∧ (((m2.1 63 8)).toInt > 0 → Q true m2))) ∧ (v1.toInt = 7 → ((((m2.1 63 7)).toInt ≤ 0 → Q false m2) ∧ (((m2.1 63 7)).toInt > 0 → Q true m2))))) ∧ (v1.toInt = 6 → ((((m2.1 63 3)).toInt ≤ 0 → Q false m2) ∧ (((m2.1 63 3)).toInt > 0 → Q true m2))))) ∧ (b1 = true → Q false m2)))))) ∧ (v1.toInt = 9 → ((((m.1 63 11)).toInt > 900 → Q false m) ∧ (((m.1 63 11)).toInt ≤ 900 → ((((m.1 63 10)).toInt = 0 → Q true m) ∧ (¬ ((m.1 63 10)).toInt = 0 → ((0 ≤ (Int32.toInt ((m.1 63 10) - 1)) ∧ (Int32.toInt ((m.1 63 10) - 1)) < (24 : Int)) ∧ ((¬ ((m.1 66 (Int32.toInt ((m.1 63 10) - 1)).toNat)).toInt = 1 → Q false m) ∧ (((m.1 66 (Int32.toInt ((m.1 63 10) - 1)).toNat)).toInt = 1 → Q true m)))))))))) ∧ (v1.toInt < 6 → wp_166 v1 m (fun b3 m4 => Q b3 m4)))
theorem zr_167 {d : Nat} (hd : 2 ≤ d) {v1 : Int32} {Q : Bool → zf_Me → Prop} {m : zf_Me} (h : wp_167 v1 m Q) : zf_M d 167 [.inr (.inr (1, 63)), .inl v1] m (zf_B Q) := by
  obtain ⟨e, rfl⟩ : ∃ z, d = z + 1 := ⟨d - 1, by omega⟩
  unfold wp_167 at h
  refine zf_M_of (Nat.le_of_ble_eq_true rfl) zm_167 (L := [some (.inr (.inr (1, 63))), some (.inl v1)]) rfl ?_
  refine zf_ld (pc' := 1) (v := .inl v1) dX8_mayBe_0 rfl (fun _ _ _ => rfl) rfl rfl rfl ?_
  refine zf_bi (v := 6) (pc' := 3) dX8_mayBe_1 rfl rfl ?_
  refine zf_icmp_ge (tgt := 12) (pc' := 6) dX8_mayBe_3 rfl rfl (fun g => ?_) (fun g => ?_)
  · replace h := h.1 g
    refine zf_ld (pc' := 13) (v := .inl v1) dX8_mayBe_12 rfl (fun _ _ _ => rfl) rfl rfl rfl ?_
    refine zf_bi (v := 9) (pc' := 15) dX8_mayBe_13 rfl rfl ?_
    refine zf_icmp_ne (tgt := 56) (pc' := 18) dX8_mayBe_15 rfl rfl (fun g => ?_) (fun g => ?_)
    · replace h := h.1 g
      refine zf_ld (pc' := 57) (v := .inr (.inr (1, 63))) dX8_mayBe_56 rfl (fun _ _ _ => rfl) rfl rfl rfl ?_
      refine zf_gfi (pc' := 60) dX8_mayBe_57 rfl rfl (by decide) rfl rfl ?_
      refine zf_ld (pc' := 61) (v := .inr (.inr (1, 63))) dX8_mayBe_60 rfl (fun _ _ _ => rfl) rfl rfl rfl ?_
      refine zf_gfi (pc' := 64) dX8_mayBe_61 rfl rfl (by decide) rfl rfl ?_
      refine zf_icmp_ge (tgt := 74) (pc' := 67) dX8_mayBe_64 rfl rfl (fun g => ?_) (fun g => ?_)
      · replace h := h.1 g
        refine zf_ic (v := 0) (pc' := 75) dX8_mayBe_74 rfl rfl ?_
        exact zf_rb (b := false) dX8_mayBe_75 rfl h
      · replace h := h.2 g
        refine zf_ld (pc' := 68) (v := .inr (.inr (1, 63))) dX8_mayBe_67 rfl (fun _ _ _ => rfl) rfl rfl rfl ?_
        refine zf_iv (k := 164) (pc' := 71) (r := []) dX8_mayBe_68 rfl rfl rfl rfl (by decide) rfl rfl rfl (zr_164 (by omega) h) (zf_kB (fun b1 m2 h => ?_))
        refine zf_ib_eq (tgt := 76) (pc' := 74) dX8_mayBe_71 rfl rfl (fun g => ?_) (fun g => ?_)
        · replace h := h.1 g
          refine zf_ld (pc' := 77) (v := .inl v1) dX8_mayBe_76 rfl (fun _ _ _ => rfl) rfl rfl rfl ?_
          refine zf_bi (v := 6) (pc' := 79) dX8_mayBe_77 rfl rfl ?_
          refine zf_icmp_ne (tgt := 97) (pc' := 82) dX8_mayBe_79 rfl rfl (fun g => ?_) (fun g => ?_)
          · replace h := h.1 g
            refine zf_ld (pc' := 98) (v := .inl v1) dX8_mayBe_97 rfl (fun _ _ _ => rfl) rfl rfl rfl ?_
            refine zf_bi (v := 7) (pc' := 100) dX8_mayBe_98 rfl rfl ?_
            refine zf_icmp_ne (tgt := 118) (pc' := 103) dX8_mayBe_100 rfl rfl (fun g => ?_) (fun g => ?_)
            · replace h := h.1 g
              refine zf_ld (pc' := 119) (v := .inr (.inr (1, 63))) dX8_mayBe_118 rfl (fun _ _ _ => rfl) rfl rfl rfl ?_
              refine zf_gfi (pc' := 122) dX8_mayBe_119 rfl rfl (by decide) rfl rfl ?_
              refine zf_if_le (tgt := 129) (pc' := 125) dX8_mayBe_122 rfl rfl (fun g => ?_) (fun g => ?_)
              · replace h := h.1 g
                refine zf_ic (v := 0) (pc' := 130) dX8_mayBe_129 rfl rfl ?_
                exact zf_rb (b := false) dX8_mayBe_130 rfl h
              · replace h := h.2 g
                refine zf_ic (v := 1) (pc' := 126) dX8_mayBe_125 rfl rfl ?_
                refine zf_goto (tgt := 130) dX8_mayBe_126 rfl ?_
                exact zf_rb (b := true) dX8_mayBe_130 rfl h
            · replace h := h.2 g
              refine zf_ld (pc' := 104) (v := .inr (.inr (1, 63))) dX8_mayBe_103 rfl (fun _ _ _ => rfl) rfl rfl rfl ?_
              refine zf_gfi (pc' := 107) dX8_mayBe_104 rfl rfl (by decide) rfl rfl ?_
              refine zf_if_le (tgt := 114) (pc' := 110) dX8_mayBe_107 rfl rfl (fun g => ?_) (fun g => ?_)
              · replace h := h.1 g
                refine zf_ic (v := 0) (pc' := 115) dX8_mayBe_114 rfl rfl ?_
                refine zf_goto (tgt := 130) dX8_mayBe_115 rfl ?_
                exact zf_rb (b := false) dX8_mayBe_130 rfl h
              · replace h := h.2 g
                refine zf_ic (v := 1) (pc' := 111) dX8_mayBe_110 rfl rfl ?_
                refine zf_goto (tgt := 130) dX8_mayBe_111 rfl ?_
                exact zf_rb (b := true) dX8_mayBe_130 rfl h
          · replace h := h.2 g
            refine zf_ld (pc' := 83) (v := .inr (.inr (1, 63))) dX8_mayBe_82 rfl (fun _ _ _ => rfl) rfl rfl rfl ?_
            refine zf_gfi (pc' := 86) dX8_mayBe_83 rfl rfl (by decide) rfl rfl ?_
            refine zf_if_le (tgt := 93) (pc' := 89) dX8_mayBe_86 rfl rfl (fun g => ?_) (fun g => ?_)
            · replace h := h.1 g
              refine zf_ic (v := 0) (pc' := 94) dX8_mayBe_93 rfl rfl ?_
              refine zf_goto (tgt := 130) dX8_mayBe_94 rfl ?_
              exact zf_rb (b := false) dX8_mayBe_130 rfl h
            · replace h := h.2 g
              refine zf_ic (v := 1) (pc' := 90) dX8_mayBe_89 rfl rfl ?_
              refine zf_goto (tgt := 130) dX8_mayBe_90 rfl ?_
              exact zf_rb (b := true) dX8_mayBe_130 rfl h
        · replace h := h.2 g
          refine zf_ic (v := 0) (pc' := 75) dX8_mayBe_74 rfl rfl ?_
          exact zf_rb (b := false) dX8_mayBe_75 rfl h
    · replace h := h.2 g
      refine zf_ld (pc' := 19) (v := .inr (.inr (1, 63))) dX8_mayBe_18 rfl (fun _ _ _ => rfl) rfl rfl rfl ?_
      refine zf_gfi (pc' := 22) dX8_mayBe_19 rfl rfl (by decide) rfl rfl ?_
      refine zf_si (v := 900) (pc' := 25) dX8_mayBe_22 rfl rfl ?_
      refine zf_icmp_gt (tgt := 54) (pc' := 28) dX8_mayBe_25 rfl rfl (fun g => ?_) (fun g => ?_)
      · replace h := h.1 g
        refine zf_ic (v := 0) (pc' := 55) dX8_mayBe_54 rfl rfl ?_
        exact zf_rb (b := false) dX8_mayBe_55 rfl h
      · replace h := h.2 g
        refine zf_ld (pc' := 29) (v := .inr (.inr (1, 63))) dX8_mayBe_28 rfl (fun _ _ _ => rfl) rfl rfl rfl ?_
        refine zf_gfi (pc' := 32) dX8_mayBe_29 rfl rfl (by decide) rfl rfl ?_
        refine zf_if_eq (tgt := 50) (pc' := 35) dX8_mayBe_32 rfl rfl (fun g => ?_) (fun g => ?_)
        · replace h := h.1 g
          refine zf_ic (v := 1) (pc' := 51) dX8_mayBe_50 rfl rfl ?_
          refine zf_goto (tgt := 55) dX8_mayBe_51 rfl ?_
          exact zf_rb (b := true) dX8_mayBe_55 rfl h
        · replace h := h.2 g
          refine zf_ld (pc' := 36) (v := .inr (.inr (1, 63))) dX8_mayBe_35 rfl (fun _ _ _ => rfl) rfl rfl rfl ?_
          refine zf_gfr (pc' := 39) (b := 66) dX8_mayBe_36 rfl rfl (by decide) rfl rfl ?_
          refine zf_ld (pc' := 40) (v := .inr (.inr (1, 63))) dX8_mayBe_39 rfl (fun _ _ _ => rfl) rfl rfl rfl ?_
          refine zf_gfi (pc' := 43) dX8_mayBe_40 rfl rfl (by decide) rfl rfl ?_
          refine zf_ic (v := 1) (pc' := 44) dX8_mayBe_43 rfl rfl ?_
          refine zf_in (pc' := 45) (S' := [.inl ((m.1 63 10) - 1), .inr (.inr (1, 66))]) dX8_mayBe_44 rfl (fun _ _ _ => rfl) ?_
          refine zf_ial (pc' := 46) dX8_mayBe_45 rfl (⟨by decide, rfl⟩ : zf_arr 66 24).1 (⟨by decide, rfl⟩ : zf_arr 66 24).2 h.1 rfl ?_
          replace h := h.2
          refine zf_ic (v := 1) (pc' := 47) dX8_mayBe_46 rfl rfl ?_
          refine zf_icmp_ne (tgt := 54) (pc' := 50) dX8_mayBe_47 rfl rfl (fun g => ?_) (fun g => ?_)
          · replace h := h.1 g
            refine zf_ic (v := 0) (pc' := 55) dX8_mayBe_54 rfl rfl ?_
            exact zf_rb (b := false) dX8_mayBe_55 rfl h
          · replace h := h.2 g
            refine zf_ic (v := 1) (pc' := 51) dX8_mayBe_50 rfl rfl ?_
            refine zf_goto (tgt := 55) dX8_mayBe_51 rfl ?_
            exact zf_rb (b := true) dX8_mayBe_55 rfl h
  · replace h := h.2 g
    refine zf_ld (pc' := 7) (v := .inr (.inr (1, 63))) dX8_mayBe_6 rfl (fun _ _ _ => rfl) rfl rfl rfl ?_
    refine zf_ld (pc' := 8) (v := .inl v1) dX8_mayBe_7 rfl (fun _ _ _ => rfl) rfl rfl rfl ?_
    refine zf_iv (k := 166) (pc' := 11) (r := []) dX8_mayBe_8 rfl rfl rfl rfl (by decide) rfl rfl rfl (zr_166 (by omega) h) (zf_kB (fun b3 m4 h => ?_))
    exact zf_rb (b := b3) dX8_mayBe_11 rfl h
def zt_158 : zx_MT := (8, yX8_isSo, cX8_isSo, 3, (some FieldType.boolean), 2, 0)
theorem zm_158 : zx_m 158 = zt_158 := rfl
theorem dX8_isSo_0 : decode cX8_isSo 0 = .ok (.iload_n 1, 1) := zdc_ok (by decide +kernel)
theorem dX8_isSo_1 : decode cX8_isSo 1 = .ok (.tableswitch 166 0 11 #[63, 63, 166, 77, 101, 123, 166, 166, 166, 166, 166, 140], 63) := by decide +kernel
theorem dX8_isSo_r64 : zdcP cX8_isSo 64 [(.aload_n 0, 1), (.getfield 171, 3), (.iconst 3, 1), (.if_icmp .gt 7, 3), (.iconst 1, 1), (.goto 4, 3), (.iconst 0, 1), (.ireturn, 1), (.aload_n 0, 1), (.getfield 171, 3), (.iload_n 2, 1), (.ifCond .ne 8, 3), (.bipush 6, 2), (.goto 5, 3), (.bipush 9, 2), (.if_icmp .gt 7, 3)] := zdcA_ok (by decide +kernel)
theorem dX8_isSo_64 : decode cX8_isSo 64 = .ok (.aload_n 0, 1) := dX8_isSo_r64.1
theorem dX8_isSo_65 : decode cX8_isSo 65 = .ok (.getfield 171, 3) := dX8_isSo_r64.2.1
theorem dX8_isSo_68 : decode cX8_isSo 68 = .ok (.iconst 3, 1) := dX8_isSo_r64.2.2.1
theorem dX8_isSo_69 : decode cX8_isSo 69 = .ok (.if_icmp .gt 7, 3) := dX8_isSo_r64.2.2.2.1
theorem dX8_isSo_72 : decode cX8_isSo 72 = .ok (.iconst 1, 1) := dX8_isSo_r64.2.2.2.2.1
theorem dX8_isSo_73 : decode cX8_isSo 73 = .ok (.goto 4, 3) := dX8_isSo_r64.2.2.2.2.2.1
theorem dX8_isSo_76 : decode cX8_isSo 76 = .ok (.iconst 0, 1) := dX8_isSo_r64.2.2.2.2.2.2.1
theorem dX8_isSo_77 : decode cX8_isSo 77 = .ok (.ireturn, 1) := dX8_isSo_r64.2.2.2.2.2.2.2.1
theorem dX8_isSo_78 : decode cX8_isSo 78 = .ok (.aload_n 0, 1) := dX8_isSo_r64.2.2.2.2.2.2.2.2.1
theorem dX8_isSo_79 : decode cX8_isSo 79 = .ok (.getfield 171, 3) := dX8_isSo_r64.2.2.2.2.2.2.2.2.2.1
theorem dX8_isSo_82 : decode cX8_isSo 82 = .ok (.iload_n 2, 1) := dX8_isSo_r64.2.2.2.2.2.2.2.2.2.2.1
theorem dX8_isSo_83 : decode cX8_isSo 83 = .ok (.ifCond .ne 8, 3) := dX8_isSo_r64.2.2.2.2.2.2.2.2.2.2.2.1
theorem dX8_isSo_86 : decode cX8_isSo 86 = .ok (.bipush 6, 2) := dX8_isSo_r64.2.2.2.2.2.2.2.2.2.2.2.2.1
theorem dX8_isSo_88 : decode cX8_isSo 88 = .ok (.goto 5, 3) := dX8_isSo_r64.2.2.2.2.2.2.2.2.2.2.2.2.2.1
theorem dX8_isSo_91 : decode cX8_isSo 91 = .ok (.bipush 9, 2) := dX8_isSo_r64.2.2.2.2.2.2.2.2.2.2.2.2.2.2.1
theorem dX8_isSo_93 : decode cX8_isSo 93 = .ok (.if_icmp .gt 7, 3) := dX8_isSo_r64.2.2.2.2.2.2.2.2.2.2.2.2.2.2.2.1
theorem dX8_isSo_r96 : zdcP cX8_isSo 96 [(.iconst 1, 1), (.goto 4, 3), (.iconst 0, 1), (.ireturn, 1), (.iload_n 2, 1), (.iconst 1, 1), (.if_icmp .eq 14, 3), (.aload_n 0, 1), (.getfield 171, 3), (.aload_n 0, 1), (.getfield 105, 3), (.if_icmp .ge 7, 3), (.iconst 1, 1), (.goto 4, 3), (.iconst 0, 1), (.ireturn, 1)] := zdcA_ok (by decide +kernel)
theorem dX8_isSo_96 : decode cX8_isSo 96 = .ok (.iconst 1, 1) := dX8_isSo_r96.1
theorem dX8_isSo_97 : decode cX8_isSo 97 = .ok (.goto 4, 3) := dX8_isSo_r96.2.1
theorem dX8_isSo_100 : decode cX8_isSo 100 = .ok (.iconst 0, 1) := dX8_isSo_r96.2.2.1
theorem dX8_isSo_101 : decode cX8_isSo 101 = .ok (.ireturn, 1) := dX8_isSo_r96.2.2.2.1
theorem dX8_isSo_102 : decode cX8_isSo 102 = .ok (.iload_n 2, 1) := dX8_isSo_r96.2.2.2.2.1
theorem dX8_isSo_103 : decode cX8_isSo 103 = .ok (.iconst 1, 1) := dX8_isSo_r96.2.2.2.2.2.1
theorem dX8_isSo_104 : decode cX8_isSo 104 = .ok (.if_icmp .eq 14, 3) := dX8_isSo_r96.2.2.2.2.2.2.1
theorem dX8_isSo_107 : decode cX8_isSo 107 = .ok (.aload_n 0, 1) := dX8_isSo_r96.2.2.2.2.2.2.2.1
theorem dX8_isSo_108 : decode cX8_isSo 108 = .ok (.getfield 171, 3) := dX8_isSo_r96.2.2.2.2.2.2.2.2.1
theorem dX8_isSo_111 : decode cX8_isSo 111 = .ok (.aload_n 0, 1) := dX8_isSo_r96.2.2.2.2.2.2.2.2.2.1
theorem dX8_isSo_112 : decode cX8_isSo 112 = .ok (.getfield 105, 3) := dX8_isSo_r96.2.2.2.2.2.2.2.2.2.2.1
theorem dX8_isSo_115 : decode cX8_isSo 115 = .ok (.if_icmp .ge 7, 3) := dX8_isSo_r96.2.2.2.2.2.2.2.2.2.2.2.1
theorem dX8_isSo_118 : decode cX8_isSo 118 = .ok (.iconst 1, 1) := dX8_isSo_r96.2.2.2.2.2.2.2.2.2.2.2.2.1
theorem dX8_isSo_119 : decode cX8_isSo 119 = .ok (.goto 4, 3) := dX8_isSo_r96.2.2.2.2.2.2.2.2.2.2.2.2.2.1
theorem dX8_isSo_122 : decode cX8_isSo 122 = .ok (.iconst 0, 1) := dX8_isSo_r96.2.2.2.2.2.2.2.2.2.2.2.2.2.2.1
theorem dX8_isSo_123 : decode cX8_isSo 123 = .ok (.ireturn, 1) := dX8_isSo_r96.2.2.2.2.2.2.2.2.2.2.2.2.2.2.2.1
theorem dX8_isSo_r124 : zdcP cX8_isSo 124 [(.aload_n 0, 1), (.getfield 171, 3), (.aload_n 0, 1), (.getfield 105, 3), (.if_icmp .ge 7, 3), (.iconst 1, 1), (.goto 4, 3), (.iconst 0, 1), (.ireturn, 1), (.aload_n 0, 1), (.getfield 171, 3), (.bipush 9, 2), (.if_icmp .gt 18, 3), (.aload_n 0, 1), (.aload_n 0, 1), (.getfield 171, 3)] := zdcA_ok (by decide +kernel)
theorem dX8_isSo_124 : decode cX8_isSo 124 = .ok (.aload_n 0, 1) := dX8_isSo_r124.1
theorem dX8_isSo_125 : decode cX8_isSo 125 = .ok (.getfield 171, 3) := dX8_isSo_r124.2.1
theorem dX8_isSo_128 : decode cX8_isSo 128 = .ok (.aload_n 0, 1) := dX8_isSo_r124.2.2.1
theorem dX8_isSo_129 : decode cX8_isSo 129 = .ok (.getfield 105, 3) := dX8_isSo_r124.2.2.2.1
theorem dX8_isSo_132 : decode cX8_isSo 132 = .ok (.if_icmp .ge 7, 3) := dX8_isSo_r124.2.2.2.2.1
theorem dX8_isSo_135 : decode cX8_isSo 135 = .ok (.iconst 1, 1) := dX8_isSo_r124.2.2.2.2.2.1
theorem dX8_isSo_136 : decode cX8_isSo 136 = .ok (.goto 4, 3) := dX8_isSo_r124.2.2.2.2.2.2.1
theorem dX8_isSo_139 : decode cX8_isSo 139 = .ok (.iconst 0, 1) := dX8_isSo_r124.2.2.2.2.2.2.2.1
theorem dX8_isSo_140 : decode cX8_isSo 140 = .ok (.ireturn, 1) := dX8_isSo_r124.2.2.2.2.2.2.2.2.1
theorem dX8_isSo_141 : decode cX8_isSo 141 = .ok (.aload_n 0, 1) := dX8_isSo_r124.2.2.2.2.2.2.2.2.2.1
theorem dX8_isSo_142 : decode cX8_isSo 142 = .ok (.getfield 171, 3) := dX8_isSo_r124.2.2.2.2.2.2.2.2.2.2.1
theorem dX8_isSo_145 : decode cX8_isSo 145 = .ok (.bipush 9, 2) := dX8_isSo_r124.2.2.2.2.2.2.2.2.2.2.2.1
theorem dX8_isSo_147 : decode cX8_isSo 147 = .ok (.if_icmp .gt 18, 3) := dX8_isSo_r124.2.2.2.2.2.2.2.2.2.2.2.2.1
theorem dX8_isSo_150 : decode cX8_isSo 150 = .ok (.aload_n 0, 1) := dX8_isSo_r124.2.2.2.2.2.2.2.2.2.2.2.2.2.1
theorem dX8_isSo_151 : decode cX8_isSo 151 = .ok (.aload_n 0, 1) := dX8_isSo_r124.2.2.2.2.2.2.2.2.2.2.2.2.2.2.1
theorem dX8_isSo_152 : decode cX8_isSo 152 = .ok (.getfield 171, 3) := dX8_isSo_r124.2.2.2.2.2.2.2.2.2.2.2.2.2.2.2.1
theorem dX8_isSo_r155 : zdcP cX8_isSo 155 [(.invokevirtual 180, 3), (.ifCond .eq 7, 3), (.iconst 1, 1), (.goto 4, 3), (.iconst 0, 1), (.ireturn, 1), (.aload_n 0, 1), (.iload_n 1, 1), (.bipush 6, 2), (.isub, 1), (.aload_n 0, 1), (.getfield 171, 3), (.invokevirtual 152, 3), (.ireturn, 1)] := zdcA_ok (by decide +kernel)
theorem dX8_isSo_155 : decode cX8_isSo 155 = .ok (.invokevirtual 180, 3) := dX8_isSo_r155.1
theorem dX8_isSo_158 : decode cX8_isSo 158 = .ok (.ifCond .eq 7, 3) := dX8_isSo_r155.2.1
theorem dX8_isSo_161 : decode cX8_isSo 161 = .ok (.iconst 1, 1) := dX8_isSo_r155.2.2.1
theorem dX8_isSo_162 : decode cX8_isSo 162 = .ok (.goto 4, 3) := dX8_isSo_r155.2.2.2.1
theorem dX8_isSo_165 : decode cX8_isSo 165 = .ok (.iconst 0, 1) := dX8_isSo_r155.2.2.2.2.1
theorem dX8_isSo_166 : decode cX8_isSo 166 = .ok (.ireturn, 1) := dX8_isSo_r155.2.2.2.2.2.1
theorem dX8_isSo_167 : decode cX8_isSo 167 = .ok (.aload_n 0, 1) := dX8_isSo_r155.2.2.2.2.2.2.1
theorem dX8_isSo_168 : decode cX8_isSo 168 = .ok (.iload_n 1, 1) := dX8_isSo_r155.2.2.2.2.2.2.2.1
theorem dX8_isSo_169 : decode cX8_isSo 169 = .ok (.bipush 6, 2) := dX8_isSo_r155.2.2.2.2.2.2.2.2.1
theorem dX8_isSo_171 : decode cX8_isSo 171 = .ok (.isub, 1) := dX8_isSo_r155.2.2.2.2.2.2.2.2.2.1
theorem dX8_isSo_172 : decode cX8_isSo 172 = .ok (.aload_n 0, 1) := dX8_isSo_r155.2.2.2.2.2.2.2.2.2.2.1
theorem dX8_isSo_173 : decode cX8_isSo 173 = .ok (.getfield 171, 3) := dX8_isSo_r155.2.2.2.2.2.2.2.2.2.2.2.1
theorem dX8_isSo_176 : decode cX8_isSo 176 = .ok (.invokevirtual 152, 3) := dX8_isSo_r155.2.2.2.2.2.2.2.2.2.2.2.2.1
theorem dX8_isSo_179 : decode cX8_isSo 179 = .ok (.ireturn, 1) := dX8_isSo_r155.2.2.2.2.2.2.2.2.2.2.2.2.2.1
def wp_158 (v1 : Int32) (v2 : Int32) (m : zf_Me) (Q : Bool → zf_Me → Prop) : Prop := (((v1.toInt < 0 ∨ v1.toInt > 11) → wp_146 (v1 - 6) (m.1 63 32) m (fun b1 m2 => Q b1 m2)) ∧ (v1.toInt = 0 → ((((m.1 63 32)).toInt > 3 → Q false m) ∧ (((m.1 63 32)).toInt ≤ 3 → Q true m))) ∧ (v1.toInt = 1 → ((((m.1 63 32)).toInt > 3 → Q false m) ∧ (((m.1 63 32)).toInt ≤ 3 → Q true m))) ∧ (v1.toInt = 2 → wp_146 (v1 - 6) (m.1 63 32) m (fun b3 m4 => Q b3 m4)) ∧ (v1.toInt = 3 → ((¬ v2.toInt = 0 → ((((m.1 63 32)).toInt > 9 → Q false m) ∧ (((m.1 63 32)).toInt ≤ 9 → Q true m))) ∧ (v2.toInt = 0 → ((((m.1 63 32)).toInt > 6 → Q false m) ∧ (((m.1 63 32)).toInt ≤ 6 → Q true m))))) ∧ (v1.toInt = 4 → ((v2.toInt = 1 → Q true m) ∧ (¬ v2.toInt = 1 → ((((m.1 63 32)).toInt ≥ ((m.1 63 1)).toInt → Q false m) ∧ (((m.1 63 32)).toInt < ((m.1 63 1)).toInt → Q true m))))) ∧ (v1.toInt = 5 → ((((m.1 63 32)).toInt ≥ ((m.1 63 1)).toInt → Q false m) ∧ (((m.1 63 32)).toInt < ((m.1 63 1)).toInt → Q true m))) ∧ (v1.toInt = 6 → wp_146 (v1 - 6) (m.1 63 32) m (fun b5 m6 => Q b5 m6)) ∧ (v1.toInt = 7 → wp_146 (v1 - 6) (m.1 63 32) m (fun b7 m8 => Q b7 m8)) ∧ (v1.toInt = 8 → wp_146 (v1 - 6) (m.1 63 32) m (fun b9 m10 => Q b9 m10)) ∧ (v1.toInt = 9 → wp_146 (v1 - 6) (m.1 63 32) m (fun b11 m12 => Q b11 m12)) ∧ (v1.toInt = 10 → wp_146 (v1 - 6) (m.1 63 32) m (fun b13 m14 => Q b13 m14)) ∧ (v1.toInt = 11 → ((((m.1 63 32)).toInt > 9 → Q false m) ∧ (((m.1 63 32)).toInt ≤ 9 → wp_167 (m.1 63 32) m (fun b15 m16 => ((b15 = false → Q false m16) ∧ (b15 = true → Q true m16)))))))
theorem zr_158 {d : Nat} (hd : 3 ≤ d) {v1 : Int32} {v2 : Int32} {Q : Bool → zf_Me → Prop} {m : zf_Me} (h : wp_158 v1 v2 m Q) : zf_M d 158 [.inr (.inr (1, 63)), .inl v1, .inl v2] m (zf_B Q) := by
  obtain ⟨e, rfl⟩ : ∃ z, d = z + 1 := ⟨d - 1, by omega⟩
  unfold wp_158 at h
  refine zf_M_of (Nat.le_of_ble_eq_true rfl) zm_158 (L := [some (.inr (.inr (1, 63))), some (.inl v1), some (.inl v2)]) rfl ?_
  refine zf_ld (pc' := 1) (v := .inl v1) dX8_isSo_0 rfl (fun _ _ _ => rfl) rfl rfl rfl ?_
  refine zf_tsc (tgd := 167) dX8_isSo_1 rfl [64, 64, 167, 78, 102, 124, 167, 167, 167, 167, 167, 141] (by decide) (by decide) (fun g => ?_) (zl_cons (fun g => ?_) (zl_cons (fun g => ?_) (zl_cons (fun g => ?_) (zl_cons (fun g => ?_) (zl_cons (fun g => ?_) (zl_cons (fun g => ?_) (zl_cons (fun g => ?_) (zl_cons (fun g => ?_) (zl_cons (fun g => ?_) (zl_cons (fun g => ?_) (zl_cons (fun g => ?_) (zl_cons (fun g => ?_) (zl_nil)))))))))))))
  · replace h := h.1 (by omega)
    refine zf_ld (pc' := 168) (v := .inr (.inr (1, 63))) dX8_isSo_167 rfl (fun _ _ _ => rfl) rfl rfl rfl ?_
    refine zf_ld (pc' := 169) (v := .inl v1) dX8_isSo_168 rfl (fun _ _ _ => rfl) rfl rfl rfl ?_
    refine zf_bi (v := 6) (pc' := 171) dX8_isSo_169 rfl rfl ?_
    refine zf_in (pc' := 172) (S' := [.inl (v1 - 6), .inr (.inr (1, 63))]) dX8_isSo_171 rfl (fun _ _ _ => rfl) ?_
    refine zf_ld (pc' := 173) (v := .inr (.inr (1, 63))) dX8_isSo_172 rfl (fun _ _ _ => rfl) rfl rfl rfl ?_
    refine zf_gfi (pc' := 176) dX8_isSo_173 rfl rfl (by decide) rfl rfl ?_
    refine zf_iv (k := 146) (pc' := 179) (r := []) dX8_isSo_176 rfl rfl rfl rfl (by decide) rfl rfl rfl (zr_146 (by omega) h) (zf_kB (fun b1 m2 h => ?_))
    exact zf_rb (b := b1) dX8_isSo_179 rfl h
  · replace h := h.2.1 (by omega)
    refine zf_ld (pc' := 65) (v := .inr (.inr (1, 63))) dX8_isSo_64 rfl (fun _ _ _ => rfl) rfl rfl rfl ?_
    refine zf_gfi (pc' := 68) dX8_isSo_65 rfl rfl (by decide) rfl rfl ?_
    refine zf_ic (v := 3) (pc' := 69) dX8_isSo_68 rfl rfl ?_
    refine zf_icmp_gt (tgt := 76) (pc' := 72) dX8_isSo_69 rfl rfl (fun g => ?_) (fun g => ?_)
    · replace h := h.1 g
      refine zf_ic (v := 0) (pc' := 77) dX8_isSo_76 rfl rfl ?_
      exact zf_rb (b := false) dX8_isSo_77 rfl h
    · replace h := h.2 g
      refine zf_ic (v := 1) (pc' := 73) dX8_isSo_72 rfl rfl ?_
      refine zf_goto (tgt := 77) dX8_isSo_73 rfl ?_
      exact zf_rb (b := true) dX8_isSo_77 rfl h
  · replace h := h.2.2.1 (by omega)
    refine zf_ld (pc' := 65) (v := .inr (.inr (1, 63))) dX8_isSo_64 rfl (fun _ _ _ => rfl) rfl rfl rfl ?_
    refine zf_gfi (pc' := 68) dX8_isSo_65 rfl rfl (by decide) rfl rfl ?_
    refine zf_ic (v := 3) (pc' := 69) dX8_isSo_68 rfl rfl ?_
    refine zf_icmp_gt (tgt := 76) (pc' := 72) dX8_isSo_69 rfl rfl (fun g => ?_) (fun g => ?_)
    · replace h := h.1 g
      refine zf_ic (v := 0) (pc' := 77) dX8_isSo_76 rfl rfl ?_
      exact zf_rb (b := false) dX8_isSo_77 rfl h
    · replace h := h.2 g
      refine zf_ic (v := 1) (pc' := 73) dX8_isSo_72 rfl rfl ?_
      refine zf_goto (tgt := 77) dX8_isSo_73 rfl ?_
      exact zf_rb (b := true) dX8_isSo_77 rfl h
  · replace h := h.2.2.2.1 (by omega)
    refine zf_ld (pc' := 168) (v := .inr (.inr (1, 63))) dX8_isSo_167 rfl (fun _ _ _ => rfl) rfl rfl rfl ?_
    refine zf_ld (pc' := 169) (v := .inl v1) dX8_isSo_168 rfl (fun _ _ _ => rfl) rfl rfl rfl ?_
    refine zf_bi (v := 6) (pc' := 171) dX8_isSo_169 rfl rfl ?_
    refine zf_in (pc' := 172) (S' := [.inl (v1 - 6), .inr (.inr (1, 63))]) dX8_isSo_171 rfl (fun _ _ _ => rfl) ?_
    refine zf_ld (pc' := 173) (v := .inr (.inr (1, 63))) dX8_isSo_172 rfl (fun _ _ _ => rfl) rfl rfl rfl ?_
    refine zf_gfi (pc' := 176) dX8_isSo_173 rfl rfl (by decide) rfl rfl ?_
    refine zf_iv (k := 146) (pc' := 179) (r := []) dX8_isSo_176 rfl rfl rfl rfl (by decide) rfl rfl rfl (zr_146 (by omega) h) (zf_kB (fun b3 m4 h => ?_))
    exact zf_rb (b := b3) dX8_isSo_179 rfl h
  · replace h := h.2.2.2.2.1 (by omega)
    refine zf_ld (pc' := 79) (v := .inr (.inr (1, 63))) dX8_isSo_78 rfl (fun _ _ _ => rfl) rfl rfl rfl ?_
    refine zf_gfi (pc' := 82) dX8_isSo_79 rfl rfl (by decide) rfl rfl ?_
    refine zf_ld (pc' := 83) (v := .inl v2) dX8_isSo_82 rfl (fun _ _ _ => rfl) rfl rfl rfl ?_
    refine zf_if_ne (tgt := 91) (pc' := 86) dX8_isSo_83 rfl rfl (fun g => ?_) (fun g => ?_)
    · replace h := h.1 g
      refine zf_bi (v := 9) (pc' := 93) dX8_isSo_91 rfl rfl ?_
      refine zf_icmp_gt (tgt := 100) (pc' := 96) dX8_isSo_93 rfl rfl (fun g => ?_) (fun g => ?_)
      · replace h := h.1 g
        refine zf_ic (v := 0) (pc' := 101) dX8_isSo_100 rfl rfl ?_
        exact zf_rb (b := false) dX8_isSo_101 rfl h
      · replace h := h.2 g
        refine zf_ic (v := 1) (pc' := 97) dX8_isSo_96 rfl rfl ?_
        refine zf_goto (tgt := 101) dX8_isSo_97 rfl ?_
        exact zf_rb (b := true) dX8_isSo_101 rfl h
    · replace h := h.2 g
      refine zf_bi (v := 6) (pc' := 88) dX8_isSo_86 rfl rfl ?_
      refine zf_goto (tgt := 93) dX8_isSo_88 rfl ?_
      refine zf_icmp_gt (tgt := 100) (pc' := 96) dX8_isSo_93 rfl rfl (fun g => ?_) (fun g => ?_)
      · replace h := h.1 g
        refine zf_ic (v := 0) (pc' := 101) dX8_isSo_100 rfl rfl ?_
        exact zf_rb (b := false) dX8_isSo_101 rfl h
      · replace h := h.2 g
        refine zf_ic (v := 1) (pc' := 97) dX8_isSo_96 rfl rfl ?_
        refine zf_goto (tgt := 101) dX8_isSo_97 rfl ?_
        exact zf_rb (b := true) dX8_isSo_101 rfl h
  · replace h := h.2.2.2.2.2.1 (by omega)
    refine zf_ld (pc' := 103) (v := .inl v2) dX8_isSo_102 rfl (fun _ _ _ => rfl) rfl rfl rfl ?_
    refine zf_ic (v := 1) (pc' := 104) dX8_isSo_103 rfl rfl ?_
    refine zf_icmp_eq (tgt := 118) (pc' := 107) dX8_isSo_104 rfl rfl (fun g => ?_) (fun g => ?_)
    · replace h := h.1 g
      refine zf_ic (v := 1) (pc' := 119) dX8_isSo_118 rfl rfl ?_
      refine zf_goto (tgt := 123) dX8_isSo_119 rfl ?_
      exact zf_rb (b := true) dX8_isSo_123 rfl h
    · replace h := h.2 g
      refine zf_ld (pc' := 108) (v := .inr (.inr (1, 63))) dX8_isSo_107 rfl (fun _ _ _ => rfl) rfl rfl rfl ?_
      refine zf_gfi (pc' := 111) dX8_isSo_108 rfl rfl (by decide) rfl rfl ?_
      refine zf_ld (pc' := 112) (v := .inr (.inr (1, 63))) dX8_isSo_111 rfl (fun _ _ _ => rfl) rfl rfl rfl ?_
      refine zf_gfi (pc' := 115) dX8_isSo_112 rfl rfl (by decide) rfl rfl ?_
      refine zf_icmp_ge (tgt := 122) (pc' := 118) dX8_isSo_115 rfl rfl (fun g => ?_) (fun g => ?_)
      · replace h := h.1 g
        refine zf_ic (v := 0) (pc' := 123) dX8_isSo_122 rfl rfl ?_
        exact zf_rb (b := false) dX8_isSo_123 rfl h
      · replace h := h.2 g
        refine zf_ic (v := 1) (pc' := 119) dX8_isSo_118 rfl rfl ?_
        refine zf_goto (tgt := 123) dX8_isSo_119 rfl ?_
        exact zf_rb (b := true) dX8_isSo_123 rfl h
  · replace h := h.2.2.2.2.2.2.1 (by omega)
    refine zf_ld (pc' := 125) (v := .inr (.inr (1, 63))) dX8_isSo_124 rfl (fun _ _ _ => rfl) rfl rfl rfl ?_
    refine zf_gfi (pc' := 128) dX8_isSo_125 rfl rfl (by decide) rfl rfl ?_
    refine zf_ld (pc' := 129) (v := .inr (.inr (1, 63))) dX8_isSo_128 rfl (fun _ _ _ => rfl) rfl rfl rfl ?_
    refine zf_gfi (pc' := 132) dX8_isSo_129 rfl rfl (by decide) rfl rfl ?_
    refine zf_icmp_ge (tgt := 139) (pc' := 135) dX8_isSo_132 rfl rfl (fun g => ?_) (fun g => ?_)
    · replace h := h.1 g
      refine zf_ic (v := 0) (pc' := 140) dX8_isSo_139 rfl rfl ?_
      exact zf_rb (b := false) dX8_isSo_140 rfl h
    · replace h := h.2 g
      refine zf_ic (v := 1) (pc' := 136) dX8_isSo_135 rfl rfl ?_
      refine zf_goto (tgt := 140) dX8_isSo_136 rfl ?_
      exact zf_rb (b := true) dX8_isSo_140 rfl h
  · replace h := h.2.2.2.2.2.2.2.1 (by omega)
    refine zf_ld (pc' := 168) (v := .inr (.inr (1, 63))) dX8_isSo_167 rfl (fun _ _ _ => rfl) rfl rfl rfl ?_
    refine zf_ld (pc' := 169) (v := .inl v1) dX8_isSo_168 rfl (fun _ _ _ => rfl) rfl rfl rfl ?_
    refine zf_bi (v := 6) (pc' := 171) dX8_isSo_169 rfl rfl ?_
    refine zf_in (pc' := 172) (S' := [.inl (v1 - 6), .inr (.inr (1, 63))]) dX8_isSo_171 rfl (fun _ _ _ => rfl) ?_
    refine zf_ld (pc' := 173) (v := .inr (.inr (1, 63))) dX8_isSo_172 rfl (fun _ _ _ => rfl) rfl rfl rfl ?_
    refine zf_gfi (pc' := 176) dX8_isSo_173 rfl rfl (by decide) rfl rfl ?_
    refine zf_iv (k := 146) (pc' := 179) (r := []) dX8_isSo_176 rfl rfl rfl rfl (by decide) rfl rfl rfl (zr_146 (by omega) h) (zf_kB (fun b5 m6 h => ?_))
    exact zf_rb (b := b5) dX8_isSo_179 rfl h
  · replace h := h.2.2.2.2.2.2.2.2.1 (by omega)
    refine zf_ld (pc' := 168) (v := .inr (.inr (1, 63))) dX8_isSo_167 rfl (fun _ _ _ => rfl) rfl rfl rfl ?_
    refine zf_ld (pc' := 169) (v := .inl v1) dX8_isSo_168 rfl (fun _ _ _ => rfl) rfl rfl rfl ?_
    refine zf_bi (v := 6) (pc' := 171) dX8_isSo_169 rfl rfl ?_
    refine zf_in (pc' := 172) (S' := [.inl (v1 - 6), .inr (.inr (1, 63))]) dX8_isSo_171 rfl (fun _ _ _ => rfl) ?_
    refine zf_ld (pc' := 173) (v := .inr (.inr (1, 63))) dX8_isSo_172 rfl (fun _ _ _ => rfl) rfl rfl rfl ?_
    refine zf_gfi (pc' := 176) dX8_isSo_173 rfl rfl (by decide) rfl rfl ?_
    refine zf_iv (k := 146) (pc' := 179) (r := []) dX8_isSo_176 rfl rfl rfl rfl (by decide) rfl rfl rfl (zr_146 (by omega) h) (zf_kB (fun b7 m8 h => ?_))
    exact zf_rb (b := b7) dX8_isSo_179 rfl h
  · replace h := h.2.2.2.2.2.2.2.2.2.1 (by omega)
    refine zf_ld (pc' := 168) (v := .inr (.inr (1, 63))) dX8_isSo_167 rfl (fun _ _ _ => rfl) rfl rfl rfl ?_
    refine zf_ld (pc' := 169) (v := .inl v1) dX8_isSo_168 rfl (fun _ _ _ => rfl) rfl rfl rfl ?_
    refine zf_bi (v := 6) (pc' := 171) dX8_isSo_169 rfl rfl ?_
    refine zf_in (pc' := 172) (S' := [.inl (v1 - 6), .inr (.inr (1, 63))]) dX8_isSo_171 rfl (fun _ _ _ => rfl) ?_
    refine zf_ld (pc' := 173) (v := .inr (.inr (1, 63))) dX8_isSo_172 rfl (fun _ _ _ => rfl) rfl rfl rfl ?_
    refine zf_gfi (pc' := 176) dX8_isSo_173 rfl rfl (by decide) rfl rfl ?_
    refine zf_iv (k := 146) (pc' := 179) (r := []) dX8_isSo_176 rfl rfl rfl rfl (by decide) rfl rfl rfl (zr_146 (by omega) h) (zf_kB (fun b9 m10 h => ?_))
    exact zf_rb (b := b9) dX8_isSo_179 rfl h
  · replace h := h.2.2.2.2.2.2.2.2.2.2.1 (by omega)
    refine zf_ld (pc' := 168) (v := .inr (.inr (1, 63))) dX8_isSo_167 rfl (fun _ _ _ => rfl) rfl rfl rfl ?_
    refine zf_ld (pc' := 169) (v := .inl v1) dX8_isSo_168 rfl (fun _ _ _ => rfl) rfl rfl rfl ?_
    refine zf_bi (v := 6) (pc' := 171) dX8_isSo_169 rfl rfl ?_
    refine zf_in (pc' := 172) (S' := [.inl (v1 - 6), .inr (.inr (1, 63))]) dX8_isSo_171 rfl (fun _ _ _ => rfl) ?_
    refine zf_ld (pc' := 173) (v := .inr (.inr (1, 63))) dX8_isSo_172 rfl (fun _ _ _ => rfl) rfl rfl rfl ?_
    refine zf_gfi (pc' := 176) dX8_isSo_173 rfl rfl (by decide) rfl rfl ?_
    refine zf_iv (k := 146) (pc' := 179) (r := []) dX8_isSo_176 rfl rfl rfl rfl (by decide) rfl rfl rfl (zr_146 (by omega) h) (zf_kB (fun b11 m12 h => ?_))
    exact zf_rb (b := b11) dX8_isSo_179 rfl h
  · replace h := h.2.2.2.2.2.2.2.2.2.2.2.1 (by omega)
    refine zf_ld (pc' := 168) (v := .inr (.inr (1, 63))) dX8_isSo_167 rfl (fun _ _ _ => rfl) rfl rfl rfl ?_
    refine zf_ld (pc' := 169) (v := .inl v1) dX8_isSo_168 rfl (fun _ _ _ => rfl) rfl rfl rfl ?_
    refine zf_bi (v := 6) (pc' := 171) dX8_isSo_169 rfl rfl ?_
    refine zf_in (pc' := 172) (S' := [.inl (v1 - 6), .inr (.inr (1, 63))]) dX8_isSo_171 rfl (fun _ _ _ => rfl) ?_
    refine zf_ld (pc' := 173) (v := .inr (.inr (1, 63))) dX8_isSo_172 rfl (fun _ _ _ => rfl) rfl rfl rfl ?_
    refine zf_gfi (pc' := 176) dX8_isSo_173 rfl rfl (by decide) rfl rfl ?_
    refine zf_iv (k := 146) (pc' := 179) (r := []) dX8_isSo_176 rfl rfl rfl rfl (by decide) rfl rfl rfl (zr_146 (by omega) h) (zf_kB (fun b13 m14 h => ?_))
    exact zf_rb (b := b13) dX8_isSo_179 rfl h
  · replace h := h.2.2.2.2.2.2.2.2.2.2.2.2 (by omega)
    refine zf_ld (pc' := 142) (v := .inr (.inr (1, 63))) dX8_isSo_141 rfl (fun _ _ _ => rfl) rfl rfl rfl ?_
    refine zf_gfi (pc' := 145) dX8_isSo_142 rfl rfl (by decide) rfl rfl ?_
    refine zf_bi (v := 9) (pc' := 147) dX8_isSo_145 rfl rfl ?_
    refine zf_icmp_gt (tgt := 165) (pc' := 150) dX8_isSo_147 rfl rfl (fun g => ?_) (fun g => ?_)
    · replace h := h.1 g
      refine zf_ic (v := 0) (pc' := 166) dX8_isSo_165 rfl rfl ?_
      exact zf_rb (b := false) dX8_isSo_166 rfl h
    · replace h := h.2 g
      refine zf_ld (pc' := 151) (v := .inr (.inr (1, 63))) dX8_isSo_150 rfl (fun _ _ _ => rfl) rfl rfl rfl ?_
      refine zf_ld (pc' := 152) (v := .inr (.inr (1, 63))) dX8_isSo_151 rfl (fun _ _ _ => rfl) rfl rfl rfl ?_
      refine zf_gfi (pc' := 155) dX8_isSo_152 rfl rfl (by decide) rfl rfl ?_
      refine zf_iv (k := 167) (pc' := 158) (r := []) dX8_isSo_155 rfl rfl rfl rfl (by decide) rfl rfl rfl (zr_167 (by omega) h) (zf_kB (fun b15 m16 h => ?_))
      refine zf_ib_eq (tgt := 165) (pc' := 161) dX8_isSo_158 rfl rfl (fun g => ?_) (fun g => ?_)
      · replace h := h.1 g
        refine zf_ic (v := 0) (pc' := 166) dX8_isSo_165 rfl rfl ?_
        exact zf_rb (b := false) dX8_isSo_166 rfl h
      · replace h := h.2 g
        refine zf_ic (v := 1) (pc' := 162) dX8_isSo_161 rfl rfl ?_
        refine zf_goto (tgt := 166) dX8_isSo_162 rfl ?_
        exact zf_rb (b := true) dX8_isSo_166 rfl h
def zt_168 : zx_MT := (8, yX8_rests, cX8_rests, 3, none, 2, 0)
theorem zm_168 : zx_m 168 = zt_168 := rfl
theorem dX8_rests_r0 : zdcP cX8_rests 0 [(.aload_n 0, 1), (.getfield 53, 3), (.iload_n 1, 1), (.aload_n 0, 1), (.getfield 53, 3), (.iload_n 1, 1), (.iaload, 1), (.iload_n 2, 1), (.if_icmp .le 14, 3), (.aload_n 0, 1), (.getfield 53, 3), (.iload_n 1, 1), (.iaload, 1), (.iload_n 2, 1), (.isub, 1), (.goto 4, 3)] := zdcA_ok (by decide +kernel)
theorem dX8_rests_0 : decode cX8_rests 0 = .ok (.aload_n 0, 1) := dX8_rests_r0.1
theorem dX8_rests_1 : decode cX8_rests 1 = .ok (.getfield 53, 3) := dX8_rests_r0.2.1
theorem dX8_rests_4 : decode cX8_rests 4 = .ok (.iload_n 1, 1) := dX8_rests_r0.2.2.1
theorem dX8_rests_5 : decode cX8_rests 5 = .ok (.aload_n 0, 1) := dX8_rests_r0.2.2.2.1
theorem dX8_rests_6 : decode cX8_rests 6 = .ok (.getfield 53, 3) := dX8_rests_r0.2.2.2.2.1
theorem dX8_rests_9 : decode cX8_rests 9 = .ok (.iload_n 1, 1) := dX8_rests_r0.2.2.2.2.2.1
theorem dX8_rests_10 : decode cX8_rests 10 = .ok (.iaload, 1) := dX8_rests_r0.2.2.2.2.2.2.1
theorem dX8_rests_11 : decode cX8_rests 11 = .ok (.iload_n 2, 1) := dX8_rests_r0.2.2.2.2.2.2.2.1
theorem dX8_rests_12 : decode cX8_rests 12 = .ok (.if_icmp .le 14, 3) := dX8_rests_r0.2.2.2.2.2.2.2.2.1
theorem dX8_rests_15 : decode cX8_rests 15 = .ok (.aload_n 0, 1) := dX8_rests_r0.2.2.2.2.2.2.2.2.2.1
theorem dX8_rests_16 : decode cX8_rests 16 = .ok (.getfield 53, 3) := dX8_rests_r0.2.2.2.2.2.2.2.2.2.2.1
theorem dX8_rests_19 : decode cX8_rests 19 = .ok (.iload_n 1, 1) := dX8_rests_r0.2.2.2.2.2.2.2.2.2.2.2.1
theorem dX8_rests_20 : decode cX8_rests 20 = .ok (.iaload, 1) := dX8_rests_r0.2.2.2.2.2.2.2.2.2.2.2.2.1
theorem dX8_rests_21 : decode cX8_rests 21 = .ok (.iload_n 2, 1) := dX8_rests_r0.2.2.2.2.2.2.2.2.2.2.2.2.2.1
theorem dX8_rests_22 : decode cX8_rests 22 = .ok (.isub, 1) := dX8_rests_r0.2.2.2.2.2.2.2.2.2.2.2.2.2.2.1
theorem dX8_rests_23 : decode cX8_rests 23 = .ok (.goto 4, 3) := dX8_rests_r0.2.2.2.2.2.2.2.2.2.2.2.2.2.2.2.1
theorem dX8_rests_r26 : zdcP cX8_rests 26 [(.iconst 0, 1), (.iastore, 1), (.return_, 1)] := zdcA_ok (by decide +kernel)
theorem dX8_rests_26 : decode cX8_rests 26 = .ok (.iconst 0, 1) := dX8_rests_r26.1
theorem dX8_rests_27 : decode cX8_rests 27 = .ok (.iastore, 1) := dX8_rests_r26.2.1
theorem dX8_rests_28 : decode cX8_rests 28 = .ok (.return_, 1) := dX8_rests_r26.2.2.1
def wp_168 (v1 : Int32) (v2 : Int32) (m : zf_Me) (Q : zf_Me → Prop) : Prop := ((0 ≤ (Int32.toInt v1) ∧ (Int32.toInt v1) < (6 : Int)) ∧ ((((m.1 69 (Int32.toInt v1).toNat)).toInt ≤ v2.toInt → ((0 ≤ (Int32.toInt v1) ∧ (Int32.toInt v1) < (6 : Int)) ∧ ∀ m1, m1 = zf_u m 69 (Int32.toInt v1).toNat 0 → Q m1)) ∧ (((m.1 69 (Int32.toInt v1).toNat)).toInt > v2.toInt → ((0 ≤ (Int32.toInt v1) ∧ (Int32.toInt v1) < (6 : Int)) ∧ ((0 ≤ (Int32.toInt v1) ∧ (Int32.toInt v1) < (6 : Int)) ∧ ∀ m3, m3 = zf_u m 69 (Int32.toInt v1).toNat ((m.1 69 (Int32.toInt v1).toNat) - v2) → Q m3)))))
theorem zr_168 {d : Nat} (hd : 0 ≤ d) {v1 : Int32} {v2 : Int32} {Q : zf_Me → Prop} {m : zf_Me} (h : wp_168 v1 v2 m Q) : zf_M d 168 [.inr (.inr (1, 63)), .inl v1, .inl v2] m (zf_O Q) := by
  unfold wp_168 at h
  refine zf_M_of (Nat.le_of_ble_eq_true rfl) zm_168 (L := [some (.inr (.inr (1, 63))), some (.inl v1), some (.inl v2)]) rfl ?_
  refine zf_ld (pc' := 1) (v := .inr (.inr (1, 63))) dX8_rests_0 rfl (fun _ _ _ => rfl) rfl rfl rfl ?_
  refine zf_gfr (pc' := 4) (b := 69) dX8_rests_1 rfl rfl (by decide) rfl rfl ?_
  refine zf_ld (pc' := 5) (v := .inl v1) dX8_rests_4 rfl (fun _ _ _ => rfl) rfl rfl rfl ?_
  refine zf_ld (pc' := 6) (v := .inr (.inr (1, 63))) dX8_rests_5 rfl (fun _ _ _ => rfl) rfl rfl rfl ?_
  refine zf_gfr (pc' := 9) (b := 69) dX8_rests_6 rfl rfl (by decide) rfl rfl ?_
  refine zf_ld (pc' := 10) (v := .inl v1) dX8_rests_9 rfl (fun _ _ _ => rfl) rfl rfl rfl ?_
  refine zf_ial (pc' := 11) dX8_rests_10 rfl (⟨by decide, rfl⟩ : zf_arr 69 6).1 (⟨by decide, rfl⟩ : zf_arr 69 6).2 h.1 rfl ?_
  replace h := h.2
  refine zf_ld (pc' := 12) (v := .inl v2) dX8_rests_11 rfl (fun _ _ _ => rfl) rfl rfl rfl ?_
  refine zf_icmp_le (tgt := 26) (pc' := 15) dX8_rests_12 rfl rfl (fun g => ?_) (fun g => ?_)
  · replace h := h.1 g
    refine zf_ic (v := 0) (pc' := 27) dX8_rests_26 rfl rfl ?_
    refine zf_ias (pc' := 28) dX8_rests_27 rfl (⟨by decide, rfl⟩ : zf_arr 69 6).1 (⟨by decide, rfl⟩ : zf_arr 69 6).2 h.1 rfl (fun m1 e2 => ?_)
    replace h := h.2 m1 e2
    exact zf_rv dX8_rests_28 rfl h
  · replace h := h.2 g
    refine zf_ld (pc' := 16) (v := .inr (.inr (1, 63))) dX8_rests_15 rfl (fun _ _ _ => rfl) rfl rfl rfl ?_
    refine zf_gfr (pc' := 19) (b := 69) dX8_rests_16 rfl rfl (by decide) rfl rfl ?_
    refine zf_ld (pc' := 20) (v := .inl v1) dX8_rests_19 rfl (fun _ _ _ => rfl) rfl rfl rfl ?_
    refine zf_ial (pc' := 21) dX8_rests_20 rfl (⟨by decide, rfl⟩ : zf_arr 69 6).1 (⟨by decide, rfl⟩ : zf_arr 69 6).2 h.1 rfl ?_
    replace h := h.2
    refine zf_ld (pc' := 22) (v := .inl v2) dX8_rests_21 rfl (fun _ _ _ => rfl) rfl rfl rfl ?_
    refine zf_in (pc' := 23) (S' := [.inl ((m.1 69 (Int32.toInt v1).toNat) - v2), .inl v1, .inr (.inr (1, 69))]) dX8_rests_22 rfl (fun _ _ _ => rfl) ?_
    refine zf_goto (tgt := 27) dX8_rests_23 rfl ?_
    refine zf_ias (pc' := 28) dX8_rests_27 rfl (⟨by decide, rfl⟩ : zf_arr 69 6).1 (⟨by decide, rfl⟩ : zf_arr 69 6).2 h.1 rfl (fun m3 e4 => ?_)
    replace h := h.2 m3 e4
    exact zf_rv dX8_rests_28 rfl h
def zt_169 : zx_MT := (8, yX8_acts, cX8_acts, 5, none, 1, 0)
theorem zm_169 : zx_m 169 = zt_169 := rfl
theorem dX8_acts_r0 : zdcP cX8_acts 0 [(.iload_n 1, 1), (.bipush 9, 2), (.if_icmp .ne 62, 3), (.aload_n 0, 1), (.dup, 1), (.getfield 210, 3), (.bipush 10, 2), (.iadd, 1), (.putfield 210, 3), (.iconst 0, 1), (.istore_n 2, 1), (.iload_n 2, 1), (.aload_n 0, 1), (.getfield 105, 3), (.if_icmp .ge 16, 3), (.aload_n 0, 1)] := zdcA_ok (by decide +kernel)
theorem dX8_acts_0 : decode cX8_acts 0 = .ok (.iload_n 1, 1) := dX8_acts_r0.1
theorem dX8_acts_1 : decode cX8_acts 1 = .ok (.bipush 9, 2) := dX8_acts_r0.2.1
theorem dX8_acts_3 : decode cX8_acts 3 = .ok (.if_icmp .ne 62, 3) := dX8_acts_r0.2.2.1
theorem dX8_acts_6 : decode cX8_acts 6 = .ok (.aload_n 0, 1) := dX8_acts_r0.2.2.2.1
theorem dX8_acts_7 : decode cX8_acts 7 = .ok (.dup, 1) := dX8_acts_r0.2.2.2.2.1
theorem dX8_acts_8 : decode cX8_acts 8 = .ok (.getfield 210, 3) := dX8_acts_r0.2.2.2.2.2.1
theorem dX8_acts_11 : decode cX8_acts 11 = .ok (.bipush 10, 2) := dX8_acts_r0.2.2.2.2.2.2.1
theorem dX8_acts_13 : decode cX8_acts 13 = .ok (.iadd, 1) := dX8_acts_r0.2.2.2.2.2.2.2.1
theorem dX8_acts_14 : decode cX8_acts 14 = .ok (.putfield 210, 3) := dX8_acts_r0.2.2.2.2.2.2.2.2.1
theorem dX8_acts_17 : decode cX8_acts 17 = .ok (.iconst 0, 1) := dX8_acts_r0.2.2.2.2.2.2.2.2.2.1
theorem dX8_acts_18 : decode cX8_acts 18 = .ok (.istore_n 2, 1) := dX8_acts_r0.2.2.2.2.2.2.2.2.2.2.1
theorem dX8_acts_19 : decode cX8_acts 19 = .ok (.iload_n 2, 1) := dX8_acts_r0.2.2.2.2.2.2.2.2.2.2.2.1
theorem dX8_acts_20 : decode cX8_acts 20 = .ok (.aload_n 0, 1) := dX8_acts_r0.2.2.2.2.2.2.2.2.2.2.2.2.1
theorem dX8_acts_21 : decode cX8_acts 21 = .ok (.getfield 105, 3) := dX8_acts_r0.2.2.2.2.2.2.2.2.2.2.2.2.2.1
theorem dX8_acts_24 : decode cX8_acts 24 = .ok (.if_icmp .ge 16, 3) := dX8_acts_r0.2.2.2.2.2.2.2.2.2.2.2.2.2.2.1
theorem dX8_acts_27 : decode cX8_acts 27 = .ok (.aload_n 0, 1) := dX8_acts_r0.2.2.2.2.2.2.2.2.2.2.2.2.2.2.2.1
theorem dX8_acts_r28 : zdcP cX8_acts 28 [(.iload_n 2, 1), (.bipush 6, 2), (.invokevirtual 223, 3), (.iinc 2 1, 3), (.goto (-18), 3), (.aload_n 0, 1), (.iconst 0, 1), (.putfield 204, 3), (.aload_n 0, 1), (.getfield 13, 3), (.aload_n 0, 1), (.getfield 16, 3), (.if_icmp .ge 11, 3), (.aload_n 0, 1), (.aload_n 0, 1), (.getfield 16, 3)] := zdcA_ok (by decide +kernel)
theorem dX8_acts_28 : decode cX8_acts 28 = .ok (.iload_n 2, 1) := dX8_acts_r28.1
theorem dX8_acts_29 : decode cX8_acts 29 = .ok (.bipush 6, 2) := dX8_acts_r28.2.1
theorem dX8_acts_31 : decode cX8_acts 31 = .ok (.invokevirtual 223, 3) := dX8_acts_r28.2.2.1
theorem dX8_acts_34 : decode cX8_acts 34 = .ok (.iinc 2 1, 3) := dX8_acts_r28.2.2.2.1
theorem dX8_acts_37 : decode cX8_acts 37 = .ok (.goto (-18), 3) := dX8_acts_r28.2.2.2.2.1
theorem dX8_acts_40 : decode cX8_acts 40 = .ok (.aload_n 0, 1) := dX8_acts_r28.2.2.2.2.2.1
theorem dX8_acts_41 : decode cX8_acts 41 = .ok (.iconst 0, 1) := dX8_acts_r28.2.2.2.2.2.2.1
theorem dX8_acts_42 : decode cX8_acts 42 = .ok (.putfield 204, 3) := dX8_acts_r28.2.2.2.2.2.2.2.1
theorem dX8_acts_45 : decode cX8_acts 45 = .ok (.aload_n 0, 1) := dX8_acts_r28.2.2.2.2.2.2.2.2.1
theorem dX8_acts_46 : decode cX8_acts 46 = .ok (.getfield 13, 3) := dX8_acts_r28.2.2.2.2.2.2.2.2.2.1
theorem dX8_acts_49 : decode cX8_acts 49 = .ok (.aload_n 0, 1) := dX8_acts_r28.2.2.2.2.2.2.2.2.2.2.1
theorem dX8_acts_50 : decode cX8_acts 50 = .ok (.getfield 16, 3) := dX8_acts_r28.2.2.2.2.2.2.2.2.2.2.2.1
theorem dX8_acts_53 : decode cX8_acts 53 = .ok (.if_icmp .ge 11, 3) := dX8_acts_r28.2.2.2.2.2.2.2.2.2.2.2.2.1
theorem dX8_acts_56 : decode cX8_acts 56 = .ok (.aload_n 0, 1) := dX8_acts_r28.2.2.2.2.2.2.2.2.2.2.2.2.2.1
theorem dX8_acts_57 : decode cX8_acts 57 = .ok (.aload_n 0, 1) := dX8_acts_r28.2.2.2.2.2.2.2.2.2.2.2.2.2.2.1
theorem dX8_acts_58 : decode cX8_acts 58 = .ok (.getfield 16, 3) := dX8_acts_r28.2.2.2.2.2.2.2.2.2.2.2.2.2.2.2.1
theorem dX8_acts_r61 : zdcP cX8_acts 61 [(.putfield 13, 3), (.return_, 1), (.aload_n 0, 1), (.getfield 41, 3), (.aload_n 0, 1), (.getfield 207, 3), (.iaload, 1), (.istore_n 2, 1), (.iload_n 1, 1), (.bipush 6, 2), (.if_icmp .ge 80, 3), (.aload_n 0, 1), (.getfield 53, 3), (.iload_n 1, 1), (.dup2, 1), (.iaload, 1)] := zdcA_ok (by decide +kernel)
theorem dX8_acts_61 : decode cX8_acts 61 = .ok (.putfield 13, 3) := dX8_acts_r61.1
theorem dX8_acts_64 : decode cX8_acts 64 = .ok (.return_, 1) := dX8_acts_r61.2.1
theorem dX8_acts_65 : decode cX8_acts 65 = .ok (.aload_n 0, 1) := dX8_acts_r61.2.2.1
theorem dX8_acts_66 : decode cX8_acts 66 = .ok (.getfield 41, 3) := dX8_acts_r61.2.2.2.1
theorem dX8_acts_69 : decode cX8_acts 69 = .ok (.aload_n 0, 1) := dX8_acts_r61.2.2.2.2.1
theorem dX8_acts_70 : decode cX8_acts 70 = .ok (.getfield 207, 3) := dX8_acts_r61.2.2.2.2.2.1
theorem dX8_acts_73 : decode cX8_acts 73 = .ok (.iaload, 1) := dX8_acts_r61.2.2.2.2.2.2.1
theorem dX8_acts_74 : decode cX8_acts 74 = .ok (.istore_n 2, 1) := dX8_acts_r61.2.2.2.2.2.2.2.1
theorem dX8_acts_75 : decode cX8_acts 75 = .ok (.iload_n 1, 1) := dX8_acts_r61.2.2.2.2.2.2.2.2.1
theorem dX8_acts_76 : decode cX8_acts 76 = .ok (.bipush 6, 2) := dX8_acts_r61.2.2.2.2.2.2.2.2.2.1
theorem dX8_acts_78 : decode cX8_acts 78 = .ok (.if_icmp .ge 80, 3) := dX8_acts_r61.2.2.2.2.2.2.2.2.2.2.1
theorem dX8_acts_81 : decode cX8_acts 81 = .ok (.aload_n 0, 1) := dX8_acts_r61.2.2.2.2.2.2.2.2.2.2.2.1
theorem dX8_acts_82 : decode cX8_acts 82 = .ok (.getfield 53, 3) := dX8_acts_r61.2.2.2.2.2.2.2.2.2.2.2.2.1
theorem dX8_acts_85 : decode cX8_acts 85 = .ok (.iload_n 1, 1) := dX8_acts_r61.2.2.2.2.2.2.2.2.2.2.2.2.2.1
theorem dX8_acts_86 : decode cX8_acts 86 = .ok (.dup2, 1) := dX8_acts_r61.2.2.2.2.2.2.2.2.2.2.2.2.2.2.1
theorem dX8_acts_87 : decode cX8_acts 87 = .ok (.iaload, 1) := dX8_acts_r61.2.2.2.2.2.2.2.2.2.2.2.2.2.2.2.1
theorem dX8_acts_r88 : zdcP cX8_acts 88 [(.aload_n 0, 1), (.iload_n 1, 1), (.iload_n 2, 1), (.invokevirtual 126, 3), (.iadd, 1), (.iastore, 1), (.aload_n 0, 1), (.dup, 1), (.getfield 204, 3), (.iconst 1, 1), (.iadd, 1), (.putfield 204, 3), (.aload_n 0, 1), (.getfield 204, 3), (.iconst 2, 1), (.irem, 1)] := zdcA_ok (by decide +kernel)
theorem dX8_acts_88 : decode cX8_acts 88 = .ok (.aload_n 0, 1) := dX8_acts_r88.1
theorem dX8_acts_89 : decode cX8_acts 89 = .ok (.iload_n 1, 1) := dX8_acts_r88.2.1
theorem dX8_acts_90 : decode cX8_acts 90 = .ok (.iload_n 2, 1) := dX8_acts_r88.2.2.1
theorem dX8_acts_91 : decode cX8_acts 91 = .ok (.invokevirtual 126, 3) := dX8_acts_r88.2.2.2.1
theorem dX8_acts_94 : decode cX8_acts 94 = .ok (.iadd, 1) := dX8_acts_r88.2.2.2.2.1
theorem dX8_acts_95 : decode cX8_acts 95 = .ok (.iastore, 1) := dX8_acts_r88.2.2.2.2.2.1
theorem dX8_acts_96 : decode cX8_acts 96 = .ok (.aload_n 0, 1) := dX8_acts_r88.2.2.2.2.2.2.1
theorem dX8_acts_97 : decode cX8_acts 97 = .ok (.dup, 1) := dX8_acts_r88.2.2.2.2.2.2.2.1
theorem dX8_acts_98 : decode cX8_acts 98 = .ok (.getfield 204, 3) := dX8_acts_r88.2.2.2.2.2.2.2.2.1
theorem dX8_acts_101 : decode cX8_acts 101 = .ok (.iconst 1, 1) := dX8_acts_r88.2.2.2.2.2.2.2.2.2.1
theorem dX8_acts_102 : decode cX8_acts 102 = .ok (.iadd, 1) := dX8_acts_r88.2.2.2.2.2.2.2.2.2.2.1
theorem dX8_acts_103 : decode cX8_acts 103 = .ok (.putfield 204, 3) := dX8_acts_r88.2.2.2.2.2.2.2.2.2.2.2.1
theorem dX8_acts_106 : decode cX8_acts 106 = .ok (.aload_n 0, 1) := dX8_acts_r88.2.2.2.2.2.2.2.2.2.2.2.2.1
theorem dX8_acts_107 : decode cX8_acts 107 = .ok (.getfield 204, 3) := dX8_acts_r88.2.2.2.2.2.2.2.2.2.2.2.2.2.1
theorem dX8_acts_110 : decode cX8_acts 110 = .ok (.iconst 2, 1) := dX8_acts_r88.2.2.2.2.2.2.2.2.2.2.2.2.2.2.1
theorem dX8_acts_111 : decode cX8_acts 111 = .ok (.irem, 1) := dX8_acts_r88.2.2.2.2.2.2.2.2.2.2.2.2.2.2.2.1
theorem dX8_acts_r112 : zdcP cX8_acts 112 [(.ifCond .ne 24, 3), (.aload_n 0, 1), (.getfield 13, 3), (.aload_n 0, 1), (.getfield 16, 3), (.if_icmp .ge 13, 3), (.aload_n 0, 1), (.dup, 1), (.getfield 13, 3), (.iconst 1, 1), (.iadd, 1), (.putfield 13, 3), (.bipush 6, 2), (.iload_n 2, 1), (.iadd, 1), (.aload_n 0, 1)] := zdcA_ok (by decide +kernel)
theorem dX8_acts_112 : decode cX8_acts 112 = .ok (.ifCond .ne 24, 3) := dX8_acts_r112.1
theorem dX8_acts_115 : decode cX8_acts 115 = .ok (.aload_n 0, 1) := dX8_acts_r112.2.1
theorem dX8_acts_116 : decode cX8_acts 116 = .ok (.getfield 13, 3) := dX8_acts_r112.2.2.1
theorem dX8_acts_119 : decode cX8_acts 119 = .ok (.aload_n 0, 1) := dX8_acts_r112.2.2.2.1
theorem dX8_acts_120 : decode cX8_acts 120 = .ok (.getfield 16, 3) := dX8_acts_r112.2.2.2.2.1
theorem dX8_acts_123 : decode cX8_acts 123 = .ok (.if_icmp .ge 13, 3) := dX8_acts_r112.2.2.2.2.2.1
theorem dX8_acts_126 : decode cX8_acts 126 = .ok (.aload_n 0, 1) := dX8_acts_r112.2.2.2.2.2.2.1
theorem dX8_acts_127 : decode cX8_acts 127 = .ok (.dup, 1) := dX8_acts_r112.2.2.2.2.2.2.2.1
theorem dX8_acts_128 : decode cX8_acts 128 = .ok (.getfield 13, 3) := dX8_acts_r112.2.2.2.2.2.2.2.2.1
theorem dX8_acts_131 : decode cX8_acts 131 = .ok (.iconst 1, 1) := dX8_acts_r112.2.2.2.2.2.2.2.2.2.1
theorem dX8_acts_132 : decode cX8_acts 132 = .ok (.iadd, 1) := dX8_acts_r112.2.2.2.2.2.2.2.2.2.2.1
theorem dX8_acts_133 : decode cX8_acts 133 = .ok (.putfield 13, 3) := dX8_acts_r112.2.2.2.2.2.2.2.2.2.2.2.1
theorem dX8_acts_136 : decode cX8_acts 136 = .ok (.bipush 6, 2) := dX8_acts_r112.2.2.2.2.2.2.2.2.2.2.2.2.1
theorem dX8_acts_138 : decode cX8_acts 138 = .ok (.iload_n 2, 1) := dX8_acts_r112.2.2.2.2.2.2.2.2.2.2.2.2.2.1
theorem dX8_acts_139 : decode cX8_acts 139 = .ok (.iadd, 1) := dX8_acts_r112.2.2.2.2.2.2.2.2.2.2.2.2.2.2.1
theorem dX8_acts_140 : decode cX8_acts 140 = .ok (.aload_n 0, 1) := dX8_acts_r112.2.2.2.2.2.2.2.2.2.2.2.2.2.2.2.1
theorem dX8_acts_r141 : zdcP cX8_acts 141 [(.getfield 204, 3), (.iconst 1, 1), (.if_icmp .ne 7, 3), (.iconst 1, 1), (.goto 4, 3), (.iconst 0, 1), (.iadd, 1), (.istore_n 3, 1), (.goto 123, 3), (.iload_n 1, 1), (.bipush 7, 2), (.if_icmp .ne 47, 3), (.aload_n 0, 1), (.dup, 1), (.getfield 22, 3), (.iconst 1, 1)] := zdcA_ok (by decide +kernel)
theorem dX8_acts_141 : decode cX8_acts 141 = .ok (.getfield 204, 3) := dX8_acts_r141.1
theorem dX8_acts_144 : decode cX8_acts 144 = .ok (.iconst 1, 1) := dX8_acts_r141.2.1
theorem dX8_acts_145 : decode cX8_acts 145 = .ok (.if_icmp .ne 7, 3) := dX8_acts_r141.2.2.1
theorem dX8_acts_148 : decode cX8_acts 148 = .ok (.iconst 1, 1) := dX8_acts_r141.2.2.2.1
theorem dX8_acts_149 : decode cX8_acts 149 = .ok (.goto 4, 3) := dX8_acts_r141.2.2.2.2.1
theorem dX8_acts_152 : decode cX8_acts 152 = .ok (.iconst 0, 1) := dX8_acts_r141.2.2.2.2.2.1
theorem dX8_acts_153 : decode cX8_acts 153 = .ok (.iadd, 1) := dX8_acts_r141.2.2.2.2.2.2.1
theorem dX8_acts_154 : decode cX8_acts 154 = .ok (.istore_n 3, 1) := dX8_acts_r141.2.2.2.2.2.2.2.1
theorem dX8_acts_155 : decode cX8_acts 155 = .ok (.goto 123, 3) := dX8_acts_r141.2.2.2.2.2.2.2.2.1
theorem dX8_acts_158 : decode cX8_acts 158 = .ok (.iload_n 1, 1) := dX8_acts_r141.2.2.2.2.2.2.2.2.2.1
theorem dX8_acts_159 : decode cX8_acts 159 = .ok (.bipush 7, 2) := dX8_acts_r141.2.2.2.2.2.2.2.2.2.2.1
theorem dX8_acts_161 : decode cX8_acts 161 = .ok (.if_icmp .ne 47, 3) := dX8_acts_r141.2.2.2.2.2.2.2.2.2.2.2.1
theorem dX8_acts_164 : decode cX8_acts 164 = .ok (.aload_n 0, 1) := dX8_acts_r141.2.2.2.2.2.2.2.2.2.2.2.2.1
theorem dX8_acts_165 : decode cX8_acts 165 = .ok (.dup, 1) := dX8_acts_r141.2.2.2.2.2.2.2.2.2.2.2.2.2.1
theorem dX8_acts_166 : decode cX8_acts 166 = .ok (.getfield 22, 3) := dX8_acts_r141.2.2.2.2.2.2.2.2.2.2.2.2.2.2.1
theorem dX8_acts_169 : decode cX8_acts 169 = .ok (.iconst 1, 1) := dX8_acts_r141.2.2.2.2.2.2.2.2.2.2.2.2.2.2.2.1
theorem dX8_acts_r170 : zdcP cX8_acts 170 [(.isub, 1), (.putfield 22, 3), (.aload_n 0, 1), (.aload_n 0, 1), (.getfield 13, 3), (.iconst 2, 1), (.iadd, 1), (.aload_n 0, 1), (.getfield 16, 3), (.iconst 2, 1), (.iadd, 1), (.if_icmp .le 12, 3), (.aload_n 0, 1), (.getfield 16, 3), (.iconst 2, 1), (.iadd, 1)] := zdcA_ok (by decide +kernel)
theorem dX8_acts_170 : decode cX8_acts 170 = .ok (.isub, 1) := dX8_acts_r170.1
theorem dX8_acts_171 : decode cX8_acts 171 = .ok (.putfield 22, 3) := dX8_acts_r170.2.1
theorem dX8_acts_174 : decode cX8_acts 174 = .ok (.aload_n 0, 1) := dX8_acts_r170.2.2.1
theorem dX8_acts_175 : decode cX8_acts 175 = .ok (.aload_n 0, 1) := dX8_acts_r170.2.2.2.1
theorem dX8_acts_176 : decode cX8_acts 176 = .ok (.getfield 13, 3) := dX8_acts_r170.2.2.2.2.1
theorem dX8_acts_179 : decode cX8_acts 179 = .ok (.iconst 2, 1) := dX8_acts_r170.2.2.2.2.2.1
theorem dX8_acts_180 : decode cX8_acts 180 = .ok (.iadd, 1) := dX8_acts_r170.2.2.2.2.2.2.1
theorem dX8_acts_181 : decode cX8_acts 181 = .ok (.aload_n 0, 1) := dX8_acts_r170.2.2.2.2.2.2.2.1
theorem dX8_acts_182 : decode cX8_acts 182 = .ok (.getfield 16, 3) := dX8_acts_r170.2.2.2.2.2.2.2.2.1
theorem dX8_acts_185 : decode cX8_acts 185 = .ok (.iconst 2, 1) := dX8_acts_r170.2.2.2.2.2.2.2.2.2.1
theorem dX8_acts_186 : decode cX8_acts 186 = .ok (.iadd, 1) := dX8_acts_r170.2.2.2.2.2.2.2.2.2.2.1
theorem dX8_acts_187 : decode cX8_acts 187 = .ok (.if_icmp .le 12, 3) := dX8_acts_r170.2.2.2.2.2.2.2.2.2.2.2.1
theorem dX8_acts_190 : decode cX8_acts 190 = .ok (.aload_n 0, 1) := dX8_acts_r170.2.2.2.2.2.2.2.2.2.2.2.2.1
theorem dX8_acts_191 : decode cX8_acts 191 = .ok (.getfield 16, 3) := dX8_acts_r170.2.2.2.2.2.2.2.2.2.2.2.2.2.1
theorem dX8_acts_194 : decode cX8_acts 194 = .ok (.iconst 2, 1) := dX8_acts_r170.2.2.2.2.2.2.2.2.2.2.2.2.2.2.1
theorem dX8_acts_195 : decode cX8_acts 195 = .ok (.iadd, 1) := dX8_acts_r170.2.2.2.2.2.2.2.2.2.2.2.2.2.2.2.1
theorem dX8_acts_r196 : zdcP cX8_acts 196 [(.goto 9, 3), (.aload_n 0, 1), (.getfield 13, 3), (.iconst 2, 1), (.iadd, 1), (.putfield 13, 3), (.iload_n 1, 1), (.bipush 8, 2), (.if_icmp .ne 47, 3), (.aload_n 0, 1), (.dup, 1), (.getfield 25, 3), (.iconst 1, 1), (.isub, 1), (.putfield 25, 3), (.aload_n 0, 1)] := zdcA_ok (by decide +kernel)
theorem dX8_acts_196 : decode cX8_acts 196 = .ok (.goto 9, 3) := dX8_acts_r196.1
theorem dX8_acts_199 : decode cX8_acts 199 = .ok (.aload_n 0, 1) := dX8_acts_r196.2.1
theorem dX8_acts_200 : decode cX8_acts 200 = .ok (.getfield 13, 3) := dX8_acts_r196.2.2.1
theorem dX8_acts_203 : decode cX8_acts 203 = .ok (.iconst 2, 1) := dX8_acts_r196.2.2.2.1
theorem dX8_acts_204 : decode cX8_acts 204 = .ok (.iadd, 1) := dX8_acts_r196.2.2.2.2.1
theorem dX8_acts_205 : decode cX8_acts 205 = .ok (.putfield 13, 3) := dX8_acts_r196.2.2.2.2.2.1
theorem dX8_acts_208 : decode cX8_acts 208 = .ok (.iload_n 1, 1) := dX8_acts_r196.2.2.2.2.2.2.1
theorem dX8_acts_209 : decode cX8_acts 209 = .ok (.bipush 8, 2) := dX8_acts_r196.2.2.2.2.2.2.2.1
theorem dX8_acts_211 : decode cX8_acts 211 = .ok (.if_icmp .ne 47, 3) := dX8_acts_r196.2.2.2.2.2.2.2.2.1
theorem dX8_acts_214 : decode cX8_acts 214 = .ok (.aload_n 0, 1) := dX8_acts_r196.2.2.2.2.2.2.2.2.2.1
theorem dX8_acts_215 : decode cX8_acts 215 = .ok (.dup, 1) := dX8_acts_r196.2.2.2.2.2.2.2.2.2.2.1
theorem dX8_acts_216 : decode cX8_acts 216 = .ok (.getfield 25, 3) := dX8_acts_r196.2.2.2.2.2.2.2.2.2.2.2.1
theorem dX8_acts_219 : decode cX8_acts 219 = .ok (.iconst 1, 1) := dX8_acts_r196.2.2.2.2.2.2.2.2.2.2.2.2.1
theorem dX8_acts_220 : decode cX8_acts 220 = .ok (.isub, 1) := dX8_acts_r196.2.2.2.2.2.2.2.2.2.2.2.2.2.1
theorem dX8_acts_221 : decode cX8_acts 221 = .ok (.putfield 25, 3) := dX8_acts_r196.2.2.2.2.2.2.2.2.2.2.2.2.2.2.1
theorem dX8_acts_224 : decode cX8_acts 224 = .ok (.aload_n 0, 1) := dX8_acts_r196.2.2.2.2.2.2.2.2.2.2.2.2.2.2.2.1
theorem dX8_acts_r225 : zdcP cX8_acts 225 [(.aload_n 0, 1), (.getfield 13, 3), (.iconst 1, 1), (.iadd, 1), (.aload_n 0, 1), (.getfield 16, 3), (.iconst 2, 1), (.iadd, 1), (.if_icmp .le 12, 3), (.aload_n 0, 1), (.getfield 16, 3), (.iconst 2, 1), (.iadd, 1), (.goto 9, 3), (.aload_n 0, 1), (.getfield 13, 3)] := zdcA_ok (by decide +kernel)
theorem dX8_acts_225 : decode cX8_acts 225 = .ok (.aload_n 0, 1) := dX8_acts_r225.1
theorem dX8_acts_226 : decode cX8_acts 226 = .ok (.getfield 13, 3) := dX8_acts_r225.2.1
theorem dX8_acts_229 : decode cX8_acts 229 = .ok (.iconst 1, 1) := dX8_acts_r225.2.2.1
theorem dX8_acts_230 : decode cX8_acts 230 = .ok (.iadd, 1) := dX8_acts_r225.2.2.2.1
theorem dX8_acts_231 : decode cX8_acts 231 = .ok (.aload_n 0, 1) := dX8_acts_r225.2.2.2.2.1
theorem dX8_acts_232 : decode cX8_acts 232 = .ok (.getfield 16, 3) := dX8_acts_r225.2.2.2.2.2.1
theorem dX8_acts_235 : decode cX8_acts 235 = .ok (.iconst 2, 1) := dX8_acts_r225.2.2.2.2.2.2.1
theorem dX8_acts_236 : decode cX8_acts 236 = .ok (.iadd, 1) := dX8_acts_r225.2.2.2.2.2.2.2.1
theorem dX8_acts_237 : decode cX8_acts 237 = .ok (.if_icmp .le 12, 3) := dX8_acts_r225.2.2.2.2.2.2.2.2.1
theorem dX8_acts_240 : decode cX8_acts 240 = .ok (.aload_n 0, 1) := dX8_acts_r225.2.2.2.2.2.2.2.2.2.1
theorem dX8_acts_241 : decode cX8_acts 241 = .ok (.getfield 16, 3) := dX8_acts_r225.2.2.2.2.2.2.2.2.2.2.1
theorem dX8_acts_244 : decode cX8_acts 244 = .ok (.iconst 2, 1) := dX8_acts_r225.2.2.2.2.2.2.2.2.2.2.2.1
theorem dX8_acts_245 : decode cX8_acts 245 = .ok (.iadd, 1) := dX8_acts_r225.2.2.2.2.2.2.2.2.2.2.2.2.1
theorem dX8_acts_246 : decode cX8_acts 246 = .ok (.goto 9, 3) := dX8_acts_r225.2.2.2.2.2.2.2.2.2.2.2.2.2.1
theorem dX8_acts_249 : decode cX8_acts 249 = .ok (.aload_n 0, 1) := dX8_acts_r225.2.2.2.2.2.2.2.2.2.2.2.2.2.2.1
theorem dX8_acts_250 : decode cX8_acts 250 = .ok (.getfield 13, 3) := dX8_acts_r225.2.2.2.2.2.2.2.2.2.2.2.2.2.2.2.1
theorem dX8_acts_r253 : zdcP cX8_acts 253 [(.iconst 1, 1), (.iadd, 1), (.putfield 13, 3), (.aload_n 0, 1), (.dup, 1), (.getfield 13, 3), (.iconst 1, 1), (.isub, 1), (.putfield 13, 3), (.aload_n 0, 1), (.iconst 0, 1), (.putfield 204, 3), (.bipush 9, 2), (.iload_n 2, 1), (.iadd, 1), (.istore_n 3, 1)] := zdcA_ok (by decide +kernel)
theorem dX8_acts_253 : decode cX8_acts 253 = .ok (.iconst 1, 1) := dX8_acts_r253.1
theorem dX8_acts_254 : decode cX8_acts 254 = .ok (.iadd, 1) := dX8_acts_r253.2.1
theorem dX8_acts_255 : decode cX8_acts 255 = .ok (.putfield 13, 3) := dX8_acts_r253.2.2.1
theorem dX8_acts_258 : decode cX8_acts 258 = .ok (.aload_n 0, 1) := dX8_acts_r253.2.2.2.1
theorem dX8_acts_259 : decode cX8_acts 259 = .ok (.dup, 1) := dX8_acts_r253.2.2.2.2.1
theorem dX8_acts_260 : decode cX8_acts 260 = .ok (.getfield 13, 3) := dX8_acts_r253.2.2.2.2.2.1
theorem dX8_acts_263 : decode cX8_acts 263 = .ok (.iconst 1, 1) := dX8_acts_r253.2.2.2.2.2.2.1
theorem dX8_acts_264 : decode cX8_acts 264 = .ok (.isub, 1) := dX8_acts_r253.2.2.2.2.2.2.2.1
theorem dX8_acts_265 : decode cX8_acts 265 = .ok (.putfield 13, 3) := dX8_acts_r253.2.2.2.2.2.2.2.2.1
theorem dX8_acts_268 : decode cX8_acts 268 = .ok (.aload_n 0, 1) := dX8_acts_r253.2.2.2.2.2.2.2.2.2.1
theorem dX8_acts_269 : decode cX8_acts 269 = .ok (.iconst 0, 1) := dX8_acts_r253.2.2.2.2.2.2.2.2.2.2.1
theorem dX8_acts_270 : decode cX8_acts 270 = .ok (.putfield 204, 3) := dX8_acts_r253.2.2.2.2.2.2.2.2.2.2.2.1
theorem dX8_acts_273 : decode cX8_acts 273 = .ok (.bipush 9, 2) := dX8_acts_r253.2.2.2.2.2.2.2.2.2.2.2.2.1
theorem dX8_acts_275 : decode cX8_acts 275 = .ok (.iload_n 2, 1) := dX8_acts_r253.2.2.2.2.2.2.2.2.2.2.2.2.2.1
theorem dX8_acts_276 : decode cX8_acts 276 = .ok (.iadd, 1) := dX8_acts_r253.2.2.2.2.2.2.2.2.2.2.2.2.2.2.1
theorem dX8_acts_277 : decode cX8_acts 277 = .ok (.istore_n 3, 1) := dX8_acts_r253.2.2.2.2.2.2.2.2.2.2.2.2.2.2.2.1
theorem dX8_acts_r278 : zdcP cX8_acts 278 [(.aload_n 0, 1), (.dup, 1), (.getfield 210, 3), (.iload_n 3, 1), (.iconst 3, 1), (.if_icmp .ge 7, 3), (.iconst 3, 1), (.goto 4, 3), (.iload_n 3, 1), (.iadd, 1), (.putfield 210, 3), (.iconst 0, 1), (.istore 4, 2), (.iload 4, 2), (.aload_n 0, 1), (.getfield 105, 3)] := zdcA_ok (by decide +kernel)
theorem dX8_acts_278 : decode cX8_acts 278 = .ok (.aload_n 0, 1) := dX8_acts_r278.1
theorem dX8_acts_279 : decode cX8_acts 279 = .ok (.dup, 1) := dX8_acts_r278.2.1
theorem dX8_acts_280 : decode cX8_acts 280 = .ok (.getfield 210, 3) := dX8_acts_r278.2.2.1
theorem dX8_acts_283 : decode cX8_acts 283 = .ok (.iload_n 3, 1) := dX8_acts_r278.2.2.2.1
theorem dX8_acts_284 : decode cX8_acts 284 = .ok (.iconst 3, 1) := dX8_acts_r278.2.2.2.2.1
theorem dX8_acts_285 : decode cX8_acts 285 = .ok (.if_icmp .ge 7, 3) := dX8_acts_r278.2.2.2.2.2.1
theorem dX8_acts_288 : decode cX8_acts 288 = .ok (.iconst 3, 1) := dX8_acts_r278.2.2.2.2.2.2.1
theorem dX8_acts_289 : decode cX8_acts 289 = .ok (.goto 4, 3) := dX8_acts_r278.2.2.2.2.2.2.2.1
theorem dX8_acts_292 : decode cX8_acts 292 = .ok (.iload_n 3, 1) := dX8_acts_r278.2.2.2.2.2.2.2.2.1
theorem dX8_acts_293 : decode cX8_acts 293 = .ok (.iadd, 1) := dX8_acts_r278.2.2.2.2.2.2.2.2.2.1
theorem dX8_acts_294 : decode cX8_acts 294 = .ok (.putfield 210, 3) := dX8_acts_r278.2.2.2.2.2.2.2.2.2.2.1
theorem dX8_acts_297 : decode cX8_acts 297 = .ok (.iconst 0, 1) := dX8_acts_r278.2.2.2.2.2.2.2.2.2.2.2.1
theorem dX8_acts_298 : decode cX8_acts 298 = .ok (.istore 4, 2) := dX8_acts_r278.2.2.2.2.2.2.2.2.2.2.2.2.1
theorem dX8_acts_300 : decode cX8_acts 300 = .ok (.iload 4, 2) := dX8_acts_r278.2.2.2.2.2.2.2.2.2.2.2.2.2.1
theorem dX8_acts_302 : decode cX8_acts 302 = .ok (.aload_n 0, 1) := dX8_acts_r278.2.2.2.2.2.2.2.2.2.2.2.2.2.2.1
theorem dX8_acts_303 : decode cX8_acts 303 = .ok (.getfield 105, 3) := dX8_acts_r278.2.2.2.2.2.2.2.2.2.2.2.2.2.2.2.1
theorem dX8_acts_r306 : zdcP cX8_acts 306 [(.if_icmp .ge 55, 3), (.iload 4, 2), (.iload_n 1, 1), (.if_icmp .ne 6, 3), (.goto 40, 3), (.aload_n 0, 1), (.iload 4, 2), (.aload_n 0, 1), (.getfield 47, 3), (.iload 4, 2), (.iaload, 1), (.iconst 3, 1), (.if_icmp .ne 7, 3), (.iconst 3, 1), (.goto 4, 3), (.iconst 2, 1)] := zdcA_ok (by decide +kernel)
theorem dX8_acts_306 : decode cX8_acts 306 = .ok (.if_icmp .ge 55, 3) := dX8_acts_r306.1
theorem dX8_acts_309 : decode cX8_acts 309 = .ok (.iload 4, 2) := dX8_acts_r306.2.1
theorem dX8_acts_311 : decode cX8_acts 311 = .ok (.iload_n 1, 1) := dX8_acts_r306.2.2.1
theorem dX8_acts_312 : decode cX8_acts 312 = .ok (.if_icmp .ne 6, 3) := dX8_acts_r306.2.2.2.1
theorem dX8_acts_315 : decode cX8_acts 315 = .ok (.goto 40, 3) := dX8_acts_r306.2.2.2.2.1
theorem dX8_acts_318 : decode cX8_acts 318 = .ok (.aload_n 0, 1) := dX8_acts_r306.2.2.2.2.2.1
theorem dX8_acts_319 : decode cX8_acts 319 = .ok (.iload 4, 2) := dX8_acts_r306.2.2.2.2.2.2.1
theorem dX8_acts_321 : decode cX8_acts 321 = .ok (.aload_n 0, 1) := dX8_acts_r306.2.2.2.2.2.2.2.1
theorem dX8_acts_322 : decode cX8_acts 322 = .ok (.getfield 47, 3) := dX8_acts_r306.2.2.2.2.2.2.2.2.1
theorem dX8_acts_325 : decode cX8_acts 325 = .ok (.iload 4, 2) := dX8_acts_r306.2.2.2.2.2.2.2.2.2.1
theorem dX8_acts_327 : decode cX8_acts 327 = .ok (.iaload, 1) := dX8_acts_r306.2.2.2.2.2.2.2.2.2.2.1
theorem dX8_acts_328 : decode cX8_acts 328 = .ok (.iconst 3, 1) := dX8_acts_r306.2.2.2.2.2.2.2.2.2.2.2.1
theorem dX8_acts_329 : decode cX8_acts 329 = .ok (.if_icmp .ne 7, 3) := dX8_acts_r306.2.2.2.2.2.2.2.2.2.2.2.2.1
theorem dX8_acts_332 : decode cX8_acts 332 = .ok (.iconst 3, 1) := dX8_acts_r306.2.2.2.2.2.2.2.2.2.2.2.2.2.1
theorem dX8_acts_333 : decode cX8_acts 333 = .ok (.goto 4, 3) := dX8_acts_r306.2.2.2.2.2.2.2.2.2.2.2.2.2.2.1
theorem dX8_acts_336 : decode cX8_acts 336 = .ok (.iconst 2, 1) := dX8_acts_r306.2.2.2.2.2.2.2.2.2.2.2.2.2.2.2.1
theorem dX8_acts_r337 : zdcP cX8_acts 337 [(.aload_n 0, 1), (.getfield 9, 3), (.iload 4, 2), (.if_icmp .ne 7, 3), (.iconst 1, 1), (.goto 4, 3), (.iconst 0, 1), (.isub, 1), (.invokevirtual 223, 3), (.iinc 4 1, 3), (.goto (-58), 3), (.aload_n 0, 1), (.dup, 1), (.getfield 207, 3), (.iconst 1, 1), (.iadd, 1)] := zdcA_ok (by decide +kernel)
theorem dX8_acts_337 : decode cX8_acts 337 = .ok (.aload_n 0, 1) := dX8_acts_r337.1
theorem dX8_acts_338 : decode cX8_acts 338 = .ok (.getfield 9, 3) := dX8_acts_r337.2.1
theorem dX8_acts_341 : decode cX8_acts 341 = .ok (.iload 4, 2) := dX8_acts_r337.2.2.1
theorem dX8_acts_343 : decode cX8_acts 343 = .ok (.if_icmp .ne 7, 3) := dX8_acts_r337.2.2.2.1
theorem dX8_acts_346 : decode cX8_acts 346 = .ok (.iconst 1, 1) := dX8_acts_r337.2.2.2.2.1
theorem dX8_acts_347 : decode cX8_acts 347 = .ok (.goto 4, 3) := dX8_acts_r337.2.2.2.2.2.1
theorem dX8_acts_350 : decode cX8_acts 350 = .ok (.iconst 0, 1) := dX8_acts_r337.2.2.2.2.2.2.1
theorem dX8_acts_351 : decode cX8_acts 351 = .ok (.isub, 1) := dX8_acts_r337.2.2.2.2.2.2.2.1
theorem dX8_acts_352 : decode cX8_acts 352 = .ok (.invokevirtual 223, 3) := dX8_acts_r337.2.2.2.2.2.2.2.2.1
theorem dX8_acts_355 : decode cX8_acts 355 = .ok (.iinc 4 1, 3) := dX8_acts_r337.2.2.2.2.2.2.2.2.2.1
theorem dX8_acts_358 : decode cX8_acts 358 = .ok (.goto (-58), 3) := dX8_acts_r337.2.2.2.2.2.2.2.2.2.2.1
theorem dX8_acts_361 : decode cX8_acts 361 = .ok (.aload_n 0, 1) := dX8_acts_r337.2.2.2.2.2.2.2.2.2.2.2.1
theorem dX8_acts_362 : decode cX8_acts 362 = .ok (.dup, 1) := dX8_acts_r337.2.2.2.2.2.2.2.2.2.2.2.2.1
theorem dX8_acts_363 : decode cX8_acts 363 = .ok (.getfield 207, 3) := dX8_acts_r337.2.2.2.2.2.2.2.2.2.2.2.2.2.1
theorem dX8_acts_366 : decode cX8_acts 366 = .ok (.iconst 1, 1) := dX8_acts_r337.2.2.2.2.2.2.2.2.2.2.2.2.2.2.1
theorem dX8_acts_367 : decode cX8_acts 367 = .ok (.iadd, 1) := dX8_acts_r337.2.2.2.2.2.2.2.2.2.2.2.2.2.2.2.1
theorem dX8_acts_r368 : zdcP cX8_acts 368 [(.putfield 207, 3), (.return_, 1)] := zdcA_ok (by decide +kernel)
theorem dX8_acts_368 : decode cX8_acts 368 = .ok (.putfield 207, 3) := dX8_acts_r368.1
theorem dX8_acts_371 : decode cX8_acts 371 = .ok (.return_, 1) := dX8_acts_r368.2.1
def wq_169_337 (v1 : Int32) (F300 : Int32 → zf_Me → Prop) (v4 : Int32) (u0 : Int32) (u1 : Int32) (m : zf_Me) (Q : zf_Me → Prop) : Prop := ((¬ ((m.1 63 2)).toInt = v4.toInt → wp_168 u1 (u0 - 0) m (fun m10 => F300 (v4 + 1) m10)) ∧ (((m.1 63 2)).toInt = v4.toInt → wp_168 u1 (u0 - 1) m (fun m12 => F300 (v4 + 1) m12)))
theorem zq_169_337 {d : Nat} (hd : 1 ≤ d) {v1 : Int32} {F300 : Int32 → zf_Me → Prop} {Q : zf_Me → Prop} (hF300 : ∀ (v4 : Int32) (m : zf_Me), F300 v4 m → zf_W none 0 0 d zt_169 300 [some (.inr (.inr (1, 63))), some (.inl v1), none, none, some (.inl v4)] [] m (zf_O Q)) {v4 : Int32} {u0 : Int32} {u1 : Int32} {m : zf_Me} (h : wq_169_337 v1 F300 v4 u0 u1 m Q) : zf_W none 0 0 d zt_169 337 [some (.inr (.inr (1, 63))), some (.inl v1), none, none, some (.inl v4)] [.inl u0, .inl u1, .inr (.inr (1, 63))] m (zf_O Q) := by
  obtain ⟨e, rfl⟩ : ∃ z, d = z + 1 := ⟨d - 1, by omega⟩
  unfold wq_169_337 at h
  refine zf_ld (pc' := 338) (v := .inr (.inr (1, 63))) dX8_acts_337 rfl (fun _ _ _ => rfl) rfl rfl rfl ?_
  refine zf_gfi (pc' := 341) dX8_acts_338 rfl rfl (by decide) rfl rfl ?_
  refine zf_ld (pc' := 343) (v := .inl v4) dX8_acts_341 rfl (fun _ _ _ => rfl) rfl rfl rfl ?_
  refine zf_icmp_ne (tgt := 350) (pc' := 346) dX8_acts_343 rfl rfl (fun g => ?_) (fun g => ?_)
  · replace h := h.1 g
    refine zf_ic (v := 0) (pc' := 351) dX8_acts_350 rfl rfl ?_
    refine zf_in (pc' := 352) (S' := [.inl (u0 - 0), .inl u1, .inr (.inr (1, 63))]) dX8_acts_351 rfl (fun _ _ _ => rfl) ?_
    refine zf_iv (k := 168) (pc' := 355) (r := []) dX8_acts_352 rfl rfl rfl rfl (by decide) rfl rfl rfl (zr_168 (by omega) h) (zf_kO (fun m10 h => ?_))
    refine zf_ii (y := (v4 + 1)) (L2 := [some (.inr (.inr (1, 63))), some (.inl v1), none, none, some (.inl (v4 + 1))]) (pc' := 358) dX8_acts_355 rfl rfl rfl rfl rfl ?_
    refine zf_goto (tgt := 300) dX8_acts_358 rfl ?_
    exact zf_lo (hF300 _ _ h) ⟨rfl, rfl, rfl, trivial⟩
  · replace h := h.2 g
    refine zf_ic (v := 1) (pc' := 347) dX8_acts_346 rfl rfl ?_
    refine zf_goto (tgt := 351) dX8_acts_347 rfl ?_
    refine zf_in (pc' := 352) (S' := [.inl (u0 - 1), .inl u1, .inr (.inr (1, 63))]) dX8_acts_351 rfl (fun _ _ _ => rfl) ?_
    refine zf_iv (k := 168) (pc' := 355) (r := []) dX8_acts_352 rfl rfl rfl rfl (by decide) rfl rfl rfl (zr_168 (by omega) h) (zf_kO (fun m12 h => ?_))
    refine zf_ii (y := (v4 + 1)) (L2 := [some (.inr (.inr (1, 63))), some (.inl v1), none, none, some (.inl (v4 + 1))]) (pc' := 358) dX8_acts_355 rfl rfl rfl rfl rfl ?_
    refine zf_goto (tgt := 300) dX8_acts_358 rfl ?_
    exact zf_lo (hF300 _ _ h) ⟨rfl, rfl, rfl, trivial⟩
def wq_169_300 (v1 : Int32) (Q : zf_Me → Prop) : Nat → Int32 → zf_Me → Prop
  | 0, _, _ => False
  | n + 1, v4, m => ((v4.toInt ≥ ((m.1 63 1)).toInt → (∀ m7, m7 = zf_u m 63 10 ((m.1 63 10) + 1) → Q m7)) ∧ (v4.toInt < ((m.1 63 1)).toInt → ((¬ v4.toInt = v1.toInt → ((0 ≤ (Int32.toInt v4) ∧ (Int32.toInt v4) < (6 : Int)) ∧ ((¬ ((m.1 67 (Int32.toInt v4).toNat)).toInt = 3 → wq_169_337 v1 (wq_169_300 v1 Q n) v4 2 v4 m Q) ∧ (((m.1 67 (Int32.toInt v4).toNat)).toInt = 3 → wq_169_337 v1 (wq_169_300 v1 Q n) v4 3 v4 m Q)))) ∧ (v4.toInt = v1.toInt → wq_169_300 v1 Q n (v4 + 1) m))))
theorem zq_169_300 {d : Nat} (hd : 1 ≤ d) {v1 : Int32} {Q : zf_Me → Prop} : ∀ (n : Nat) (v4 : Int32) (m : zf_Me), wq_169_300 v1 Q n v4 m → zf_W none 0 0 d zt_169 300 [some (.inr (.inr (1, 63))), some (.inl v1), none, none, some (.inl v4)] [] m (zf_O Q) := by
  intro n
  induction n with
  | zero =>
    intro v4 m h
    exact h.elim
  | succ n ih =>
    intro v4 m h
    unfold wq_169_300 at h
    refine zf_ld (pc' := 302) (v := .inl v4) dX8_acts_300 rfl (fun _ _ _ => rfl) rfl rfl rfl ?_
    refine zf_ld (pc' := 303) (v := .inr (.inr (1, 63))) dX8_acts_302 rfl (fun _ _ _ => rfl) rfl rfl rfl ?_
    refine zf_gfi (pc' := 306) dX8_acts_303 rfl rfl (by decide) rfl rfl ?_
    refine zf_icmp_ge (tgt := 361) (pc' := 309) dX8_acts_306 rfl rfl (fun g => ?_) (fun g => ?_)
    · replace h := h.1 g
      refine zf_ld (pc' := 362) (v := .inr (.inr (1, 63))) dX8_acts_361 rfl (fun _ _ _ => rfl) rfl rfl rfl ?_
      refine zf_in (pc' := 363) (S' := [.inr (.inr (1, 63)), .inr (.inr (1, 63))]) dX8_acts_362 rfl (fun _ _ _ => rfl) ?_
      refine zf_gfi (pc' := 366) dX8_acts_363 rfl rfl (by decide) rfl rfl ?_
      refine zf_ic (v := 1) (pc' := 367) dX8_acts_366 rfl rfl ?_
      refine zf_in (pc' := 368) (S' := [.inl ((m.1 63 10) + 1), .inr (.inr (1, 63))]) dX8_acts_367 rfl (fun _ _ _ => rfl) ?_
      refine zf_pf (pc' := 371) dX8_acts_368 rfl rfl (by decide) rfl rfl rfl (fun m7 e8 => ?_)
      replace h := h m7 e8
      exact zf_rv dX8_acts_371 rfl h
    · replace h := h.2 g
      refine zf_ld (pc' := 311) (v := .inl v4) dX8_acts_309 rfl (fun _ _ _ => rfl) rfl rfl rfl ?_
      refine zf_ld (pc' := 312) (v := .inl v1) dX8_acts_311 rfl (fun _ _ _ => rfl) rfl rfl rfl ?_
      refine zf_icmp_ne (tgt := 318) (pc' := 315) dX8_acts_312 rfl rfl (fun g => ?_) (fun g => ?_)
      · replace h := h.1 g
        refine zf_ld (pc' := 319) (v := .inr (.inr (1, 63))) dX8_acts_318 rfl (fun _ _ _ => rfl) rfl rfl rfl ?_
        refine zf_ld (pc' := 321) (v := .inl v4) dX8_acts_319 rfl (fun _ _ _ => rfl) rfl rfl rfl ?_
        refine zf_ld (pc' := 322) (v := .inr (.inr (1, 63))) dX8_acts_321 rfl (fun _ _ _ => rfl) rfl rfl rfl ?_
        refine zf_gfr (pc' := 325) (b := 67) dX8_acts_322 rfl rfl (by decide) rfl rfl ?_
        refine zf_ld (pc' := 327) (v := .inl v4) dX8_acts_325 rfl (fun _ _ _ => rfl) rfl rfl rfl ?_
        refine zf_ial (pc' := 328) dX8_acts_327 rfl (⟨by decide, rfl⟩ : zf_arr 67 6).1 (⟨by decide, rfl⟩ : zf_arr 67 6).2 h.1 rfl ?_
        replace h := h.2
        refine zf_ic (v := 3) (pc' := 329) dX8_acts_328 rfl rfl ?_
        refine zf_icmp_ne (tgt := 336) (pc' := 332) dX8_acts_329 rfl rfl (fun g => ?_) (fun g => ?_)
        · replace h := h.1 g
          refine zf_ic (v := 2) (pc' := 337) dX8_acts_336 rfl rfl ?_
          exact zf_lo (zq_169_337 (by omega) ih h) ⟨rfl, rfl, rfl, trivial⟩
        · replace h := h.2 g
          refine zf_ic (v := 3) (pc' := 333) dX8_acts_332 rfl rfl ?_
          refine zf_goto (tgt := 337) dX8_acts_333 rfl ?_
          exact zf_lo (zq_169_337 (by omega) ih h) ⟨rfl, rfl, rfl, trivial⟩
      · replace h := h.2 g
        refine zf_goto (tgt := 355) dX8_acts_315 rfl ?_
        refine zf_ii (y := (v4 + 1)) (L2 := [some (.inr (.inr (1, 63))), some (.inl v1), none, none, some (.inl (v4 + 1))]) (pc' := 358) dX8_acts_355 rfl rfl rfl rfl rfl ?_
        refine zf_goto (tgt := 300) dX8_acts_358 rfl ?_
        exact zf_lo (ih _ _ h) ⟨rfl, rfl, rfl, trivial⟩
def wq_169_278 (v1 : Int32) (v3 : Int32) (m : zf_Me) (Q : zf_Me → Prop) : Prop := ((v3.toInt ≥ 3 → (∀ m5, m5 = zf_u m 63 11 ((m.1 63 11) + v3) → (∃ n300, wq_169_300 v1 Q n300 0 m5))) ∧ (v3.toInt < 3 → (∀ m13, m13 = zf_u m 63 11 ((m.1 63 11) + 3) → (∃ n300, wq_169_300 v1 Q n300 0 m13))))
theorem zq_169_278 {d : Nat} (hd : 1 ≤ d) {v1 : Int32} {Q : zf_Me → Prop} {v3 : Int32} {m : zf_Me} (h : wq_169_278 v1 v3 m Q) : zf_W none 0 0 d zt_169 278 [some (.inr (.inr (1, 63))), some (.inl v1), none, some (.inl v3), none] [] m (zf_O Q) := by
  unfold wq_169_278 at h
  refine zf_ld (pc' := 279) (v := .inr (.inr (1, 63))) dX8_acts_278 rfl (fun _ _ _ => rfl) rfl rfl rfl ?_
  refine zf_in (pc' := 280) (S' := [.inr (.inr (1, 63)), .inr (.inr (1, 63))]) dX8_acts_279 rfl (fun _ _ _ => rfl) ?_
  refine zf_gfi (pc' := 283) dX8_acts_280 rfl rfl (by decide) rfl rfl ?_
  refine zf_ld (pc' := 284) (v := .inl v3) dX8_acts_283 rfl (fun _ _ _ => rfl) rfl rfl rfl ?_
  refine zf_ic (v := 3) (pc' := 285) dX8_acts_284 rfl rfl ?_
  refine zf_icmp_ge (tgt := 292) (pc' := 288) dX8_acts_285 rfl rfl (fun g => ?_) (fun g => ?_)
  · replace h := h.1 g
    refine zf_ld (pc' := 293) (v := .inl v3) dX8_acts_292 rfl (fun _ _ _ => rfl) rfl rfl rfl ?_
    refine zf_in (pc' := 294) (S' := [.inl ((m.1 63 11) + v3), .inr (.inr (1, 63))]) dX8_acts_293 rfl (fun _ _ _ => rfl) ?_
    refine zf_pf (pc' := 297) dX8_acts_294 rfl rfl (by decide) rfl rfl rfl (fun m5 e6 => ?_)
    replace h := h m5 e6
    refine zf_ic (v := 0) (pc' := 298) dX8_acts_297 rfl rfl ?_
    refine zf_st (pc' := 300) (L2 := [some (.inr (.inr (1, 63))), some (.inl v1), none, some (.inl v3), some (.inl 0)]) dX8_acts_298 rfl (fun _ _ _ => rfl) rfl rfl rfl rfl rfl rfl ?_
    obtain ⟨n300, h⟩ := h
    exact zf_lo (zq_169_300 (by omega) n300 _ _ h) ⟨rfl, rfl, rfl, trivial⟩
  · replace h := h.2 g
    refine zf_ic (v := 3) (pc' := 289) dX8_acts_288 rfl rfl ?_
    refine zf_goto (tgt := 293) dX8_acts_289 rfl ?_
    refine zf_in (pc' := 294) (S' := [.inl ((m.1 63 11) + 3), .inr (.inr (1, 63))]) dX8_acts_293 rfl (fun _ _ _ => rfl) ?_
    refine zf_pf (pc' := 297) dX8_acts_294 rfl rfl (by decide) rfl rfl rfl (fun m13 e14 => ?_)
    replace h := h m13 e14
    refine zf_ic (v := 0) (pc' := 298) dX8_acts_297 rfl rfl ?_
    refine zf_st (pc' := 300) (L2 := [some (.inr (.inr (1, 63))), some (.inl v1), none, some (.inl v3), some (.inl 0)]) dX8_acts_298 rfl (fun _ _ _ => rfl) rfl rfl rfl rfl rfl rfl ?_
    obtain ⟨n300, h⟩ := h
    exact zf_lo (zq_169_300 (by omega) n300 _ _ h) ⟨rfl, rfl, rfl, trivial⟩
def wq_169_258 (v1 : Int32) (v2 : Int32) (m : zf_Me) (Q : zf_Me → Prop) : Prop := (∀ m1, m1 = zf_u m 63 3 ((m.1 63 3) - 1) → (∀ m3, m3 = zf_u m1 63 6 0 → wq_169_278 v1 (9 + v2) m3 Q))
theorem zq_169_258 {d : Nat} (hd : 1 ≤ d) {v1 : Int32} {Q : zf_Me → Prop} {v2 : Int32} {m : zf_Me} (h : wq_169_258 v1 v2 m Q) : zf_W none 0 0 d zt_169 258 [some (.inr (.inr (1, 63))), some (.inl v1), some (.inl v2), none, none] [] m (zf_O Q) := by
  unfold wq_169_258 at h
  refine zf_ld (pc' := 259) (v := .inr (.inr (1, 63))) dX8_acts_258 rfl (fun _ _ _ => rfl) rfl rfl rfl ?_
  refine zf_in (pc' := 260) (S' := [.inr (.inr (1, 63)), .inr (.inr (1, 63))]) dX8_acts_259 rfl (fun _ _ _ => rfl) ?_
  refine zf_gfi (pc' := 263) dX8_acts_260 rfl rfl (by decide) rfl rfl ?_
  refine zf_ic (v := 1) (pc' := 264) dX8_acts_263 rfl rfl ?_
  refine zf_in (pc' := 265) (S' := [.inl ((m.1 63 3) - 1), .inr (.inr (1, 63))]) dX8_acts_264 rfl (fun _ _ _ => rfl) ?_
  refine zf_pf (pc' := 268) dX8_acts_265 rfl rfl (by decide) rfl rfl rfl (fun m1 e2 => ?_)
  replace h := h m1 e2
  refine zf_ld (pc' := 269) (v := .inr (.inr (1, 63))) dX8_acts_268 rfl (fun _ _ _ => rfl) rfl rfl rfl ?_
  refine zf_ic (v := 0) (pc' := 270) dX8_acts_269 rfl rfl ?_
  refine zf_pf (pc' := 273) dX8_acts_270 rfl rfl (by decide) rfl rfl rfl (fun m3 e4 => ?_)
  replace h := h m3 e4
  refine zf_bi (v := 9) (pc' := 275) dX8_acts_273 rfl rfl ?_
  refine zf_ld (pc' := 276) (v := .inl v2) dX8_acts_275 rfl (fun _ _ _ => rfl) rfl rfl rfl ?_
  refine zf_in (pc' := 277) (S' := [.inl (9 + v2)]) dX8_acts_276 rfl (fun _ _ _ => rfl) ?_
  refine zf_st (pc' := 278) (L2 := [some (.inr (.inr (1, 63))), some (.inl v1), some (.inl v2), some (.inl (9 + v2)), none]) dX8_acts_277 rfl (fun _ _ _ => rfl) rfl rfl rfl rfl rfl rfl ?_
  exact zf_lo (zq_169_278 (by omega) h) ⟨rfl, rfl, rfl, trivial⟩
def wq_169_255 (v1 : Int32) (v2 : Int32) (u0 : Int32) (m : zf_Me) (Q : zf_Me → Prop) : Prop := (∀ m17, m17 = zf_u m 63 3 u0 → wq_169_258 v1 v2 m17 Q)
theorem zq_169_255 {d : Nat} (hd : 1 ≤ d) {v1 : Int32} {Q : zf_Me → Prop} {v2 : Int32} {u0 : Int32} {m : zf_Me} (h : wq_169_255 v1 v2 u0 m Q) : zf_W none 0 0 d zt_169 255 [some (.inr (.inr (1, 63))), some (.inl v1), some (.inl v2), none, none] [.inl u0, .inr (.inr (1, 63))] m (zf_O Q) := by
  unfold wq_169_255 at h
  refine zf_pf (pc' := 258) dX8_acts_255 rfl rfl (by decide) rfl rfl rfl (fun m17 e18 => ?_)
  replace h := h m17 e18
  exact zf_lo (zq_169_258 (by omega) h) ⟨rfl, rfl, rfl, trivial⟩
def wq_169_208 (v1 : Int32) (v2 : Int32) (m : zf_Me) (Q : zf_Me → Prop) : Prop := ((¬ v1.toInt = 8 → wq_169_258 v1 v2 m Q) ∧ (v1.toInt = 8 → (∀ m15, m15 = zf_u m 63 8 ((m.1 63 8) - 1) → (((((m15.1 63 3) + 1)).toInt ≤ (((m15.1 63 4) + 2)).toInt → wq_169_255 v1 v2 ((m15.1 63 3) + 1) m15 Q) ∧ ((((m15.1 63 3) + 1)).toInt > (((m15.1 63 4) + 2)).toInt → wq_169_255 v1 v2 ((m15.1 63 4) + 2) m15 Q)))))
theorem zq_169_208 {d : Nat} (hd : 1 ≤ d) {v1 : Int32} {Q : zf_Me → Prop} {v2 : Int32} {m : zf_Me} (h : wq_169_208 v1 v2 m Q) : zf_W none 0 0 d zt_169 208 [some (.inr (.inr (1, 63))), some (.inl v1), some (.inl v2), none, none] [] m (zf_O Q) := by
  unfold wq_169_208 at h
  refine zf_ld (pc' := 209) (v := .inl v1) dX8_acts_208 rfl (fun _ _ _ => rfl) rfl rfl rfl ?_
  refine zf_bi (v := 8) (pc' := 211) dX8_acts_209 rfl rfl ?_
  refine zf_icmp_ne (tgt := 258) (pc' := 214) dX8_acts_211 rfl rfl (fun g => ?_) (fun g => ?_)
  · replace h := h.1 g
    exact zf_lo (zq_169_258 (by omega) h) ⟨rfl, rfl, rfl, trivial⟩
  · replace h := h.2 g
    refine zf_ld (pc' := 215) (v := .inr (.inr (1, 63))) dX8_acts_214 rfl (fun _ _ _ => rfl) rfl rfl rfl ?_
    refine zf_in (pc' := 216) (S' := [.inr (.inr (1, 63)), .inr (.inr (1, 63))]) dX8_acts_215 rfl (fun _ _ _ => rfl) ?_
    refine zf_gfi (pc' := 219) dX8_acts_216 rfl rfl (by decide) rfl rfl ?_
    refine zf_ic (v := 1) (pc' := 220) dX8_acts_219 rfl rfl ?_
    refine zf_in (pc' := 221) (S' := [.inl ((m.1 63 8) - 1), .inr (.inr (1, 63))]) dX8_acts_220 rfl (fun _ _ _ => rfl) ?_
    refine zf_pf (pc' := 224) dX8_acts_221 rfl rfl (by decide) rfl rfl rfl (fun m15 e16 => ?_)
    replace h := h m15 e16
    refine zf_ld (pc' := 225) (v := .inr (.inr (1, 63))) dX8_acts_224 rfl (fun _ _ _ => rfl) rfl rfl rfl ?_
    refine zf_ld (pc' := 226) (v := .inr (.inr (1, 63))) dX8_acts_225 rfl (fun _ _ _ => rfl) rfl rfl rfl ?_
    refine zf_gfi (pc' := 229) dX8_acts_226 rfl rfl (by decide) rfl rfl ?_
    refine zf_ic (v := 1) (pc' := 230) dX8_acts_229 rfl rfl ?_
    refine zf_in (pc' := 231) (S' := [.inl ((m15.1 63 3) + 1), .inr (.inr (1, 63))]) dX8_acts_230 rfl (fun _ _ _ => rfl) ?_
    refine zf_ld (pc' := 232) (v := .inr (.inr (1, 63))) dX8_acts_231 rfl (fun _ _ _ => rfl) rfl rfl rfl ?_
    refine zf_gfi (pc' := 235) dX8_acts_232 rfl rfl (by decide) rfl rfl ?_
    refine zf_ic (v := 2) (pc' := 236) dX8_acts_235 rfl rfl ?_
    refine zf_in (pc' := 237) (S' := [.inl ((m15.1 63 4) + 2), .inl ((m15.1 63 3) + 1), .inr (.inr (1, 63))]) dX8_acts_236 rfl (fun _ _ _ => rfl) ?_
    refine zf_icmp_le (tgt := 249) (pc' := 240) dX8_acts_237 rfl rfl (fun g => ?_) (fun g => ?_)
    · replace h := h.1 g
      refine zf_ld (pc' := 250) (v := .inr (.inr (1, 63))) dX8_acts_249 rfl (fun _ _ _ => rfl) rfl rfl rfl ?_
      refine zf_gfi (pc' := 253) dX8_acts_250 rfl rfl (by decide) rfl rfl ?_
      refine zf_ic (v := 1) (pc' := 254) dX8_acts_253 rfl rfl ?_
      refine zf_in (pc' := 255) (S' := [.inl ((m15.1 63 3) + 1), .inr (.inr (1, 63))]) dX8_acts_254 rfl (fun _ _ _ => rfl) ?_
      exact zf_lo (zq_169_255 (by omega) h) ⟨rfl, rfl, rfl, trivial⟩
    · replace h := h.2 g
      refine zf_ld (pc' := 241) (v := .inr (.inr (1, 63))) dX8_acts_240 rfl (fun _ _ _ => rfl) rfl rfl rfl ?_
      refine zf_gfi (pc' := 244) dX8_acts_241 rfl rfl (by decide) rfl rfl ?_
      refine zf_ic (v := 2) (pc' := 245) dX8_acts_244 rfl rfl ?_
      refine zf_in (pc' := 246) (S' := [.inl ((m15.1 63 4) + 2), .inr (.inr (1, 63))]) dX8_acts_245 rfl (fun _ _ _ => rfl) ?_
      refine zf_goto (tgt := 255) dX8_acts_246 rfl ?_
      exact zf_lo (zq_169_255 (by omega) h) ⟨rfl, rfl, rfl, trivial⟩
def wq_169_205 (v1 : Int32) (v2 : Int32) (u0 : Int32) (m : zf_Me) (Q : zf_Me → Prop) : Prop := (∀ m21, m21 = zf_u m 63 3 u0 → wq_169_208 v1 v2 m21 Q)
theorem zq_169_205 {d : Nat} (hd : 1 ≤ d) {v1 : Int32} {Q : zf_Me → Prop} {v2 : Int32} {u0 : Int32} {m : zf_Me} (h : wq_169_205 v1 v2 u0 m Q) : zf_W none 0 0 d zt_169 205 [some (.inr (.inr (1, 63))), some (.inl v1), some (.inl v2), none, none] [.inl u0, .inr (.inr (1, 63))] m (zf_O Q) := by
  unfold wq_169_205 at h
  refine zf_pf (pc' := 208) dX8_acts_205 rfl rfl (by decide) rfl rfl rfl (fun m21 e22 => ?_)
  replace h := h m21 e22
  exact zf_lo (zq_169_208 (by omega) h) ⟨rfl, rfl, rfl, trivial⟩
def wq_169_153 (v1 : Int32) (u0 : Int32) (u1 : Int32) (m : zf_Me) (Q : zf_Me → Prop) : Prop := wq_169_278 v1 (u1 + u0) m Q
theorem zq_169_153 {d : Nat} (hd : 1 ≤ d) {v1 : Int32} {Q : zf_Me → Prop} {u0 : Int32} {u1 : Int32} {m : zf_Me} (h : wq_169_153 v1 u0 u1 m Q) : zf_W none 0 0 d zt_169 153 [some (.inr (.inr (1, 63))), some (.inl v1), none, none, none] [.inl u0, .inl u1] m (zf_O Q) := by
  unfold wq_169_153 at h
  refine zf_in (pc' := 154) (S' := [.inl (u1 + u0)]) dX8_acts_153 rfl (fun _ _ _ => rfl) ?_
  refine zf_st (pc' := 155) (L2 := [some (.inr (.inr (1, 63))), some (.inl v1), none, some (.inl (u1 + u0)), none]) dX8_acts_154 rfl (fun _ _ _ => rfl) rfl rfl rfl rfl rfl rfl ?_
  refine zf_goto (tgt := 278) dX8_acts_155 rfl ?_
  exact zf_lo (zq_169_278 (by omega) h) ⟨rfl, rfl, rfl, trivial⟩
def wq_169_136 (v1 : Int32) (v2 : Int32) (m : zf_Me) (Q : zf_Me → Prop) : Prop := ((¬ ((m.1 63 6)).toInt = 1 → wq_169_153 v1 0 (6 + v2) m Q) ∧ (((m.1 63 6)).toInt = 1 → wq_169_153 v1 1 (6 + v2) m Q))
theorem zq_169_136 {d : Nat} (hd : 1 ≤ d) {v1 : Int32} {Q : zf_Me → Prop} {v2 : Int32} {m : zf_Me} (h : wq_169_136 v1 v2 m Q) : zf_W none 0 0 d zt_169 136 [some (.inr (.inr (1, 63))), some (.inl v1), some (.inl v2), none, none] [] m (zf_O Q) := by
  unfold wq_169_136 at h
  refine zf_bi (v := 6) (pc' := 138) dX8_acts_136 rfl rfl ?_
  refine zf_ld (pc' := 139) (v := .inl v2) dX8_acts_138 rfl (fun _ _ _ => rfl) rfl rfl rfl ?_
  refine zf_in (pc' := 140) (S' := [.inl (6 + v2)]) dX8_acts_139 rfl (fun _ _ _ => rfl) ?_
  refine zf_ld (pc' := 141) (v := .inr (.inr (1, 63))) dX8_acts_140 rfl (fun _ _ _ => rfl) rfl rfl rfl ?_
  refine zf_gfi (pc' := 144) dX8_acts_141 rfl rfl (by decide) rfl rfl ?_
  refine zf_ic (v := 1) (pc' := 145) dX8_acts_144 rfl rfl ?_
  refine zf_icmp_ne (tgt := 152) (pc' := 148) dX8_acts_145 rfl rfl (fun g => ?_) (fun g => ?_)
  · replace h := h.1 g
    refine zf_ic (v := 0) (pc' := 153) dX8_acts_152 rfl rfl ?_
    exact zf_lo (zq_169_153 (by omega) h) ⟨rfl, rfl, trivial⟩
  · replace h := h.2 g
    refine zf_ic (v := 1) (pc' := 149) dX8_acts_148 rfl rfl ?_
    refine zf_goto (tgt := 153) dX8_acts_149 rfl ?_
    exact zf_lo (zq_169_153 (by omega) h) ⟨rfl, rfl, trivial⟩
def wq_169_19 (v1 : Int32) (Q : zf_Me → Prop) : Nat → Int32 → zf_Me → Prop
  | 0, _, _ => False
  | n + 1, v2, m => ((v2.toInt ≥ ((m.1 63 1)).toInt → (∀ m33, m33 = zf_u m 63 6 0 → ((((m33.1 63 3)).toInt ≥ ((m33.1 63 4)).toInt → Q m33) ∧ (((m33.1 63 3)).toInt < ((m33.1 63 4)).toInt → (∀ m35, m35 = zf_u m33 63 3 (m33.1 63 4) → Q m35))))) ∧ (v2.toInt < ((m.1 63 1)).toInt → wp_168 v2 6 m (fun m38 => wq_169_19 v1 Q n (v2 + 1) m38)))
theorem zq_169_19 {d : Nat} (hd : 1 ≤ d) {v1 : Int32} {Q : zf_Me → Prop} : ∀ (n : Nat) (v2 : Int32) (m : zf_Me), wq_169_19 v1 Q n v2 m → zf_W none 0 0 d zt_169 19 [some (.inr (.inr (1, 63))), none, some (.inl v2), none, none] [] m (zf_O Q) := by
  obtain ⟨e, rfl⟩ : ∃ z, d = z + 1 := ⟨d - 1, by omega⟩
  intro n
  induction n with
  | zero =>
    intro v2 m h
    exact h.elim
  | succ n ih =>
    intro v2 m h
    unfold wq_169_19 at h
    refine zf_ld (pc' := 20) (v := .inl v2) dX8_acts_19 rfl (fun _ _ _ => rfl) rfl rfl rfl ?_
    refine zf_ld (pc' := 21) (v := .inr (.inr (1, 63))) dX8_acts_20 rfl (fun _ _ _ => rfl) rfl rfl rfl ?_
    refine zf_gfi (pc' := 24) dX8_acts_21 rfl rfl (by decide) rfl rfl ?_
    refine zf_icmp_ge (tgt := 40) (pc' := 27) dX8_acts_24 rfl rfl (fun g => ?_) (fun g => ?_)
    · replace h := h.1 g
      refine zf_ld (pc' := 41) (v := .inr (.inr (1, 63))) dX8_acts_40 rfl (fun _ _ _ => rfl) rfl rfl rfl ?_
      refine zf_ic (v := 0) (pc' := 42) dX8_acts_41 rfl rfl ?_
      refine zf_pf (pc' := 45) dX8_acts_42 rfl rfl (by decide) rfl rfl rfl (fun m33 e34 => ?_)
      replace h := h m33 e34
      refine zf_ld (pc' := 46) (v := .inr (.inr (1, 63))) dX8_acts_45 rfl (fun _ _ _ => rfl) rfl rfl rfl ?_
      refine zf_gfi (pc' := 49) dX8_acts_46 rfl rfl (by decide) rfl rfl ?_
      refine zf_ld (pc' := 50) (v := .inr (.inr (1, 63))) dX8_acts_49 rfl (fun _ _ _ => rfl) rfl rfl rfl ?_
      refine zf_gfi (pc' := 53) dX8_acts_50 rfl rfl (by decide) rfl rfl ?_
      refine zf_icmp_ge (tgt := 64) (pc' := 56) dX8_acts_53 rfl rfl (fun g => ?_) (fun g => ?_)
      · replace h := h.1 g
        exact zf_rv dX8_acts_64 rfl h
      · replace h := h.2 g
        refine zf_ld (pc' := 57) (v := .inr (.inr (1, 63))) dX8_acts_56 rfl (fun _ _ _ => rfl) rfl rfl rfl ?_
        refine zf_ld (pc' := 58) (v := .inr (.inr (1, 63))) dX8_acts_57 rfl (fun _ _ _ => rfl) rfl rfl rfl ?_
        refine zf_gfi (pc' := 61) dX8_acts_58 rfl rfl (by decide) rfl rfl ?_
        refine zf_pf (pc' := 64) dX8_acts_61 rfl rfl (by decide) rfl rfl rfl (fun m35 e36 => ?_)
        replace h := h m35 e36
        exact zf_rv dX8_acts_64 rfl h
    · replace h := h.2 g
      refine zf_ld (pc' := 28) (v := .inr (.inr (1, 63))) dX8_acts_27 rfl (fun _ _ _ => rfl) rfl rfl rfl ?_
      refine zf_ld (pc' := 29) (v := .inl v2) dX8_acts_28 rfl (fun _ _ _ => rfl) rfl rfl rfl ?_
      refine zf_bi (v := 6) (pc' := 31) dX8_acts_29 rfl rfl ?_
      refine zf_iv (k := 168) (pc' := 34) (r := []) dX8_acts_31 rfl rfl rfl rfl (by decide) rfl rfl rfl (zr_168 (by omega) h) (zf_kO (fun m38 h => ?_))
      refine zf_ii (y := (v2 + 1)) (L2 := [some (.inr (.inr (1, 63))), none, some (.inl (v2 + 1)), none, none]) (pc' := 37) dX8_acts_34 rfl rfl rfl rfl rfl ?_
      refine zf_goto (tgt := 19) dX8_acts_37 rfl ?_
      exact zf_lo (ih _ _ h) ⟨rfl, rfl, trivial⟩
def wp_169 (v1 : Int32) (m : zf_Me) (Q : zf_Me → Prop) : Prop := ((¬ v1.toInt = 9 → ((0 ≤ (Int32.toInt (m.1 63 10)) ∧ (Int32.toInt (m.1 63 10)) < (24 : Int)) ∧ ((v1.toInt ≥ 6 → ((¬ v1.toInt = 7 → wq_169_208 v1 (m.1 65 (Int32.toInt (m.1 63 10)).toNat) m Q) ∧ (v1.toInt = 7 → (∀ m19, m19 = zf_u m 63 7 ((m.1 63 7) - 1) → (((((m19.1 63 3) + 2)).toInt ≤ (((m19.1 63 4) + 2)).toInt → wq_169_205 v1 (m.1 65 (Int32.toInt (m.1 63 10)).toNat) ((m19.1 63 3) + 2) m19 Q) ∧ ((((m19.1 63 3) + 2)).toInt > (((m19.1 63 4) + 2)).toInt → wq_169_205 v1 (m.1 65 (Int32.toInt (m.1 63 10)).toNat) ((m19.1 63 4) + 2) m19 Q)))))) ∧ (v1.toInt < 6 → ((0 ≤ (Int32.toInt v1) ∧ (Int32.toInt v1) < (6 : Int)) ∧ wp_165 v1 (m.1 65 (Int32.toInt (m.1 63 10)).toNat) m (fun x23 m24 => ((0 ≤ (Int32.toInt v1) ∧ (Int32.toInt v1) < (6 : Int)) ∧ ∀ m25, m25 = zf_u m24 69 (Int32.toInt v1).toNat ((m.1 69 (Int32.toInt v1).toNat) + x23) → (∀ m27, m27 = zf_u m25 63 6 ((m25.1 63 6) + 1) → ((¬ (((m27.1 63 6) - (m27.1 63 6) / 2 * 2)).toInt = 0 → wq_169_136 v1 (m.1 65 (Int32.toInt (m.1 63 10)).toNat) m27 Q) ∧ ((((m27.1 63 6) - (m27.1 63 6) / 2 * 2)).toInt = 0 → ((((m27.1 63 3)).toInt ≥ ((m27.1 63 4)).toInt → wq_169_136 v1 (m.1 65 (Int32.toInt (m.1 63 10)).toNat) m27 Q) ∧ (((m27.1 63 3)).toInt < ((m27.1 63 4)).toInt → (∀ m29, m29 = zf_u m27 63 3 ((m27.1 63 3) + 1) → wq_169_136 v1 (m.1 65 (Int32.toInt (m.1 63 10)).toNat) m29 Q))))))))))))) ∧ (v1.toInt = 9 → (∀ m31, m31 = zf_u m 63 11 ((m.1 63 11) + 10) → (∃ n19, wq_169_19 v1 Q n19 0 m31))))
theorem zr_169 {d : Nat} (hd : 1 ≤ d) {v1 : Int32} {Q : zf_Me → Prop} {m : zf_Me} (h : wp_169 v1 m Q) : zf_M d 169 [.inr (.inr (1, 63)), .inl v1] m (zf_O Q) := by
  obtain ⟨e, rfl⟩ : ∃ z, d = z + 1 := ⟨d - 1, by omega⟩
  unfold wp_169 at h
  refine zf_M_of (Nat.le_of_ble_eq_true rfl) zm_169 (L := [some (.inr (.inr (1, 63))), some (.inl v1), none, none, none]) rfl ?_
  refine zf_ld (pc' := 1) (v := .inl v1) dX8_acts_0 rfl (fun _ _ _ => rfl) rfl rfl rfl ?_
  refine zf_bi (v := 9) (pc' := 3) dX8_acts_1 rfl rfl ?_
  refine zf_icmp_ne (tgt := 65) (pc' := 6) dX8_acts_3 rfl rfl (fun g => ?_) (fun g => ?_)
  · replace h := h.1 g
    refine zf_ld (pc' := 66) (v := .inr (.inr (1, 63))) dX8_acts_65 rfl (fun _ _ _ => rfl) rfl rfl rfl ?_
    refine zf_gfr (pc' := 69) (b := 65) dX8_acts_66 rfl rfl (by decide) rfl rfl ?_
    refine zf_ld (pc' := 70) (v := .inr (.inr (1, 63))) dX8_acts_69 rfl (fun _ _ _ => rfl) rfl rfl rfl ?_
    refine zf_gfi (pc' := 73) dX8_acts_70 rfl rfl (by decide) rfl rfl ?_
    refine zf_ial (pc' := 74) dX8_acts_73 rfl (⟨by decide, rfl⟩ : zf_arr 65 24).1 (⟨by decide, rfl⟩ : zf_arr 65 24).2 h.1 rfl ?_
    replace h := h.2
    refine zf_st (pc' := 75) (L2 := [some (.inr (.inr (1, 63))), some (.inl v1), some (.inl (m.1 65 (Int32.toInt (m.1 63 10)).toNat)), none, none]) dX8_acts_74 rfl (fun _ _ _ => rfl) rfl rfl rfl rfl rfl rfl ?_
    refine zf_ld (pc' := 76) (v := .inl v1) dX8_acts_75 rfl (fun _ _ _ => rfl) rfl rfl rfl ?_
    refine zf_bi (v := 6) (pc' := 78) dX8_acts_76 rfl rfl ?_
    refine zf_icmp_ge (tgt := 158) (pc' := 81) dX8_acts_78 rfl rfl (fun g => ?_) (fun g => ?_)
    · replace h := h.1 g
      refine zf_ld (pc' := 159) (v := .inl v1) dX8_acts_158 rfl (fun _ _ _ => rfl) rfl rfl rfl ?_
      refine zf_bi (v := 7) (pc' := 161) dX8_acts_159 rfl rfl ?_
      refine zf_icmp_ne (tgt := 208) (pc' := 164) dX8_acts_161 rfl rfl (fun g => ?_) (fun g => ?_)
      · replace h := h.1 g
        exact zf_lo (zq_169_208 (by omega) h) ⟨rfl, rfl, rfl, trivial⟩
      · replace h := h.2 g
        refine zf_ld (pc' := 165) (v := .inr (.inr (1, 63))) dX8_acts_164 rfl (fun _ _ _ => rfl) rfl rfl rfl ?_
        refine zf_in (pc' := 166) (S' := [.inr (.inr (1, 63)), .inr (.inr (1, 63))]) dX8_acts_165 rfl (fun _ _ _ => rfl) ?_
        refine zf_gfi (pc' := 169) dX8_acts_166 rfl rfl (by decide) rfl rfl ?_
        refine zf_ic (v := 1) (pc' := 170) dX8_acts_169 rfl rfl ?_
        refine zf_in (pc' := 171) (S' := [.inl ((m.1 63 7) - 1), .inr (.inr (1, 63))]) dX8_acts_170 rfl (fun _ _ _ => rfl) ?_
        refine zf_pf (pc' := 174) dX8_acts_171 rfl rfl (by decide) rfl rfl rfl (fun m19 e20 => ?_)
        replace h := h m19 e20
        refine zf_ld (pc' := 175) (v := .inr (.inr (1, 63))) dX8_acts_174 rfl (fun _ _ _ => rfl) rfl rfl rfl ?_
        refine zf_ld (pc' := 176) (v := .inr (.inr (1, 63))) dX8_acts_175 rfl (fun _ _ _ => rfl) rfl rfl rfl ?_
        refine zf_gfi (pc' := 179) dX8_acts_176 rfl rfl (by decide) rfl rfl ?_
        refine zf_ic (v := 2) (pc' := 180) dX8_acts_179 rfl rfl ?_
        refine zf_in (pc' := 181) (S' := [.inl ((m19.1 63 3) + 2), .inr (.inr (1, 63))]) dX8_acts_180 rfl (fun _ _ _ => rfl) ?_
        refine zf_ld (pc' := 182) (v := .inr (.inr (1, 63))) dX8_acts_181 rfl (fun _ _ _ => rfl) rfl rfl rfl ?_
        refine zf_gfi (pc' := 185) dX8_acts_182 rfl rfl (by decide) rfl rfl ?_
        refine zf_ic (v := 2) (pc' := 186) dX8_acts_185 rfl rfl ?_
        refine zf_in (pc' := 187) (S' := [.inl ((m19.1 63 4) + 2), .inl ((m19.1 63 3) + 2), .inr (.inr (1, 63))]) dX8_acts_186 rfl (fun _ _ _ => rfl) ?_
        refine zf_icmp_le (tgt := 199) (pc' := 190) dX8_acts_187 rfl rfl (fun g => ?_) (fun g => ?_)
        · replace h := h.1 g
          refine zf_ld (pc' := 200) (v := .inr (.inr (1, 63))) dX8_acts_199 rfl (fun _ _ _ => rfl) rfl rfl rfl ?_
          refine zf_gfi (pc' := 203) dX8_acts_200 rfl rfl (by decide) rfl rfl ?_
          refine zf_ic (v := 2) (pc' := 204) dX8_acts_203 rfl rfl ?_
          refine zf_in (pc' := 205) (S' := [.inl ((m19.1 63 3) + 2), .inr (.inr (1, 63))]) dX8_acts_204 rfl (fun _ _ _ => rfl) ?_
          exact zf_lo (zq_169_205 (by omega) h) ⟨rfl, rfl, rfl, trivial⟩
        · replace h := h.2 g
          refine zf_ld (pc' := 191) (v := .inr (.inr (1, 63))) dX8_acts_190 rfl (fun _ _ _ => rfl) rfl rfl rfl ?_
          refine zf_gfi (pc' := 194) dX8_acts_191 rfl rfl (by decide) rfl rfl ?_
          refine zf_ic (v := 2) (pc' := 195) dX8_acts_194 rfl rfl ?_
          refine zf_in (pc' := 196) (S' := [.inl ((m19.1 63 4) + 2), .inr (.inr (1, 63))]) dX8_acts_195 rfl (fun _ _ _ => rfl) ?_
          refine zf_goto (tgt := 205) dX8_acts_196 rfl ?_
          exact zf_lo (zq_169_205 (by omega) h) ⟨rfl, rfl, rfl, trivial⟩
    · replace h := h.2 g
      refine zf_ld (pc' := 82) (v := .inr (.inr (1, 63))) dX8_acts_81 rfl (fun _ _ _ => rfl) rfl rfl rfl ?_
      refine zf_gfr (pc' := 85) (b := 69) dX8_acts_82 rfl rfl (by decide) rfl rfl ?_
      refine zf_ld (pc' := 86) (v := .inl v1) dX8_acts_85 rfl (fun _ _ _ => rfl) rfl rfl rfl ?_
      refine zf_in (pc' := 87) (S' := [.inl v1, .inr (.inr (1, 69)), .inl v1, .inr (.inr (1, 69))]) dX8_acts_86 rfl (fun _ _ _ => rfl) ?_
      refine zf_ial (pc' := 88) dX8_acts_87 rfl (⟨by decide, rfl⟩ : zf_arr 69 6).1 (⟨by decide, rfl⟩ : zf_arr 69 6).2 h.1 rfl ?_
      replace h := h.2
      refine zf_ld (pc' := 89) (v := .inr (.inr (1, 63))) dX8_acts_88 rfl (fun _ _ _ => rfl) rfl rfl rfl ?_
      refine zf_ld (pc' := 90) (v := .inl v1) dX8_acts_89 rfl (fun _ _ _ => rfl) rfl rfl rfl ?_
      refine zf_ld (pc' := 91) (v := .inl (m.1 65 (Int32.toInt (m.1 63 10)).toNat)) dX8_acts_90 rfl (fun _ _ _ => rfl) rfl rfl rfl ?_
      refine zf_iv (k := 165) (pc' := 94) (r := [.inl (m.1 69 (Int32.toInt v1).toNat), .inl v1, .inr (.inr (1, 69))]) dX8_acts_91 rfl rfl rfl rfl (by decide) rfl rfl rfl (zr_165 (by omega) h) (zf_kI (fun x23 m24 h => ?_))
      refine zf_in (pc' := 95) (S' := [.inl ((m.1 69 (Int32.toInt v1).toNat) + x23), .inl v1, .inr (.inr (1, 69))]) dX8_acts_94 rfl (fun _ _ _ => rfl) ?_
      refine zf_ias (pc' := 96) dX8_acts_95 rfl (⟨by decide, rfl⟩ : zf_arr 69 6).1 (⟨by decide, rfl⟩ : zf_arr 69 6).2 h.1 rfl (fun m25 e26 => ?_)
      replace h := h.2 m25 e26
      refine zf_ld (pc' := 97) (v := .inr (.inr (1, 63))) dX8_acts_96 rfl (fun _ _ _ => rfl) rfl rfl rfl ?_
      refine zf_in (pc' := 98) (S' := [.inr (.inr (1, 63)), .inr (.inr (1, 63))]) dX8_acts_97 rfl (fun _ _ _ => rfl) ?_
      refine zf_gfi (pc' := 101) dX8_acts_98 rfl rfl (by decide) rfl rfl ?_
      refine zf_ic (v := 1) (pc' := 102) dX8_acts_101 rfl rfl ?_
      refine zf_in (pc' := 103) (S' := [.inl ((m25.1 63 6) + 1), .inr (.inr (1, 63))]) dX8_acts_102 rfl (fun _ _ _ => rfl) ?_
      refine zf_pf (pc' := 106) dX8_acts_103 rfl rfl (by decide) rfl rfl rfl (fun m27 e28 => ?_)
      replace h := h m27 e28
      refine zf_ld (pc' := 107) (v := .inr (.inr (1, 63))) dX8_acts_106 rfl (fun _ _ _ => rfl) rfl rfl rfl ?_
      refine zf_gfi (pc' := 110) dX8_acts_107 rfl rfl (by decide) rfl rfl ?_
      refine zf_ic (v := 2) (pc' := 111) dX8_acts_110 rfl rfl ?_
      refine zf_rem (pc' := 112) dX8_acts_111 rfl (by decide) ?_
      refine zf_if_ne (tgt := 136) (pc' := 115) dX8_acts_112 rfl rfl (fun g => ?_) (fun g => ?_)
      · replace h := h.1 g
        exact zf_lo (zq_169_136 (by omega) h) ⟨rfl, rfl, rfl, trivial⟩
      · replace h := h.2 g
        refine zf_ld (pc' := 116) (v := .inr (.inr (1, 63))) dX8_acts_115 rfl (fun _ _ _ => rfl) rfl rfl rfl ?_
        refine zf_gfi (pc' := 119) dX8_acts_116 rfl rfl (by decide) rfl rfl ?_
        refine zf_ld (pc' := 120) (v := .inr (.inr (1, 63))) dX8_acts_119 rfl (fun _ _ _ => rfl) rfl rfl rfl ?_
        refine zf_gfi (pc' := 123) dX8_acts_120 rfl rfl (by decide) rfl rfl ?_
        refine zf_icmp_ge (tgt := 136) (pc' := 126) dX8_acts_123 rfl rfl (fun g => ?_) (fun g => ?_)
        · replace h := h.1 g
          exact zf_lo (zq_169_136 (by omega) h) ⟨rfl, rfl, rfl, trivial⟩
        · replace h := h.2 g
          refine zf_ld (pc' := 127) (v := .inr (.inr (1, 63))) dX8_acts_126 rfl (fun _ _ _ => rfl) rfl rfl rfl ?_
          refine zf_in (pc' := 128) (S' := [.inr (.inr (1, 63)), .inr (.inr (1, 63))]) dX8_acts_127 rfl (fun _ _ _ => rfl) ?_
          refine zf_gfi (pc' := 131) dX8_acts_128 rfl rfl (by decide) rfl rfl ?_
          refine zf_ic (v := 1) (pc' := 132) dX8_acts_131 rfl rfl ?_
          refine zf_in (pc' := 133) (S' := [.inl ((m27.1 63 3) + 1), .inr (.inr (1, 63))]) dX8_acts_132 rfl (fun _ _ _ => rfl) ?_
          refine zf_pf (pc' := 136) dX8_acts_133 rfl rfl (by decide) rfl rfl rfl (fun m29 e30 => ?_)
          replace h := h m29 e30
          exact zf_lo (zq_169_136 (by omega) h) ⟨rfl, rfl, rfl, trivial⟩
  · replace h := h.2 g
    refine zf_ld (pc' := 7) (v := .inr (.inr (1, 63))) dX8_acts_6 rfl (fun _ _ _ => rfl) rfl rfl rfl ?_
    refine zf_in (pc' := 8) (S' := [.inr (.inr (1, 63)), .inr (.inr (1, 63))]) dX8_acts_7 rfl (fun _ _ _ => rfl) ?_
    refine zf_gfi (pc' := 11) dX8_acts_8 rfl rfl (by decide) rfl rfl ?_
    refine zf_bi (v := 10) (pc' := 13) dX8_acts_11 rfl rfl ?_
    refine zf_in (pc' := 14) (S' := [.inl ((m.1 63 11) + 10), .inr (.inr (1, 63))]) dX8_acts_13 rfl (fun _ _ _ => rfl) ?_
    refine zf_pf (pc' := 17) dX8_acts_14 rfl rfl (by decide) rfl rfl rfl (fun m31 e32 => ?_)
    replace h := h m31 e32
    refine zf_ic (v := 0) (pc' := 18) dX8_acts_17 rfl rfl ?_
    refine zf_st (pc' := 19) (L2 := [some (.inr (.inr (1, 63))), some (.inl v1), some (.inl 0), none, none]) dX8_acts_18 rfl (fun _ _ _ => rfl) rfl rfl rfl rfl rfl rfl ?_
    obtain ⟨n19, h⟩ := h
    exact zf_lo (zq_169_19 (by omega) n19 _ _ h) ⟨rfl, rfl, trivial⟩
