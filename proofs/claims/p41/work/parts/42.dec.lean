section
/-! part 42: methods 185..: laid by wip/flat/dec.py -/
def zt_185 : zx_MT := (8, yX8_whose, cX8_whose, 4, (some FieldType.int), 1, 0)
theorem zm_185 : zx_m 185 = zt_185 := rfl
theorem dX8_whose_r0 : zdcP cX8_whose 0 [(.aload_n 0, 1), (.iload_n 1, 1), (.invokevirtual 139, 3), (.ifCond .eq 10, 3), (.aload_n 0, 1), (.getfield 105, 3), (.ifCond .ne 10, 3), (.aload_n 0, 1), (.bipush (-5), 2), (.invokevirtual 115, 3), (.ireturn, 1), (.iconst 0, 1), (.istore_n 2, 1), (.iconst 1, 1), (.istore_n 3, 1), (.iload_n 3, 1)] := zdcA_ok (by decide +kernel)
theorem dX8_whose_0 : decode cX8_whose 0 = .ok (.aload_n 0, 1) := dX8_whose_r0.1
theorem dX8_whose_1 : decode cX8_whose 1 = .ok (.iload_n 1, 1) := dX8_whose_r0.2.1
theorem dX8_whose_2 : decode cX8_whose 2 = .ok (.invokevirtual 139, 3) := dX8_whose_r0.2.2.1
theorem dX8_whose_5 : decode cX8_whose 5 = .ok (.ifCond .eq 10, 3) := dX8_whose_r0.2.2.2.1
theorem dX8_whose_8 : decode cX8_whose 8 = .ok (.aload_n 0, 1) := dX8_whose_r0.2.2.2.2.1
theorem dX8_whose_9 : decode cX8_whose 9 = .ok (.getfield 105, 3) := dX8_whose_r0.2.2.2.2.2.1
theorem dX8_whose_12 : decode cX8_whose 12 = .ok (.ifCond .ne 10, 3) := dX8_whose_r0.2.2.2.2.2.2.1
theorem dX8_whose_15 : decode cX8_whose 15 = .ok (.aload_n 0, 1) := dX8_whose_r0.2.2.2.2.2.2.2.1
theorem dX8_whose_16 : decode cX8_whose 16 = .ok (.bipush (-5), 2) := dX8_whose_r0.2.2.2.2.2.2.2.2.1
theorem dX8_whose_18 : decode cX8_whose 18 = .ok (.invokevirtual 115, 3) := dX8_whose_r0.2.2.2.2.2.2.2.2.2.1
theorem dX8_whose_21 : decode cX8_whose 21 = .ok (.ireturn, 1) := dX8_whose_r0.2.2.2.2.2.2.2.2.2.2.1
theorem dX8_whose_22 : decode cX8_whose 22 = .ok (.iconst 0, 1) := dX8_whose_r0.2.2.2.2.2.2.2.2.2.2.2.1
theorem dX8_whose_23 : decode cX8_whose 23 = .ok (.istore_n 2, 1) := dX8_whose_r0.2.2.2.2.2.2.2.2.2.2.2.2.1
theorem dX8_whose_24 : decode cX8_whose 24 = .ok (.iconst 1, 1) := dX8_whose_r0.2.2.2.2.2.2.2.2.2.2.2.2.2.1
theorem dX8_whose_25 : decode cX8_whose 25 = .ok (.istore_n 3, 1) := dX8_whose_r0.2.2.2.2.2.2.2.2.2.2.2.2.2.2.1
theorem dX8_whose_26 : decode cX8_whose 26 = .ok (.iload_n 3, 1) := dX8_whose_r0.2.2.2.2.2.2.2.2.2.2.2.2.2.2.2.1
theorem dX8_whose_r27 : zdcP cX8_whose 27 [(.aload_n 0, 1), (.getfield 105, 3), (.if_icmp .ge 36, 3), (.aload_n 0, 1), (.iload_n 3, 1), (.aload_n 0, 1), (.getfield 41, 3), (.iload_n 1, 1), (.iaload, 1), (.invokevirtual 126, 3), (.aload_n 0, 1), (.iload_n 2, 1), (.aload_n 0, 1), (.getfield 41, 3), (.iload_n 1, 1), (.iaload, 1)] := zdcA_ok (by decide +kernel)
theorem dX8_whose_27 : decode cX8_whose 27 = .ok (.aload_n 0, 1) := dX8_whose_r27.1
theorem dX8_whose_28 : decode cX8_whose 28 = .ok (.getfield 105, 3) := dX8_whose_r27.2.1
theorem dX8_whose_31 : decode cX8_whose 31 = .ok (.if_icmp .ge 36, 3) := dX8_whose_r27.2.2.1
theorem dX8_whose_34 : decode cX8_whose 34 = .ok (.aload_n 0, 1) := dX8_whose_r27.2.2.2.1
theorem dX8_whose_35 : decode cX8_whose 35 = .ok (.iload_n 3, 1) := dX8_whose_r27.2.2.2.2.1
theorem dX8_whose_36 : decode cX8_whose 36 = .ok (.aload_n 0, 1) := dX8_whose_r27.2.2.2.2.2.1
theorem dX8_whose_37 : decode cX8_whose 37 = .ok (.getfield 41, 3) := dX8_whose_r27.2.2.2.2.2.2.1
theorem dX8_whose_40 : decode cX8_whose 40 = .ok (.iload_n 1, 1) := dX8_whose_r27.2.2.2.2.2.2.2.1
theorem dX8_whose_41 : decode cX8_whose 41 = .ok (.iaload, 1) := dX8_whose_r27.2.2.2.2.2.2.2.2.1
theorem dX8_whose_42 : decode cX8_whose 42 = .ok (.invokevirtual 126, 3) := dX8_whose_r27.2.2.2.2.2.2.2.2.2.1
theorem dX8_whose_45 : decode cX8_whose 45 = .ok (.aload_n 0, 1) := dX8_whose_r27.2.2.2.2.2.2.2.2.2.2.1
theorem dX8_whose_46 : decode cX8_whose 46 = .ok (.iload_n 2, 1) := dX8_whose_r27.2.2.2.2.2.2.2.2.2.2.2.1
theorem dX8_whose_47 : decode cX8_whose 47 = .ok (.aload_n 0, 1) := dX8_whose_r27.2.2.2.2.2.2.2.2.2.2.2.2.1
theorem dX8_whose_48 : decode cX8_whose 48 = .ok (.getfield 41, 3) := dX8_whose_r27.2.2.2.2.2.2.2.2.2.2.2.2.2.1
theorem dX8_whose_51 : decode cX8_whose 51 = .ok (.iload_n 1, 1) := dX8_whose_r27.2.2.2.2.2.2.2.2.2.2.2.2.2.2.1
theorem dX8_whose_52 : decode cX8_whose 52 = .ok (.iaload, 1) := dX8_whose_r27.2.2.2.2.2.2.2.2.2.2.2.2.2.2.2.1
theorem dX8_whose_r53 : zdcP cX8_whose 53 [(.invokevirtual 126, 3), (.if_icmp .ge 5, 3), (.iload_n 3, 1), (.istore_n 2, 1), (.iinc 3 1, 3), (.goto (-38), 3), (.iload_n 2, 1), (.ireturn, 1)] := zdcA_ok (by decide +kernel)
theorem dX8_whose_53 : decode cX8_whose 53 = .ok (.invokevirtual 126, 3) := dX8_whose_r53.1
theorem dX8_whose_56 : decode cX8_whose 56 = .ok (.if_icmp .ge 5, 3) := dX8_whose_r53.2.1
theorem dX8_whose_59 : decode cX8_whose 59 = .ok (.iload_n 3, 1) := dX8_whose_r53.2.2.1
theorem dX8_whose_60 : decode cX8_whose 60 = .ok (.istore_n 2, 1) := dX8_whose_r53.2.2.2.1
theorem dX8_whose_61 : decode cX8_whose 61 = .ok (.iinc 3 1, 3) := dX8_whose_r53.2.2.2.2.1
theorem dX8_whose_64 : decode cX8_whose 64 = .ok (.goto (-38), 3) := dX8_whose_r53.2.2.2.2.2.1
theorem dX8_whose_67 : decode cX8_whose 67 = .ok (.iload_n 2, 1) := dX8_whose_r53.2.2.2.2.2.2.1
theorem dX8_whose_68 : decode cX8_whose 68 = .ok (.ireturn, 1) := dX8_whose_r53.2.2.2.2.2.2.2.1
def wq_185_26 (v1 : Int32) (Q : Int32 → zf_Me → Prop) : Nat → Int32 → Int32 → zf_Me → Prop
  | 0, _, _, _ => False
  | n + 1, v2, v3, m => ((v3.toInt ≥ ((m.1 63 1)).toInt → Q v2 m) ∧ (v3.toInt < ((m.1 63 1)).toInt → ((0 ≤ (Int32.toInt v1) ∧ (Int32.toInt v1) < (24 : Int)) ∧ wp_165 v3 (m.1 65 (Int32.toInt v1).toNat) m (fun x5 m6 => ((0 ≤ (Int32.toInt v1) ∧ (Int32.toInt v1) < (24 : Int)) ∧ wp_165 v2 (m6.1 65 (Int32.toInt v1).toNat) m6 (fun x7 m8 => ((x5.toInt ≥ x7.toInt → wq_185_26 v1 Q n v2 (v3 + 1) m8) ∧ (x5.toInt < x7.toInt → wq_185_26 v1 Q n v3 (v3 + 1) m8))))))))
theorem zq_185_26 {d : Nat} (hd : 1 ≤ d) {v1 : Int32} {Q : Int32 → zf_Me → Prop} : ∀ (n : Nat) (v2 : Int32) (v3 : Int32) (m : zf_Me), wq_185_26 v1 Q n v2 v3 m → zf_W none 0 0 d zt_185 26 [some (.inr (.inr (1, 63))), some (.inl v1), some (.inl v2), some (.inl v3)] [] m (zf_I Q) := by
  obtain ⟨e, rfl⟩ : ∃ z, d = z + 1 := ⟨d - 1, by omega⟩
  intro n
  induction n with
  | zero =>
    intro v2 v3 m h
    exact h.elim
  | succ n ih =>
    intro v2 v3 m h
    unfold wq_185_26 at h
    refine zf_ld (pc' := 27) (v := .inl v3) dX8_whose_26 rfl (fun _ _ _ => rfl) rfl rfl rfl ?_
    refine zf_ld (pc' := 28) (v := .inr (.inr (1, 63))) dX8_whose_27 rfl (fun _ _ _ => rfl) rfl rfl rfl ?_
    refine zf_gfi (pc' := 31) dX8_whose_28 rfl rfl (by decide) rfl rfl ?_
    refine zf_icmp_ge (tgt := 67) (pc' := 34) dX8_whose_31 rfl rfl (fun g => ?_) (fun g => ?_)
    · replace h := h.1 g
      refine zf_ld (pc' := 68) (v := .inl v2) dX8_whose_67 rfl (fun _ _ _ => rfl) rfl rfl rfl ?_
      exact zf_ri dX8_whose_68 rfl h
    · replace h := h.2 g
      refine zf_ld (pc' := 35) (v := .inr (.inr (1, 63))) dX8_whose_34 rfl (fun _ _ _ => rfl) rfl rfl rfl ?_
      refine zf_ld (pc' := 36) (v := .inl v3) dX8_whose_35 rfl (fun _ _ _ => rfl) rfl rfl rfl ?_
      refine zf_ld (pc' := 37) (v := .inr (.inr (1, 63))) dX8_whose_36 rfl (fun _ _ _ => rfl) rfl rfl rfl ?_
      refine zf_gfr (pc' := 40) (b := 65) dX8_whose_37 rfl rfl (by decide) rfl rfl ?_
      refine zf_ld (pc' := 41) (v := .inl v1) dX8_whose_40 rfl (fun _ _ _ => rfl) rfl rfl rfl ?_
      refine zf_ial (pc' := 42) dX8_whose_41 rfl (⟨by decide, rfl⟩ : zf_arr 65 24).1 (⟨by decide, rfl⟩ : zf_arr 65 24).2 h.1 rfl ?_
      replace h := h.2
      refine zf_iv (k := 165) (pc' := 45) (r := []) dX8_whose_42 rfl rfl rfl rfl (by decide) rfl rfl rfl (zr_165 (by omega) h) (zf_kI (fun x5 m6 h => ?_))
      refine zf_ld (pc' := 46) (v := .inr (.inr (1, 63))) dX8_whose_45 rfl (fun _ _ _ => rfl) rfl rfl rfl ?_
      refine zf_ld (pc' := 47) (v := .inl v2) dX8_whose_46 rfl (fun _ _ _ => rfl) rfl rfl rfl ?_
      refine zf_ld (pc' := 48) (v := .inr (.inr (1, 63))) dX8_whose_47 rfl (fun _ _ _ => rfl) rfl rfl rfl ?_
      refine zf_gfr (pc' := 51) (b := 65) dX8_whose_48 rfl rfl (by decide) rfl rfl ?_
      refine zf_ld (pc' := 52) (v := .inl v1) dX8_whose_51 rfl (fun _ _ _ => rfl) rfl rfl rfl ?_
      refine zf_ial (pc' := 53) dX8_whose_52 rfl (⟨by decide, rfl⟩ : zf_arr 65 24).1 (⟨by decide, rfl⟩ : zf_arr 65 24).2 h.1 rfl ?_
      replace h := h.2
      refine zf_iv (k := 165) (pc' := 56) (r := [.inl x5]) dX8_whose_53 rfl rfl rfl rfl (by decide) rfl rfl rfl (zr_165 (by omega) h) (zf_kI (fun x7 m8 h => ?_))
      refine zf_icmp_ge (tgt := 61) (pc' := 59) dX8_whose_56 rfl rfl (fun g => ?_) (fun g => ?_)
      · replace h := h.1 g
        refine zf_ii (y := (v3 + 1)) (L2 := [some (.inr (.inr (1, 63))), some (.inl v1), some (.inl v2), some (.inl (v3 + 1))]) (pc' := 64) dX8_whose_61 rfl rfl rfl rfl rfl ?_
        refine zf_goto (tgt := 26) dX8_whose_64 rfl ?_
        exact zf_lo (ih _ _ _ h) ⟨rfl, rfl, rfl, rfl, trivial⟩
      · replace h := h.2 g
        refine zf_ld (pc' := 60) (v := .inl v3) dX8_whose_59 rfl (fun _ _ _ => rfl) rfl rfl rfl ?_
        refine zf_st (pc' := 61) (L2 := [some (.inr (.inr (1, 63))), some (.inl v1), some (.inl v3), some (.inl v3)]) dX8_whose_60 rfl (fun _ _ _ => rfl) rfl rfl rfl rfl rfl rfl ?_
        refine zf_ii (y := (v3 + 1)) (L2 := [some (.inr (.inr (1, 63))), some (.inl v1), some (.inl v3), some (.inl (v3 + 1))]) (pc' := 64) dX8_whose_61 rfl rfl rfl rfl rfl ?_
        refine zf_goto (tgt := 26) dX8_whose_64 rfl ?_
        exact zf_lo (ih _ _ _ h) ⟨rfl, rfl, rfl, rfl, trivial⟩
def wp_185 (v1 : Int32) (m : zf_Me) (Q : Int32 → zf_Me → Prop) : Prop := wp_129 v1 m (fun b1 m2 => ((b1 = false → wp_125 (-5) m2 (fun x3 m4 => Q x3 m4)) ∧ (b1 = true → ((¬ ((m2.1 63 1)).toInt = 0 → (∃ n26, wq_185_26 v1 Q n26 0 1 m2)) ∧ (((m2.1 63 1)).toInt = 0 → wp_125 (-5) m2 (fun x9 m10 => Q x9 m10))))))
theorem zr_185 {d : Nat} (hd : 1 ≤ d) {v1 : Int32} {Q : Int32 → zf_Me → Prop} {m : zf_Me} (h : wp_185 v1 m Q) : zf_M d 185 [.inr (.inr (1, 63)), .inl v1] m (zf_I Q) := by
  obtain ⟨e, rfl⟩ : ∃ z, d = z + 1 := ⟨d - 1, by omega⟩
  unfold wp_185 at h
  refine zf_M_of (Nat.le_of_ble_eq_true rfl) zm_185 (L := [some (.inr (.inr (1, 63))), some (.inl v1), none, none]) rfl ?_
  refine zf_ld (pc' := 1) (v := .inr (.inr (1, 63))) dX8_whose_0 rfl (fun _ _ _ => rfl) rfl rfl rfl ?_
  refine zf_ld (pc' := 2) (v := .inl v1) dX8_whose_1 rfl (fun _ _ _ => rfl) rfl rfl rfl ?_
  refine zf_iv (k := 129) (pc' := 5) (r := []) dX8_whose_2 rfl rfl rfl rfl (by decide) rfl rfl rfl (zr_129 (by omega) h) (zf_kB (fun b1 m2 h => ?_))
  refine zf_ib_eq (tgt := 15) (pc' := 8) dX8_whose_5 rfl rfl (fun g => ?_) (fun g => ?_)
  · replace h := h.1 g
    refine zf_ld (pc' := 16) (v := .inr (.inr (1, 63))) dX8_whose_15 rfl (fun _ _ _ => rfl) rfl rfl rfl ?_
    refine zf_bi (v := (-5)) (pc' := 18) dX8_whose_16 rfl rfl ?_
    refine zf_iv (k := 125) (pc' := 21) (r := []) dX8_whose_18 rfl rfl rfl rfl (by decide) rfl rfl rfl (zr_125 (by omega) h) (zf_kI (fun x3 m4 h => ?_))
    exact zf_ri dX8_whose_21 rfl h
  · replace h := h.2 g
    refine zf_ld (pc' := 9) (v := .inr (.inr (1, 63))) dX8_whose_8 rfl (fun _ _ _ => rfl) rfl rfl rfl ?_
    refine zf_gfi (pc' := 12) dX8_whose_9 rfl rfl (by decide) rfl rfl ?_
    refine zf_if_ne (tgt := 22) (pc' := 15) dX8_whose_12 rfl rfl (fun g => ?_) (fun g => ?_)
    · replace h := h.1 g
      refine zf_ic (v := 0) (pc' := 23) dX8_whose_22 rfl rfl ?_
      refine zf_st (pc' := 24) (L2 := [some (.inr (.inr (1, 63))), some (.inl v1), some (.inl 0), none]) dX8_whose_23 rfl (fun _ _ _ => rfl) rfl rfl rfl rfl rfl rfl ?_
      refine zf_ic (v := 1) (pc' := 25) dX8_whose_24 rfl rfl ?_
      refine zf_st (pc' := 26) (L2 := [some (.inr (.inr (1, 63))), some (.inl v1), some (.inl 0), some (.inl 1)]) dX8_whose_25 rfl (fun _ _ _ => rfl) rfl rfl rfl rfl rfl rfl ?_
      obtain ⟨n26, h⟩ := h
      exact zf_lo (zq_185_26 (by omega) n26 _ _ _ h) ⟨rfl, rfl, rfl, rfl, trivial⟩
    · replace h := h.2 g
      refine zf_ld (pc' := 16) (v := .inr (.inr (1, 63))) dX8_whose_15 rfl (fun _ _ _ => rfl) rfl rfl rfl ?_
      refine zf_bi (v := (-5)) (pc' := 18) dX8_whose_16 rfl rfl ?_
      refine zf_iv (k := 125) (pc' := 21) (r := []) dX8_whose_18 rfl rfl rfl rfl (by decide) rfl rfl rfl (zr_125 (by omega) h) (zf_kI (fun x9 m10 h => ?_))
      exact zf_ri dX8_whose_21 rfl h
def zt_186 : zx_MT := (8, yX8_turn, cX8_turn, 6, (some FieldType.int), 2, 0)
theorem zm_186 : zx_m 186 = zt_186 := rfl
theorem dX8_turn_r0 : zdcP cX8_turn 0 [(.aload_n 0, 1), (.iload_n 1, 1), (.invokevirtual 278, 3), (.ifCond .eq 7, 3), (.iload_n 2, 1), (.ifCond .ge 10, 3), (.aload_n 0, 1), (.bipush (-6), 2), (.invokevirtual 142, 3), (.ireturn, 1), (.aload_n 0, 1), (.aload_n 0, 1), (.getfield 90, 3), (.iconst 0, 1), (.iconst 0, 1), (.invokevirtual 213, 3)] := zdcA_ok (by decide +kernel)
theorem dX8_turn_0 : decode cX8_turn 0 = .ok (.aload_n 0, 1) := dX8_turn_r0.1
theorem dX8_turn_1 : decode cX8_turn 1 = .ok (.iload_n 1, 1) := dX8_turn_r0.2.1
theorem dX8_turn_2 : decode cX8_turn 2 = .ok (.invokevirtual 278, 3) := dX8_turn_r0.2.2.1
theorem dX8_turn_5 : decode cX8_turn 5 = .ok (.ifCond .eq 7, 3) := dX8_turn_r0.2.2.2.1
theorem dX8_turn_8 : decode cX8_turn 8 = .ok (.iload_n 2, 1) := dX8_turn_r0.2.2.2.2.1
theorem dX8_turn_9 : decode cX8_turn 9 = .ok (.ifCond .ge 10, 3) := dX8_turn_r0.2.2.2.2.2.1
theorem dX8_turn_12 : decode cX8_turn 12 = .ok (.aload_n 0, 1) := dX8_turn_r0.2.2.2.2.2.2.1
theorem dX8_turn_13 : decode cX8_turn 13 = .ok (.bipush (-6), 2) := dX8_turn_r0.2.2.2.2.2.2.2.1
theorem dX8_turn_15 : decode cX8_turn 15 = .ok (.invokevirtual 142, 3) := dX8_turn_r0.2.2.2.2.2.2.2.2.1
theorem dX8_turn_18 : decode cX8_turn 18 = .ok (.ireturn, 1) := dX8_turn_r0.2.2.2.2.2.2.2.2.2.1
theorem dX8_turn_19 : decode cX8_turn 19 = .ok (.aload_n 0, 1) := dX8_turn_r0.2.2.2.2.2.2.2.2.2.2.1
theorem dX8_turn_20 : decode cX8_turn 20 = .ok (.aload_n 0, 1) := dX8_turn_r0.2.2.2.2.2.2.2.2.2.2.2.1
theorem dX8_turn_21 : decode cX8_turn 21 = .ok (.getfield 90, 3) := dX8_turn_r0.2.2.2.2.2.2.2.2.2.2.2.2.1
theorem dX8_turn_24 : decode cX8_turn 24 = .ok (.iconst 0, 1) := dX8_turn_r0.2.2.2.2.2.2.2.2.2.2.2.2.2.1
theorem dX8_turn_25 : decode cX8_turn 25 = .ok (.iconst 0, 1) := dX8_turn_r0.2.2.2.2.2.2.2.2.2.2.2.2.2.2.1
theorem dX8_turn_26 : decode cX8_turn 26 = .ok (.invokevirtual 213, 3) := dX8_turn_r0.2.2.2.2.2.2.2.2.2.2.2.2.2.2.2.1
theorem dX8_turn_r29 : zdcP cX8_turn 29 [(.aload_n 0, 1), (.invokevirtual 263, 3), (.aload_n 0, 1), (.getfield 207, 3), (.istore_n 3, 1), (.iconst (-1), 1), (.istore 4, 2), (.iconst 1, 1), (.istore 5, 2), (.iload 5, 2), (.ifCond .eq 37, 3), (.aload_n 0, 1), (.getfield 210, 3), (.bipush 9, 2), (.aload_n 0, 1), (.getfield 207, 3)] := zdcA_ok (by decide +kernel)
theorem dX8_turn_29 : decode cX8_turn 29 = .ok (.aload_n 0, 1) := dX8_turn_r29.1
theorem dX8_turn_30 : decode cX8_turn 30 = .ok (.invokevirtual 263, 3) := dX8_turn_r29.2.1
theorem dX8_turn_33 : decode cX8_turn 33 = .ok (.aload_n 0, 1) := dX8_turn_r29.2.2.1
theorem dX8_turn_34 : decode cX8_turn 34 = .ok (.getfield 207, 3) := dX8_turn_r29.2.2.2.1
theorem dX8_turn_37 : decode cX8_turn 37 = .ok (.istore_n 3, 1) := dX8_turn_r29.2.2.2.2.1
theorem dX8_turn_38 : decode cX8_turn 38 = .ok (.iconst (-1), 1) := dX8_turn_r29.2.2.2.2.2.1
theorem dX8_turn_39 : decode cX8_turn 39 = .ok (.istore 4, 2) := dX8_turn_r29.2.2.2.2.2.2.1
theorem dX8_turn_41 : decode cX8_turn 41 = .ok (.iconst 1, 1) := dX8_turn_r29.2.2.2.2.2.2.2.1
theorem dX8_turn_42 : decode cX8_turn 42 = .ok (.istore 5, 2) := dX8_turn_r29.2.2.2.2.2.2.2.2.1
theorem dX8_turn_44 : decode cX8_turn 44 = .ok (.iload 5, 2) := dX8_turn_r29.2.2.2.2.2.2.2.2.2.1
theorem dX8_turn_46 : decode cX8_turn 46 = .ok (.ifCond .eq 37, 3) := dX8_turn_r29.2.2.2.2.2.2.2.2.2.2.1
theorem dX8_turn_49 : decode cX8_turn 49 = .ok (.aload_n 0, 1) := dX8_turn_r29.2.2.2.2.2.2.2.2.2.2.2.1
theorem dX8_turn_50 : decode cX8_turn 50 = .ok (.getfield 210, 3) := dX8_turn_r29.2.2.2.2.2.2.2.2.2.2.2.2.1
theorem dX8_turn_53 : decode cX8_turn 53 = .ok (.bipush 9, 2) := dX8_turn_r29.2.2.2.2.2.2.2.2.2.2.2.2.2.1
theorem dX8_turn_55 : decode cX8_turn 55 = .ok (.aload_n 0, 1) := dX8_turn_r29.2.2.2.2.2.2.2.2.2.2.2.2.2.2.1
theorem dX8_turn_56 : decode cX8_turn 56 = .ok (.getfield 207, 3) := dX8_turn_r29.2.2.2.2.2.2.2.2.2.2.2.2.2.2.2.1
theorem dX8_turn_r59 : zdcP cX8_turn 59 [(.imul, 1), (.iadd, 1), (.iload_n 2, 1), (.if_icmp .gt 11, 3), (.aload_n 0, 1), (.getfield 207, 3), (.iload_n 3, 1), (.isub, 1), (.istore 4, 2), (.aload_n 0, 1), (.iload_n 1, 1), (.invokevirtual 266, 3), (.istore 5, 2), (.goto (-36), 3), (.aload_n 0, 1), (.invokevirtual 284, 3)] := zdcA_ok (by decide +kernel)
theorem dX8_turn_59 : decode cX8_turn 59 = .ok (.imul, 1) := dX8_turn_r59.1
theorem dX8_turn_60 : decode cX8_turn 60 = .ok (.iadd, 1) := dX8_turn_r59.2.1
theorem dX8_turn_61 : decode cX8_turn 61 = .ok (.iload_n 2, 1) := dX8_turn_r59.2.2.1
theorem dX8_turn_62 : decode cX8_turn 62 = .ok (.if_icmp .gt 11, 3) := dX8_turn_r59.2.2.2.1
theorem dX8_turn_65 : decode cX8_turn 65 = .ok (.aload_n 0, 1) := dX8_turn_r59.2.2.2.2.1
theorem dX8_turn_66 : decode cX8_turn 66 = .ok (.getfield 207, 3) := dX8_turn_r59.2.2.2.2.2.1
theorem dX8_turn_69 : decode cX8_turn 69 = .ok (.iload_n 3, 1) := dX8_turn_r59.2.2.2.2.2.2.1
theorem dX8_turn_70 : decode cX8_turn 70 = .ok (.isub, 1) := dX8_turn_r59.2.2.2.2.2.2.2.1
theorem dX8_turn_71 : decode cX8_turn 71 = .ok (.istore 4, 2) := dX8_turn_r59.2.2.2.2.2.2.2.2.1
theorem dX8_turn_73 : decode cX8_turn 73 = .ok (.aload_n 0, 1) := dX8_turn_r59.2.2.2.2.2.2.2.2.2.1
theorem dX8_turn_74 : decode cX8_turn 74 = .ok (.iload_n 1, 1) := dX8_turn_r59.2.2.2.2.2.2.2.2.2.2.1
theorem dX8_turn_75 : decode cX8_turn 75 = .ok (.invokevirtual 266, 3) := dX8_turn_r59.2.2.2.2.2.2.2.2.2.2.2.1
theorem dX8_turn_78 : decode cX8_turn 78 = .ok (.istore 5, 2) := dX8_turn_r59.2.2.2.2.2.2.2.2.2.2.2.2.1
theorem dX8_turn_80 : decode cX8_turn 80 = .ok (.goto (-36), 3) := dX8_turn_r59.2.2.2.2.2.2.2.2.2.2.2.2.2.1
theorem dX8_turn_83 : decode cX8_turn 83 = .ok (.aload_n 0, 1) := dX8_turn_r59.2.2.2.2.2.2.2.2.2.2.2.2.2.2.1
theorem dX8_turn_84 : decode cX8_turn 84 = .ok (.invokevirtual 284, 3) := dX8_turn_r59.2.2.2.2.2.2.2.2.2.2.2.2.2.2.2.1
theorem dX8_turn_r87 : zdcP cX8_turn 87 [(.iload 4, 2), (.ireturn, 1)] := zdcA_ok (by decide +kernel)
theorem dX8_turn_87 : decode cX8_turn 87 = .ok (.iload 4, 2) := dX8_turn_r87.1
theorem dX8_turn_89 : decode cX8_turn 89 = .ok (.ireturn, 1) := dX8_turn_r87.2.1
def wq_186_44 (v1 : Int32) (v2 : Int32) (Q : Int32 → zf_Me → Prop) : Nat → Int32 → Int32 → Int32 → zf_Me → Prop
  | 0, _, _, _, _ => False
  | n + 1, v3, v4, v5, m => ((v5.toInt = 0 → wp_182 m (fun m10 => Q v4 m10)) ∧ (¬ v5.toInt = 0 → (((((m.1 63 11) + (9 * (m.1 63 10)))).toInt > v2.toInt → wp_179 v1 m (fun b11 m12 => wq_186_44 v1 v2 Q n v3 v4 (zb b11) m12)) ∧ ((((m.1 63 11) + (9 * (m.1 63 10)))).toInt ≤ v2.toInt → wp_179 v1 m (fun b13 m14 => wq_186_44 v1 v2 Q n v3 ((m.1 63 10) - v3) (zb b13) m14)))))
theorem zq_186_44 {d : Nat} (hd : 5 ≤ d) {v1 : Int32} {v2 : Int32} {Q : Int32 → zf_Me → Prop} : ∀ (n : Nat) (v3 : Int32) (v4 : Int32) (v5 : Int32) (m : zf_Me), wq_186_44 v1 v2 Q n v3 v4 v5 m → zf_W none 0 0 d zt_186 44 [some (.inr (.inr (1, 63))), some (.inl v1), some (.inl v2), some (.inl v3), some (.inl v4), some (.inl v5)] [] m (zf_I Q) := by
  obtain ⟨e, rfl⟩ : ∃ z, d = z + 1 := ⟨d - 1, by omega⟩
  intro n
  induction n with
  | zero =>
    intro v3 v4 v5 m h
    exact h.elim
  | succ n ih =>
    intro v3 v4 v5 m h
    unfold wq_186_44 at h
    refine zf_ld (pc' := 46) (v := .inl v5) dX8_turn_44 rfl (fun _ _ _ => rfl) rfl rfl rfl ?_
    refine zf_if_eq (tgt := 83) (pc' := 49) dX8_turn_46 rfl rfl (fun g => ?_) (fun g => ?_)
    · replace h := h.1 g
      refine zf_ld (pc' := 84) (v := .inr (.inr (1, 63))) dX8_turn_83 rfl (fun _ _ _ => rfl) rfl rfl rfl ?_
      refine zf_iv (k := 182) (pc' := 87) (r := []) dX8_turn_84 rfl rfl rfl rfl (by decide) rfl rfl rfl (zr_182 (by omega) h) (zf_kO (fun m10 h => ?_))
      refine zf_ld (pc' := 89) (v := .inl v4) dX8_turn_87 rfl (fun _ _ _ => rfl) rfl rfl rfl ?_
      exact zf_ri dX8_turn_89 rfl h
    · replace h := h.2 g
      refine zf_ld (pc' := 50) (v := .inr (.inr (1, 63))) dX8_turn_49 rfl (fun _ _ _ => rfl) rfl rfl rfl ?_
      refine zf_gfi (pc' := 53) dX8_turn_50 rfl rfl (by decide) rfl rfl ?_
      refine zf_bi (v := 9) (pc' := 55) dX8_turn_53 rfl rfl ?_
      refine zf_ld (pc' := 56) (v := .inr (.inr (1, 63))) dX8_turn_55 rfl (fun _ _ _ => rfl) rfl rfl rfl ?_
      refine zf_gfi (pc' := 59) dX8_turn_56 rfl rfl (by decide) rfl rfl ?_
      refine zf_in (pc' := 60) (S' := [.inl (9 * (m.1 63 10)), .inl (m.1 63 11)]) dX8_turn_59 rfl (fun _ _ _ => rfl) ?_
      refine zf_in (pc' := 61) (S' := [.inl ((m.1 63 11) + (9 * (m.1 63 10)))]) dX8_turn_60 rfl (fun _ _ _ => rfl) ?_
      refine zf_ld (pc' := 62) (v := .inl v2) dX8_turn_61 rfl (fun _ _ _ => rfl) rfl rfl rfl ?_
      refine zf_icmp_gt (tgt := 73) (pc' := 65) dX8_turn_62 rfl rfl (fun g => ?_) (fun g => ?_)
      · replace h := h.1 g
        refine zf_ld (pc' := 74) (v := .inr (.inr (1, 63))) dX8_turn_73 rfl (fun _ _ _ => rfl) rfl rfl rfl ?_
        refine zf_ld (pc' := 75) (v := .inl v1) dX8_turn_74 rfl (fun _ _ _ => rfl) rfl rfl rfl ?_
        refine zf_iv (k := 179) (pc' := 78) (r := []) dX8_turn_75 rfl rfl rfl rfl (by decide) rfl rfl rfl (zr_179 (by omega) h) (zf_kB (fun b11 m12 h => ?_))
        refine zf_st (pc' := 80) (L2 := [some (.inr (.inr (1, 63))), some (.inl v1), some (.inl v2), some (.inl v3), some (.inl v4), some (.inl (zb b11))]) dX8_turn_78 rfl (fun _ _ _ => rfl) rfl rfl rfl rfl rfl rfl ?_
        refine zf_goto (tgt := 44) dX8_turn_80 rfl ?_
        exact zf_lo (ih _ _ _ _ h) ⟨rfl, rfl, rfl, rfl, rfl, rfl, trivial⟩
      · replace h := h.2 g
        refine zf_ld (pc' := 66) (v := .inr (.inr (1, 63))) dX8_turn_65 rfl (fun _ _ _ => rfl) rfl rfl rfl ?_
        refine zf_gfi (pc' := 69) dX8_turn_66 rfl rfl (by decide) rfl rfl ?_
        refine zf_ld (pc' := 70) (v := .inl v3) dX8_turn_69 rfl (fun _ _ _ => rfl) rfl rfl rfl ?_
        refine zf_in (pc' := 71) (S' := [.inl ((m.1 63 10) - v3)]) dX8_turn_70 rfl (fun _ _ _ => rfl) ?_
        refine zf_st (pc' := 73) (L2 := [some (.inr (.inr (1, 63))), some (.inl v1), some (.inl v2), some (.inl v3), some (.inl ((m.1 63 10) - v3)), some (.inl v5)]) dX8_turn_71 rfl (fun _ _ _ => rfl) rfl rfl rfl rfl rfl rfl ?_
        refine zf_ld (pc' := 74) (v := .inr (.inr (1, 63))) dX8_turn_73 rfl (fun _ _ _ => rfl) rfl rfl rfl ?_
        refine zf_ld (pc' := 75) (v := .inl v1) dX8_turn_74 rfl (fun _ _ _ => rfl) rfl rfl rfl ?_
        refine zf_iv (k := 179) (pc' := 78) (r := []) dX8_turn_75 rfl rfl rfl rfl (by decide) rfl rfl rfl (zr_179 (by omega) h) (zf_kB (fun b13 m14 h => ?_))
        refine zf_st (pc' := 80) (L2 := [some (.inr (.inr (1, 63))), some (.inl v1), some (.inl v2), some (.inl v3), some (.inl ((m.1 63 10) - v3)), some (.inl (zb b13))]) dX8_turn_78 rfl (fun _ _ _ => rfl) rfl rfl rfl rfl rfl rfl ?_
        refine zf_goto (tgt := 44) dX8_turn_80 rfl ?_
        exact zf_lo (ih _ _ _ _ h) ⟨rfl, rfl, rfl, rfl, rfl, rfl, trivial⟩
def wp_186 (v1 : Int32) (v2 : Int32) (m : zf_Me) (Q : Int32 → zf_Me → Prop) : Prop := wp_180 v1 m (fun b1 m2 => ((b1 = false → wp_126 (-6) m2 (fun x3 m4 => Q x3 m4)) ∧ (b1 = true → ((v2.toInt ≥ 0 → wp_161 81 90 0 0 m2 (fun m6 => wp_178 m6 (fun m8 => (∃ n44, wq_186_44 v1 v2 Q n44 (m8.1 63 10) (-1) 1 m8)))) ∧ (v2.toInt < 0 → wp_126 (-6) m2 (fun x15 m16 => Q x15 m16))))))
theorem zr_186 {d : Nat} (hd : 5 ≤ d) {v1 : Int32} {v2 : Int32} {Q : Int32 → zf_Me → Prop} {m : zf_Me} (h : wp_186 v1 v2 m Q) : zf_M d 186 [.inr (.inr (1, 63)), .inl v1, .inl v2] m (zf_I Q) := by
  obtain ⟨e, rfl⟩ : ∃ z, d = z + 1 := ⟨d - 1, by omega⟩
  unfold wp_186 at h
  refine zf_M_of (Nat.le_of_ble_eq_true rfl) zm_186 (L := [some (.inr (.inr (1, 63))), some (.inl v1), some (.inl v2), none, none, none]) rfl ?_
  refine zf_ld (pc' := 1) (v := .inr (.inr (1, 63))) dX8_turn_0 rfl (fun _ _ _ => rfl) rfl rfl rfl ?_
  refine zf_ld (pc' := 2) (v := .inl v1) dX8_turn_1 rfl (fun _ _ _ => rfl) rfl rfl rfl ?_
  refine zf_iv (k := 180) (pc' := 5) (r := []) dX8_turn_2 rfl rfl rfl rfl (by decide) rfl rfl rfl (zr_180 (by omega) h) (zf_kB (fun b1 m2 h => ?_))
  refine zf_ib_eq (tgt := 12) (pc' := 8) dX8_turn_5 rfl rfl (fun g => ?_) (fun g => ?_)
  · replace h := h.1 g
    refine zf_ld (pc' := 13) (v := .inr (.inr (1, 63))) dX8_turn_12 rfl (fun _ _ _ => rfl) rfl rfl rfl ?_
    refine zf_bi (v := (-6)) (pc' := 15) dX8_turn_13 rfl rfl ?_
    refine zf_iv (k := 126) (pc' := 18) (r := []) dX8_turn_15 rfl rfl rfl rfl (by decide) rfl rfl rfl (zr_126 (by omega) h) (zf_kI (fun x3 m4 h => ?_))
    exact zf_ri dX8_turn_18 rfl h
  · replace h := h.2 g
    refine zf_ld (pc' := 9) (v := .inl v2) dX8_turn_8 rfl (fun _ _ _ => rfl) rfl rfl rfl ?_
    refine zf_if_ge (tgt := 19) (pc' := 12) dX8_turn_9 rfl rfl (fun g => ?_) (fun g => ?_)
    · replace h := h.1 g
      refine zf_ld (pc' := 20) (v := .inr (.inr (1, 63))) dX8_turn_19 rfl (fun _ _ _ => rfl) rfl rfl rfl ?_
      refine zf_ld (pc' := 21) (v := .inr (.inr (1, 63))) dX8_turn_20 rfl (fun _ _ _ => rfl) rfl rfl rfl ?_
      refine zf_gfr (pc' := 24) (b := 81) dX8_turn_21 rfl rfl (by decide) rfl rfl ?_
      refine zf_ic (v := 0) (pc' := 25) dX8_turn_24 rfl rfl ?_
      refine zf_ic (v := 0) (pc' := 26) dX8_turn_25 rfl rfl ?_
      refine zf_iv (k := 161) (pc' := 29) (r := []) dX8_turn_26 rfl rfl rfl rfl (by decide) rfl rfl rfl (zr_161 (by omega) (⟨by decide, rfl⟩ : zf_arr 81 90) h) (zf_kO (fun m6 h => ?_))
      refine zf_ld (pc' := 30) (v := .inr (.inr (1, 63))) dX8_turn_29 rfl (fun _ _ _ => rfl) rfl rfl rfl ?_
      refine zf_iv (k := 178) (pc' := 33) (r := []) dX8_turn_30 rfl rfl rfl rfl (by decide) rfl rfl rfl (zr_178 (by omega) h) (zf_kO (fun m8 h => ?_))
      refine zf_ld (pc' := 34) (v := .inr (.inr (1, 63))) dX8_turn_33 rfl (fun _ _ _ => rfl) rfl rfl rfl ?_
      refine zf_gfi (pc' := 37) dX8_turn_34 rfl rfl (by decide) rfl rfl ?_
      refine zf_st (pc' := 38) (L2 := [some (.inr (.inr (1, 63))), some (.inl v1), some (.inl v2), some (.inl (m8.1 63 10)), none, none]) dX8_turn_37 rfl (fun _ _ _ => rfl) rfl rfl rfl rfl rfl rfl ?_
      refine zf_ic (v := (-1)) (pc' := 39) dX8_turn_38 rfl rfl ?_
      refine zf_st (pc' := 41) (L2 := [some (.inr (.inr (1, 63))), some (.inl v1), some (.inl v2), some (.inl (m8.1 63 10)), some (.inl (-1)), none]) dX8_turn_39 rfl (fun _ _ _ => rfl) rfl rfl rfl rfl rfl rfl ?_
      refine zf_ic (v := 1) (pc' := 42) dX8_turn_41 rfl rfl ?_
      refine zf_st (pc' := 44) (L2 := [some (.inr (.inr (1, 63))), some (.inl v1), some (.inl v2), some (.inl (m8.1 63 10)), some (.inl (-1)), some (.inl 1)]) dX8_turn_42 rfl (fun _ _ _ => rfl) rfl rfl rfl rfl rfl rfl ?_
      obtain ⟨n44, h⟩ := h
      exact zf_lo (zq_186_44 (by omega) n44 _ _ _ _ h) ⟨rfl, rfl, rfl, rfl, rfl, rfl, trivial⟩
    · replace h := h.2 g
      refine zf_ld (pc' := 13) (v := .inr (.inr (1, 63))) dX8_turn_12 rfl (fun _ _ _ => rfl) rfl rfl rfl ?_
      refine zf_bi (v := (-6)) (pc' := 15) dX8_turn_13 rfl rfl ?_
      refine zf_iv (k := 126) (pc' := 18) (r := []) dX8_turn_15 rfl rfl rfl rfl (by decide) rfl rfl rfl (zr_126 (by omega) h) (zf_kI (fun x15 m16 h => ?_))
      exact zf_ri dX8_turn_18 rfl h
def zt_187 : zx_MT := (8, yX8_pays, cX8_pays, 6, (some FieldType.int), 1, 0)
theorem zm_187 : zx_m 187 = zt_187 := rfl
theorem dX8_pays_r0 : zdcP cX8_pays 0 [(.aload_n 0, 1), (.iload_n 1, 1), (.invokevirtual 278, 3), (.ifCond .ne 10, 3), (.aload_n 0, 1), (.bipush (-6), 2), (.invokevirtual 115, 3), (.ireturn, 1), (.aload_n 0, 1), (.bipush 9, 2), (.invokevirtual 180, 3), (.ifCond .ne 5, 3), (.iconst 0, 1), (.ireturn, 1), (.aload_n 0, 1), (.iload_n 1, 1)] := zdcA_ok (by decide +kernel)
theorem dX8_pays_0 : decode cX8_pays 0 = .ok (.aload_n 0, 1) := dX8_pays_r0.1
theorem dX8_pays_1 : decode cX8_pays 1 = .ok (.iload_n 1, 1) := dX8_pays_r0.2.1
theorem dX8_pays_2 : decode cX8_pays 2 = .ok (.invokevirtual 278, 3) := dX8_pays_r0.2.2.1
theorem dX8_pays_5 : decode cX8_pays 5 = .ok (.ifCond .ne 10, 3) := dX8_pays_r0.2.2.2.1
theorem dX8_pays_8 : decode cX8_pays 8 = .ok (.aload_n 0, 1) := dX8_pays_r0.2.2.2.2.1
theorem dX8_pays_9 : decode cX8_pays 9 = .ok (.bipush (-6), 2) := dX8_pays_r0.2.2.2.2.2.1
theorem dX8_pays_11 : decode cX8_pays 11 = .ok (.invokevirtual 115, 3) := dX8_pays_r0.2.2.2.2.2.2.1
theorem dX8_pays_14 : decode cX8_pays 14 = .ok (.ireturn, 1) := dX8_pays_r0.2.2.2.2.2.2.2.1
theorem dX8_pays_15 : decode cX8_pays 15 = .ok (.aload_n 0, 1) := dX8_pays_r0.2.2.2.2.2.2.2.2.1
theorem dX8_pays_16 : decode cX8_pays 16 = .ok (.bipush 9, 2) := dX8_pays_r0.2.2.2.2.2.2.2.2.2.1
theorem dX8_pays_18 : decode cX8_pays 18 = .ok (.invokevirtual 180, 3) := dX8_pays_r0.2.2.2.2.2.2.2.2.2.2.1
theorem dX8_pays_21 : decode cX8_pays 21 = .ok (.ifCond .ne 5, 3) := dX8_pays_r0.2.2.2.2.2.2.2.2.2.2.2.1
theorem dX8_pays_24 : decode cX8_pays 24 = .ok (.iconst 0, 1) := dX8_pays_r0.2.2.2.2.2.2.2.2.2.2.2.2.1
theorem dX8_pays_25 : decode cX8_pays 25 = .ok (.ireturn, 1) := dX8_pays_r0.2.2.2.2.2.2.2.2.2.2.2.2.2.1
theorem dX8_pays_26 : decode cX8_pays 26 = .ok (.aload_n 0, 1) := dX8_pays_r0.2.2.2.2.2.2.2.2.2.2.2.2.2.2.1
theorem dX8_pays_27 : decode cX8_pays 27 = .ok (.iload_n 1, 1) := dX8_pays_r0.2.2.2.2.2.2.2.2.2.2.2.2.2.2.2.1
theorem dX8_pays_r28 : zdcP cX8_pays 28 [(.invokevirtual 281, 3), (.aload_n 0, 1), (.invokevirtual 284, 3), (.aload_n 0, 1), (.getfield 269, 3), (.istore_n 2, 1), (.aload_n 0, 1), (.getfield 275, 3), (.istore_n 3, 1), (.aload_n 0, 1), (.invokevirtual 241, 3), (.istore 4, 2), (.aload_n 0, 1), (.aload_n 0, 1), (.getfield 84, 3), (.iconst 0, 1)] := zdcA_ok (by decide +kernel)
theorem dX8_pays_28 : decode cX8_pays 28 = .ok (.invokevirtual 281, 3) := dX8_pays_r28.1
theorem dX8_pays_31 : decode cX8_pays 31 = .ok (.aload_n 0, 1) := dX8_pays_r28.2.1
theorem dX8_pays_32 : decode cX8_pays 32 = .ok (.invokevirtual 284, 3) := dX8_pays_r28.2.2.1
theorem dX8_pays_35 : decode cX8_pays 35 = .ok (.aload_n 0, 1) := dX8_pays_r28.2.2.2.1
theorem dX8_pays_36 : decode cX8_pays 36 = .ok (.getfield 269, 3) := dX8_pays_r28.2.2.2.2.1
theorem dX8_pays_39 : decode cX8_pays 39 = .ok (.istore_n 2, 1) := dX8_pays_r28.2.2.2.2.2.1
theorem dX8_pays_40 : decode cX8_pays 40 = .ok (.aload_n 0, 1) := dX8_pays_r28.2.2.2.2.2.2.1
theorem dX8_pays_41 : decode cX8_pays 41 = .ok (.getfield 275, 3) := dX8_pays_r28.2.2.2.2.2.2.2.1
theorem dX8_pays_44 : decode cX8_pays 44 = .ok (.istore_n 3, 1) := dX8_pays_r28.2.2.2.2.2.2.2.2.1
theorem dX8_pays_45 : decode cX8_pays 45 = .ok (.aload_n 0, 1) := dX8_pays_r28.2.2.2.2.2.2.2.2.2.1
theorem dX8_pays_46 : decode cX8_pays 46 = .ok (.invokevirtual 241, 3) := dX8_pays_r28.2.2.2.2.2.2.2.2.2.2.1
theorem dX8_pays_49 : decode cX8_pays 49 = .ok (.istore 4, 2) := dX8_pays_r28.2.2.2.2.2.2.2.2.2.2.2.1
theorem dX8_pays_51 : decode cX8_pays 51 = .ok (.aload_n 0, 1) := dX8_pays_r28.2.2.2.2.2.2.2.2.2.2.2.2.1
theorem dX8_pays_52 : decode cX8_pays 52 = .ok (.aload_n 0, 1) := dX8_pays_r28.2.2.2.2.2.2.2.2.2.2.2.2.2.1
theorem dX8_pays_53 : decode cX8_pays 53 = .ok (.getfield 84, 3) := dX8_pays_r28.2.2.2.2.2.2.2.2.2.2.2.2.2.2.1
theorem dX8_pays_56 : decode cX8_pays 56 = .ok (.iconst 0, 1) := dX8_pays_r28.2.2.2.2.2.2.2.2.2.2.2.2.2.2.2.1
theorem dX8_pays_r57 : zdcP cX8_pays 57 [(.iconst 0, 1), (.invokevirtual 213, 3), (.aload_n 0, 1), (.bipush 9, 2), (.invokevirtual 196, 3), (.aload_n 0, 1), (.iload_n 1, 1), (.invokevirtual 281, 3), (.aload_n 0, 1), (.aload_n 0, 1), (.getfield 84, 3), (.iconst 0, 1), (.iconst 1, 1), (.invokevirtual 213, 3), (.aload_n 0, 1), (.getfield 275, 3)] := zdcA_ok (by decide +kernel)
theorem dX8_pays_57 : decode cX8_pays 57 = .ok (.iconst 0, 1) := dX8_pays_r57.1
theorem dX8_pays_58 : decode cX8_pays 58 = .ok (.invokevirtual 213, 3) := dX8_pays_r57.2.1
theorem dX8_pays_61 : decode cX8_pays 61 = .ok (.aload_n 0, 1) := dX8_pays_r57.2.2.1
theorem dX8_pays_62 : decode cX8_pays 62 = .ok (.bipush 9, 2) := dX8_pays_r57.2.2.2.1
theorem dX8_pays_64 : decode cX8_pays 64 = .ok (.invokevirtual 196, 3) := dX8_pays_r57.2.2.2.2.1
theorem dX8_pays_67 : decode cX8_pays 67 = .ok (.aload_n 0, 1) := dX8_pays_r57.2.2.2.2.2.1
theorem dX8_pays_68 : decode cX8_pays 68 = .ok (.iload_n 1, 1) := dX8_pays_r57.2.2.2.2.2.2.1
theorem dX8_pays_69 : decode cX8_pays 69 = .ok (.invokevirtual 281, 3) := dX8_pays_r57.2.2.2.2.2.2.2.1
theorem dX8_pays_72 : decode cX8_pays 72 = .ok (.aload_n 0, 1) := dX8_pays_r57.2.2.2.2.2.2.2.2.1
theorem dX8_pays_73 : decode cX8_pays 73 = .ok (.aload_n 0, 1) := dX8_pays_r57.2.2.2.2.2.2.2.2.2.1
theorem dX8_pays_74 : decode cX8_pays 74 = .ok (.getfield 84, 3) := dX8_pays_r57.2.2.2.2.2.2.2.2.2.2.1
theorem dX8_pays_77 : decode cX8_pays 77 = .ok (.iconst 0, 1) := dX8_pays_r57.2.2.2.2.2.2.2.2.2.2.2.1
theorem dX8_pays_78 : decode cX8_pays 78 = .ok (.iconst 1, 1) := dX8_pays_r57.2.2.2.2.2.2.2.2.2.2.2.2.1
theorem dX8_pays_79 : decode cX8_pays 79 = .ok (.invokevirtual 213, 3) := dX8_pays_r57.2.2.2.2.2.2.2.2.2.2.2.2.2.1
theorem dX8_pays_82 : decode cX8_pays 82 = .ok (.aload_n 0, 1) := dX8_pays_r57.2.2.2.2.2.2.2.2.2.2.2.2.2.2.1
theorem dX8_pays_83 : decode cX8_pays 83 = .ok (.getfield 275, 3) := dX8_pays_r57.2.2.2.2.2.2.2.2.2.2.2.2.2.2.2.1
theorem dX8_pays_r86 : zdcP cX8_pays 86 [(.iload 4, 2), (.if_icmp .le 10, 3), (.aload_n 0, 1), (.getfield 275, 3), (.goto 5, 3), (.iload 4, 2), (.istore 5, 2), (.aload_n 0, 1), (.getfield 269, 3), (.iload_n 2, 1), (.if_icmp .gt 17, 3), (.aload_n 0, 1), (.getfield 269, 3), (.iload_n 2, 1), (.if_icmp .ne 13, 3), (.iload 5, 2)] := zdcA_ok (by decide +kernel)
theorem dX8_pays_86 : decode cX8_pays 86 = .ok (.iload 4, 2) := dX8_pays_r86.1
theorem dX8_pays_88 : decode cX8_pays 88 = .ok (.if_icmp .le 10, 3) := dX8_pays_r86.2.1
theorem dX8_pays_91 : decode cX8_pays 91 = .ok (.aload_n 0, 1) := dX8_pays_r86.2.2.1
theorem dX8_pays_92 : decode cX8_pays 92 = .ok (.getfield 275, 3) := dX8_pays_r86.2.2.2.1
theorem dX8_pays_95 : decode cX8_pays 95 = .ok (.goto 5, 3) := dX8_pays_r86.2.2.2.2.1
theorem dX8_pays_98 : decode cX8_pays 98 = .ok (.iload 4, 2) := dX8_pays_r86.2.2.2.2.2.1
theorem dX8_pays_100 : decode cX8_pays 100 = .ok (.istore 5, 2) := dX8_pays_r86.2.2.2.2.2.2.1
theorem dX8_pays_102 : decode cX8_pays 102 = .ok (.aload_n 0, 1) := dX8_pays_r86.2.2.2.2.2.2.2.1
theorem dX8_pays_103 : decode cX8_pays 103 = .ok (.getfield 269, 3) := dX8_pays_r86.2.2.2.2.2.2.2.2.1
theorem dX8_pays_106 : decode cX8_pays 106 = .ok (.iload_n 2, 1) := dX8_pays_r86.2.2.2.2.2.2.2.2.2.1
theorem dX8_pays_107 : decode cX8_pays 107 = .ok (.if_icmp .gt 17, 3) := dX8_pays_r86.2.2.2.2.2.2.2.2.2.2.1
theorem dX8_pays_110 : decode cX8_pays 110 = .ok (.aload_n 0, 1) := dX8_pays_r86.2.2.2.2.2.2.2.2.2.2.2.1
theorem dX8_pays_111 : decode cX8_pays 111 = .ok (.getfield 269, 3) := dX8_pays_r86.2.2.2.2.2.2.2.2.2.2.2.2.1
theorem dX8_pays_114 : decode cX8_pays 114 = .ok (.iload_n 2, 1) := dX8_pays_r86.2.2.2.2.2.2.2.2.2.2.2.2.2.1
theorem dX8_pays_115 : decode cX8_pays 115 = .ok (.if_icmp .ne 13, 3) := dX8_pays_r86.2.2.2.2.2.2.2.2.2.2.2.2.2.2.1
theorem dX8_pays_118 : decode cX8_pays 118 = .ok (.iload 5, 2) := dX8_pays_r86.2.2.2.2.2.2.2.2.2.2.2.2.2.2.2.1
theorem dX8_pays_r120 : zdcP cX8_pays 120 [(.iload_n 3, 1), (.if_icmp .ge 7, 3), (.iconst 1, 1), (.goto 4, 3), (.iconst 0, 1), (.ireturn, 1)] := zdcA_ok (by decide +kernel)
theorem dX8_pays_120 : decode cX8_pays 120 = .ok (.iload_n 3, 1) := dX8_pays_r120.1
theorem dX8_pays_121 : decode cX8_pays 121 = .ok (.if_icmp .ge 7, 3) := dX8_pays_r120.2.1
theorem dX8_pays_124 : decode cX8_pays 124 = .ok (.iconst 1, 1) := dX8_pays_r120.2.2.1
theorem dX8_pays_125 : decode cX8_pays 125 = .ok (.goto 4, 3) := dX8_pays_r120.2.2.2.1
theorem dX8_pays_128 : decode cX8_pays 128 = .ok (.iconst 0, 1) := dX8_pays_r120.2.2.2.2.1
theorem dX8_pays_129 : decode cX8_pays 129 = .ok (.ireturn, 1) := dX8_pays_r120.2.2.2.2.2.1
def wq_187_100 (v1 : Int32) (v2 : Int32) (v3 : Int32) (u0 : Int32) (m : zf_Me) (Q : Int32 → zf_Me → Prop) : Prop := ((((m.1 63 47)).toInt > v2.toInt → Q 1 m) ∧ (((m.1 63 47)).toInt ≤ v2.toInt → ((¬ ((m.1 63 47)).toInt = v2.toInt → Q 0 m) ∧ (((m.1 63 47)).toInt = v2.toInt → ((u0.toInt ≥ v3.toInt → Q 0 m) ∧ (u0.toInt < v3.toInt → Q 1 m))))))
theorem zq_187_100 {d : Nat} (hd : 6 ≤ d) {v1 : Int32} {Q : Int32 → zf_Me → Prop} {v2 : Int32} {v3 : Int32} {u0 : Int32} {m : zf_Me} (h : wq_187_100 v1 v2 v3 u0 m Q) : zf_W none 0 0 d zt_187 100 [some (.inr (.inr (1, 63))), none, some (.inl v2), some (.inl v3), none, none] [.inl u0] m (zf_I Q) := by
  unfold wq_187_100 at h
  refine zf_st (pc' := 102) (L2 := [some (.inr (.inr (1, 63))), none, some (.inl v2), some (.inl v3), none, some (.inl u0)]) dX8_pays_100 rfl (fun _ _ _ => rfl) rfl rfl rfl rfl rfl rfl ?_
  refine zf_ld (pc' := 103) (v := .inr (.inr (1, 63))) dX8_pays_102 rfl (fun _ _ _ => rfl) rfl rfl rfl ?_
  refine zf_gfi (pc' := 106) dX8_pays_103 rfl rfl (by decide) rfl rfl ?_
  refine zf_ld (pc' := 107) (v := .inl v2) dX8_pays_106 rfl (fun _ _ _ => rfl) rfl rfl rfl ?_
  refine zf_icmp_gt (tgt := 124) (pc' := 110) dX8_pays_107 rfl rfl (fun g => ?_) (fun g => ?_)
  · replace h := h.1 g
    refine zf_ic (v := 1) (pc' := 125) dX8_pays_124 rfl rfl ?_
    refine zf_goto (tgt := 129) dX8_pays_125 rfl ?_
    exact zf_ri dX8_pays_129 rfl h
  · replace h := h.2 g
    refine zf_ld (pc' := 111) (v := .inr (.inr (1, 63))) dX8_pays_110 rfl (fun _ _ _ => rfl) rfl rfl rfl ?_
    refine zf_gfi (pc' := 114) dX8_pays_111 rfl rfl (by decide) rfl rfl ?_
    refine zf_ld (pc' := 115) (v := .inl v2) dX8_pays_114 rfl (fun _ _ _ => rfl) rfl rfl rfl ?_
    refine zf_icmp_ne (tgt := 128) (pc' := 118) dX8_pays_115 rfl rfl (fun g => ?_) (fun g => ?_)
    · replace h := h.1 g
      refine zf_ic (v := 0) (pc' := 129) dX8_pays_128 rfl rfl ?_
      exact zf_ri dX8_pays_129 rfl h
    · replace h := h.2 g
      refine zf_ld (pc' := 120) (v := .inl u0) dX8_pays_118 rfl (fun _ _ _ => rfl) rfl rfl rfl ?_
      refine zf_ld (pc' := 121) (v := .inl v3) dX8_pays_120 rfl (fun _ _ _ => rfl) rfl rfl rfl ?_
      refine zf_icmp_ge (tgt := 128) (pc' := 124) dX8_pays_121 rfl rfl (fun g => ?_) (fun g => ?_)
      · replace h := h.1 g
        refine zf_ic (v := 0) (pc' := 129) dX8_pays_128 rfl rfl ?_
        exact zf_ri dX8_pays_129 rfl h
      · replace h := h.2 g
        refine zf_ic (v := 1) (pc' := 125) dX8_pays_124 rfl rfl ?_
        refine zf_goto (tgt := 129) dX8_pays_125 rfl ?_
        exact zf_ri dX8_pays_129 rfl h
def wp_187 (v1 : Int32) (m : zf_Me) (Q : Int32 → zf_Me → Prop) : Prop := wp_180 v1 m (fun b1 m2 => ((b1 = true → wp_167 9 m2 (fun b3 m4 => ((b3 = true → wp_181 v1 m4 (fun m6 => wp_182 m6 (fun m8 => wp_170 m8 (fun x9 m10 => wp_161 79 90 0 0 m10 (fun m12 => wp_169 9 m12 (fun m14 => wp_181 v1 m14 (fun m16 => wp_161 79 90 0 1 m16 (fun m18 => ((((m18.1 63 49)).toInt ≤ x9.toInt → wq_187_100 v1 (m8.1 63 47) (m8.1 63 49) x9 m18 Q) ∧ (((m18.1 63 49)).toInt > x9.toInt → wq_187_100 v1 (m8.1 63 47) (m8.1 63 49) (m18.1 63 49) m18 Q)))))))))) ∧ (b3 = false → Q 0 m4)))) ∧ (b1 = false → wp_125 (-6) m2 (fun x19 m20 => Q x19 m20))))
theorem zr_187 {d : Nat} (hd : 6 ≤ d) {v1 : Int32} {Q : Int32 → zf_Me → Prop} {m : zf_Me} (h : wp_187 v1 m Q) : zf_M d 187 [.inr (.inr (1, 63)), .inl v1] m (zf_I Q) := by
  obtain ⟨e, rfl⟩ : ∃ z, d = z + 1 := ⟨d - 1, by omega⟩
  unfold wp_187 at h
  refine zf_M_of (Nat.le_of_ble_eq_true rfl) zm_187 (L := [some (.inr (.inr (1, 63))), some (.inl v1), none, none, none, none]) rfl ?_
  refine zf_ld (pc' := 1) (v := .inr (.inr (1, 63))) dX8_pays_0 rfl (fun _ _ _ => rfl) rfl rfl rfl ?_
  refine zf_ld (pc' := 2) (v := .inl v1) dX8_pays_1 rfl (fun _ _ _ => rfl) rfl rfl rfl ?_
  refine zf_iv (k := 180) (pc' := 5) (r := []) dX8_pays_2 rfl rfl rfl rfl (by decide) rfl rfl rfl (zr_180 (by omega) h) (zf_kB (fun b1 m2 h => ?_))
  refine zf_ib_ne (tgt := 15) (pc' := 8) dX8_pays_5 rfl rfl (fun g => ?_) (fun g => ?_)
  · replace h := h.1 g
    refine zf_ld (pc' := 16) (v := .inr (.inr (1, 63))) dX8_pays_15 rfl (fun _ _ _ => rfl) rfl rfl rfl ?_
    refine zf_bi (v := 9) (pc' := 18) dX8_pays_16 rfl rfl ?_
    refine zf_iv (k := 167) (pc' := 21) (r := []) dX8_pays_18 rfl rfl rfl rfl (by decide) rfl rfl rfl (zr_167 (by omega) h) (zf_kB (fun b3 m4 h => ?_))
    refine zf_ib_ne (tgt := 26) (pc' := 24) dX8_pays_21 rfl rfl (fun g => ?_) (fun g => ?_)
    · replace h := h.1 g
      refine zf_ld (pc' := 27) (v := .inr (.inr (1, 63))) dX8_pays_26 rfl (fun _ _ _ => rfl) rfl rfl rfl ?_
      refine zf_ld (pc' := 28) (v := .inl v1) dX8_pays_27 rfl (fun _ _ _ => rfl) rfl rfl rfl ?_
      refine zf_iv (k := 181) (pc' := 31) (r := []) dX8_pays_28 rfl rfl rfl rfl (by decide) rfl rfl rfl (zr_181 (by omega) h) (zf_kO (fun m6 h => ?_))
      refine zf_ld (pc' := 32) (v := .inr (.inr (1, 63))) dX8_pays_31 rfl (fun _ _ _ => rfl) rfl rfl rfl ?_
      refine zf_iv (k := 182) (pc' := 35) (r := []) dX8_pays_32 rfl rfl rfl rfl (by decide) rfl rfl rfl (zr_182 (by omega) h) (zf_kO (fun m8 h => ?_))
      refine zf_ld (pc' := 36) (v := .inr (.inr (1, 63))) dX8_pays_35 rfl (fun _ _ _ => rfl) rfl rfl rfl ?_
      refine zf_gfi (pc' := 39) dX8_pays_36 rfl rfl (by decide) rfl rfl ?_
      refine zf_st (pc' := 40) (L2 := [some (.inr (.inr (1, 63))), some (.inl v1), some (.inl (m8.1 63 47)), none, none, none]) dX8_pays_39 rfl (fun _ _ _ => rfl) rfl rfl rfl rfl rfl rfl ?_
      refine zf_ld (pc' := 41) (v := .inr (.inr (1, 63))) dX8_pays_40 rfl (fun _ _ _ => rfl) rfl rfl rfl ?_
      refine zf_gfi (pc' := 44) dX8_pays_41 rfl rfl (by decide) rfl rfl ?_
      refine zf_st (pc' := 45) (L2 := [some (.inr (.inr (1, 63))), some (.inl v1), some (.inl (m8.1 63 47)), some (.inl (m8.1 63 49)), none, none]) dX8_pays_44 rfl (fun _ _ _ => rfl) rfl rfl rfl rfl rfl rfl ?_
      refine zf_ld (pc' := 46) (v := .inr (.inr (1, 63))) dX8_pays_45 rfl (fun _ _ _ => rfl) rfl rfl rfl ?_
      refine zf_iv (k := 170) (pc' := 49) (r := []) dX8_pays_46 rfl rfl rfl rfl (by decide) rfl rfl rfl (zr_170 (by omega) h) (zf_kI (fun x9 m10 h => ?_))
      refine zf_st (pc' := 51) (L2 := [some (.inr (.inr (1, 63))), some (.inl v1), some (.inl (m8.1 63 47)), some (.inl (m8.1 63 49)), some (.inl x9), none]) dX8_pays_49 rfl (fun _ _ _ => rfl) rfl rfl rfl rfl rfl rfl ?_
      refine zf_ld (pc' := 52) (v := .inr (.inr (1, 63))) dX8_pays_51 rfl (fun _ _ _ => rfl) rfl rfl rfl ?_
      refine zf_ld (pc' := 53) (v := .inr (.inr (1, 63))) dX8_pays_52 rfl (fun _ _ _ => rfl) rfl rfl rfl ?_
      refine zf_gfr (pc' := 56) (b := 79) dX8_pays_53 rfl rfl (by decide) rfl rfl ?_
      refine zf_ic (v := 0) (pc' := 57) dX8_pays_56 rfl rfl ?_
      refine zf_ic (v := 0) (pc' := 58) dX8_pays_57 rfl rfl ?_
      refine zf_iv (k := 161) (pc' := 61) (r := []) dX8_pays_58 rfl rfl rfl rfl (by decide) rfl rfl rfl (zr_161 (by omega) (⟨by decide, rfl⟩ : zf_arr 79 90) h) (zf_kO (fun m12 h => ?_))
      refine zf_ld (pc' := 62) (v := .inr (.inr (1, 63))) dX8_pays_61 rfl (fun _ _ _ => rfl) rfl rfl rfl ?_
      refine zf_bi (v := 9) (pc' := 64) dX8_pays_62 rfl rfl ?_
      refine zf_iv (k := 169) (pc' := 67) (r := []) dX8_pays_64 rfl rfl rfl rfl (by decide) rfl rfl rfl (zr_169 (by omega) h) (zf_kO (fun m14 h => ?_))
      refine zf_ld (pc' := 68) (v := .inr (.inr (1, 63))) dX8_pays_67 rfl (fun _ _ _ => rfl) rfl rfl rfl ?_
      refine zf_ld (pc' := 69) (v := .inl v1) dX8_pays_68 rfl (fun _ _ _ => rfl) rfl rfl rfl ?_
      refine zf_iv (k := 181) (pc' := 72) (r := []) dX8_pays_69 rfl rfl rfl rfl (by decide) rfl rfl rfl (zr_181 (by omega) h) (zf_kO (fun m16 h => ?_))
      refine zf_ld (pc' := 73) (v := .inr (.inr (1, 63))) dX8_pays_72 rfl (fun _ _ _ => rfl) rfl rfl rfl ?_
      refine zf_ld (pc' := 74) (v := .inr (.inr (1, 63))) dX8_pays_73 rfl (fun _ _ _ => rfl) rfl rfl rfl ?_
      refine zf_gfr (pc' := 77) (b := 79) dX8_pays_74 rfl rfl (by decide) rfl rfl ?_
      refine zf_ic (v := 0) (pc' := 78) dX8_pays_77 rfl rfl ?_
      refine zf_ic (v := 1) (pc' := 79) dX8_pays_78 rfl rfl ?_
      refine zf_iv (k := 161) (pc' := 82) (r := []) dX8_pays_79 rfl rfl rfl rfl (by decide) rfl rfl rfl (zr_161 (by omega) (⟨by decide, rfl⟩ : zf_arr 79 90) h) (zf_kO (fun m18 h => ?_))
      refine zf_ld (pc' := 83) (v := .inr (.inr (1, 63))) dX8_pays_82 rfl (fun _ _ _ => rfl) rfl rfl rfl ?_
      refine zf_gfi (pc' := 86) dX8_pays_83 rfl rfl (by decide) rfl rfl ?_
      refine zf_ld (pc' := 88) (v := .inl x9) dX8_pays_86 rfl (fun _ _ _ => rfl) rfl rfl rfl ?_
      refine zf_icmp_le (tgt := 98) (pc' := 91) dX8_pays_88 rfl rfl (fun g => ?_) (fun g => ?_)
      · replace h := h.1 g
        refine zf_ld (pc' := 100) (v := .inl x9) dX8_pays_98 rfl (fun _ _ _ => rfl) rfl rfl rfl ?_
        exact zf_lo (zq_187_100 (by omega) h) ⟨rfl, rfl, rfl, trivial⟩
      · replace h := h.2 g
        refine zf_ld (pc' := 92) (v := .inr (.inr (1, 63))) dX8_pays_91 rfl (fun _ _ _ => rfl) rfl rfl rfl ?_
        refine zf_gfi (pc' := 95) dX8_pays_92 rfl rfl (by decide) rfl rfl ?_
        refine zf_goto (tgt := 100) dX8_pays_95 rfl ?_
        exact zf_lo (zq_187_100 (by omega) h) ⟨rfl, rfl, rfl, trivial⟩
    · replace h := h.2 g
      refine zf_ic (v := 0) (pc' := 25) dX8_pays_24 rfl rfl ?_
      exact zf_ri dX8_pays_25 rfl h
  · replace h := h.2 g
    refine zf_ld (pc' := 9) (v := .inr (.inr (1, 63))) dX8_pays_8 rfl (fun _ _ _ => rfl) rfl rfl rfl ?_
    refine zf_bi (v := (-6)) (pc' := 11) dX8_pays_9 rfl rfl ?_
    refine zf_iv (k := 125) (pc' := 14) (r := []) dX8_pays_11 rfl rfl rfl rfl (by decide) rfl rfl rfl (zr_125 (by omega) h) (zf_kI (fun x19 m20 h => ?_))
    exact zf_ri dX8_pays_14 rfl h
def zt_188 : zx_MT := (8, yX8_bagged, cX8_bagged, 7, (some FieldType.int), 1, 0)
theorem zm_188 : zx_m 188 = zt_188 := rfl
theorem dX8_bagged_r0 : zdcP cX8_bagged 0 [(.aload_n 0, 1), (.iload_n 1, 1), (.invokevirtual 278, 3), (.ifCond .ne 10, 3), (.aload_n 0, 1), (.bipush (-6), 2), (.invokevirtual 142, 3), (.ireturn, 1), (.aload_n 0, 1), (.getfield 9, 3), (.istore_n 2, 1), (.iconst (-1), 1), (.istore_n 3, 1), (.iconst (-1), 1), (.istore 4, 2), (.iconst 0, 1)] := zdcA_ok (by decide +kernel)
theorem dX8_bagged_0 : decode cX8_bagged 0 = .ok (.aload_n 0, 1) := dX8_bagged_r0.1
theorem dX8_bagged_1 : decode cX8_bagged 1 = .ok (.iload_n 1, 1) := dX8_bagged_r0.2.1
theorem dX8_bagged_2 : decode cX8_bagged 2 = .ok (.invokevirtual 278, 3) := dX8_bagged_r0.2.2.1
theorem dX8_bagged_5 : decode cX8_bagged 5 = .ok (.ifCond .ne 10, 3) := dX8_bagged_r0.2.2.2.1
theorem dX8_bagged_8 : decode cX8_bagged 8 = .ok (.aload_n 0, 1) := dX8_bagged_r0.2.2.2.2.1
theorem dX8_bagged_9 : decode cX8_bagged 9 = .ok (.bipush (-6), 2) := dX8_bagged_r0.2.2.2.2.2.1
theorem dX8_bagged_11 : decode cX8_bagged 11 = .ok (.invokevirtual 142, 3) := dX8_bagged_r0.2.2.2.2.2.2.1
theorem dX8_bagged_14 : decode cX8_bagged 14 = .ok (.ireturn, 1) := dX8_bagged_r0.2.2.2.2.2.2.2.1
theorem dX8_bagged_15 : decode cX8_bagged 15 = .ok (.aload_n 0, 1) := dX8_bagged_r0.2.2.2.2.2.2.2.2.1
theorem dX8_bagged_16 : decode cX8_bagged 16 = .ok (.getfield 9, 3) := dX8_bagged_r0.2.2.2.2.2.2.2.2.2.1
theorem dX8_bagged_19 : decode cX8_bagged 19 = .ok (.istore_n 2, 1) := dX8_bagged_r0.2.2.2.2.2.2.2.2.2.2.1
theorem dX8_bagged_20 : decode cX8_bagged 20 = .ok (.iconst (-1), 1) := dX8_bagged_r0.2.2.2.2.2.2.2.2.2.2.2.1
theorem dX8_bagged_21 : decode cX8_bagged 21 = .ok (.istore_n 3, 1) := dX8_bagged_r0.2.2.2.2.2.2.2.2.2.2.2.2.1
theorem dX8_bagged_22 : decode cX8_bagged 22 = .ok (.iconst (-1), 1) := dX8_bagged_r0.2.2.2.2.2.2.2.2.2.2.2.2.2.1
theorem dX8_bagged_23 : decode cX8_bagged 23 = .ok (.istore 4, 2) := dX8_bagged_r0.2.2.2.2.2.2.2.2.2.2.2.2.2.2.1
theorem dX8_bagged_25 : decode cX8_bagged 25 = .ok (.iconst 0, 1) := dX8_bagged_r0.2.2.2.2.2.2.2.2.2.2.2.2.2.2.2.1
theorem dX8_bagged_r26 : zdcP cX8_bagged 26 [(.istore 5, 2), (.iconst (-1), 1), (.istore 6, 2), (.iload 6, 2), (.aload_n 0, 1), (.getfield 105, 3), (.if_icmp .ge 75, 3), (.aload_n 0, 1), (.iload 6, 2), (.putfield 9, 3), (.aload_n 0, 1), (.iload_n 1, 1), (.invokevirtual 281, 3), (.aload_n 0, 1), (.invokevirtual 284, 3), (.iload 4, 2)] := zdcA_ok (by decide +kernel)
theorem dX8_bagged_26 : decode cX8_bagged 26 = .ok (.istore 5, 2) := dX8_bagged_r26.1
theorem dX8_bagged_28 : decode cX8_bagged 28 = .ok (.iconst (-1), 1) := dX8_bagged_r26.2.1
theorem dX8_bagged_29 : decode cX8_bagged 29 = .ok (.istore 6, 2) := dX8_bagged_r26.2.2.1
theorem dX8_bagged_31 : decode cX8_bagged 31 = .ok (.iload 6, 2) := dX8_bagged_r26.2.2.2.1
theorem dX8_bagged_33 : decode cX8_bagged 33 = .ok (.aload_n 0, 1) := dX8_bagged_r26.2.2.2.2.1
theorem dX8_bagged_34 : decode cX8_bagged 34 = .ok (.getfield 105, 3) := dX8_bagged_r26.2.2.2.2.2.1
theorem dX8_bagged_37 : decode cX8_bagged 37 = .ok (.if_icmp .ge 75, 3) := dX8_bagged_r26.2.2.2.2.2.2.1
theorem dX8_bagged_40 : decode cX8_bagged 40 = .ok (.aload_n 0, 1) := dX8_bagged_r26.2.2.2.2.2.2.2.1
theorem dX8_bagged_41 : decode cX8_bagged 41 = .ok (.iload 6, 2) := dX8_bagged_r26.2.2.2.2.2.2.2.2.1
theorem dX8_bagged_43 : decode cX8_bagged 43 = .ok (.putfield 9, 3) := dX8_bagged_r26.2.2.2.2.2.2.2.2.2.1
theorem dX8_bagged_46 : decode cX8_bagged 46 = .ok (.aload_n 0, 1) := dX8_bagged_r26.2.2.2.2.2.2.2.2.2.2.1
theorem dX8_bagged_47 : decode cX8_bagged 47 = .ok (.iload_n 1, 1) := dX8_bagged_r26.2.2.2.2.2.2.2.2.2.2.2.1
theorem dX8_bagged_48 : decode cX8_bagged 48 = .ok (.invokevirtual 281, 3) := dX8_bagged_r26.2.2.2.2.2.2.2.2.2.2.2.2.1
theorem dX8_bagged_51 : decode cX8_bagged 51 = .ok (.aload_n 0, 1) := dX8_bagged_r26.2.2.2.2.2.2.2.2.2.2.2.2.2.1
theorem dX8_bagged_52 : decode cX8_bagged 52 = .ok (.invokevirtual 284, 3) := dX8_bagged_r26.2.2.2.2.2.2.2.2.2.2.2.2.2.2.1
theorem dX8_bagged_55 : decode cX8_bagged 55 = .ok (.iload 4, 2) := dX8_bagged_r26.2.2.2.2.2.2.2.2.2.2.2.2.2.2.2.1
theorem dX8_bagged_r57 : zdcP cX8_bagged 57 [(.iconst (-1), 1), (.if_icmp .eq 33, 3), (.aload_n 0, 1), (.getfield 269, 3), (.iload 4, 2), (.if_icmp .lt 39, 3), (.aload_n 0, 1), (.getfield 269, 3), (.iload 4, 2), (.if_icmp .ne 15, 3), (.aload_n 0, 1), (.getfield 275, 3), (.iload 5, 2), (.if_icmp .lt 6, 3), (.goto 18, 3), (.iload 6, 2)] := zdcA_ok (by decide +kernel)
theorem dX8_bagged_57 : decode cX8_bagged 57 = .ok (.iconst (-1), 1) := dX8_bagged_r57.1
theorem dX8_bagged_58 : decode cX8_bagged 58 = .ok (.if_icmp .eq 33, 3) := dX8_bagged_r57.2.1
theorem dX8_bagged_61 : decode cX8_bagged 61 = .ok (.aload_n 0, 1) := dX8_bagged_r57.2.2.1
theorem dX8_bagged_62 : decode cX8_bagged 62 = .ok (.getfield 269, 3) := dX8_bagged_r57.2.2.2.1
theorem dX8_bagged_65 : decode cX8_bagged 65 = .ok (.iload 4, 2) := dX8_bagged_r57.2.2.2.2.1
theorem dX8_bagged_67 : decode cX8_bagged 67 = .ok (.if_icmp .lt 39, 3) := dX8_bagged_r57.2.2.2.2.2.1
theorem dX8_bagged_70 : decode cX8_bagged 70 = .ok (.aload_n 0, 1) := dX8_bagged_r57.2.2.2.2.2.2.1
theorem dX8_bagged_71 : decode cX8_bagged 71 = .ok (.getfield 269, 3) := dX8_bagged_r57.2.2.2.2.2.2.2.1
theorem dX8_bagged_74 : decode cX8_bagged 74 = .ok (.iload 4, 2) := dX8_bagged_r57.2.2.2.2.2.2.2.2.1
theorem dX8_bagged_76 : decode cX8_bagged 76 = .ok (.if_icmp .ne 15, 3) := dX8_bagged_r57.2.2.2.2.2.2.2.2.2.1
theorem dX8_bagged_79 : decode cX8_bagged 79 = .ok (.aload_n 0, 1) := dX8_bagged_r57.2.2.2.2.2.2.2.2.2.2.1
theorem dX8_bagged_80 : decode cX8_bagged 80 = .ok (.getfield 275, 3) := dX8_bagged_r57.2.2.2.2.2.2.2.2.2.2.2.1
theorem dX8_bagged_83 : decode cX8_bagged 83 = .ok (.iload 5, 2) := dX8_bagged_r57.2.2.2.2.2.2.2.2.2.2.2.2.1
theorem dX8_bagged_85 : decode cX8_bagged 85 = .ok (.if_icmp .lt 6, 3) := dX8_bagged_r57.2.2.2.2.2.2.2.2.2.2.2.2.2.1
theorem dX8_bagged_88 : decode cX8_bagged 88 = .ok (.goto 18, 3) := dX8_bagged_r57.2.2.2.2.2.2.2.2.2.2.2.2.2.2.1
theorem dX8_bagged_91 : decode cX8_bagged 91 = .ok (.iload 6, 2) := dX8_bagged_r57.2.2.2.2.2.2.2.2.2.2.2.2.2.2.2.1
theorem dX8_bagged_r93 : zdcP cX8_bagged 93 [(.istore_n 3, 1), (.aload_n 0, 1), (.getfield 269, 3), (.istore 4, 2), (.aload_n 0, 1), (.getfield 275, 3), (.istore 5, 2), (.iinc 6 1, 3), (.goto (-78), 3), (.aload_n 0, 1), (.iload_n 2, 1), (.putfield 9, 3), (.iload_n 3, 1), (.ireturn, 1)] := zdcA_ok (by decide +kernel)
theorem dX8_bagged_93 : decode cX8_bagged 93 = .ok (.istore_n 3, 1) := dX8_bagged_r93.1
theorem dX8_bagged_94 : decode cX8_bagged 94 = .ok (.aload_n 0, 1) := dX8_bagged_r93.2.1
theorem dX8_bagged_95 : decode cX8_bagged 95 = .ok (.getfield 269, 3) := dX8_bagged_r93.2.2.1
theorem dX8_bagged_98 : decode cX8_bagged 98 = .ok (.istore 4, 2) := dX8_bagged_r93.2.2.2.1
theorem dX8_bagged_100 : decode cX8_bagged 100 = .ok (.aload_n 0, 1) := dX8_bagged_r93.2.2.2.2.1
theorem dX8_bagged_101 : decode cX8_bagged 101 = .ok (.getfield 275, 3) := dX8_bagged_r93.2.2.2.2.2.1
theorem dX8_bagged_104 : decode cX8_bagged 104 = .ok (.istore 5, 2) := dX8_bagged_r93.2.2.2.2.2.2.1
theorem dX8_bagged_106 : decode cX8_bagged 106 = .ok (.iinc 6 1, 3) := dX8_bagged_r93.2.2.2.2.2.2.2.1
theorem dX8_bagged_109 : decode cX8_bagged 109 = .ok (.goto (-78), 3) := dX8_bagged_r93.2.2.2.2.2.2.2.2.1
theorem dX8_bagged_112 : decode cX8_bagged 112 = .ok (.aload_n 0, 1) := dX8_bagged_r93.2.2.2.2.2.2.2.2.2.1
theorem dX8_bagged_113 : decode cX8_bagged 113 = .ok (.iload_n 2, 1) := dX8_bagged_r93.2.2.2.2.2.2.2.2.2.2.1
theorem dX8_bagged_114 : decode cX8_bagged 114 = .ok (.putfield 9, 3) := dX8_bagged_r93.2.2.2.2.2.2.2.2.2.2.2.1
theorem dX8_bagged_117 : decode cX8_bagged 117 = .ok (.iload_n 3, 1) := dX8_bagged_r93.2.2.2.2.2.2.2.2.2.2.2.2.1
theorem dX8_bagged_118 : decode cX8_bagged 118 = .ok (.ireturn, 1) := dX8_bagged_r93.2.2.2.2.2.2.2.2.2.2.2.2.2.1
def wq_188_91 (v1 : Int32) (F31 : Int32 → Int32 → Int32 → Int32 → Int32 → zf_Me → Prop) (v2 : Int32) (v6 : Int32) (m : zf_Me) (Q : Int32 → zf_Me → Prop) : Prop := F31 v2 v6 (m.1 63 47) (m.1 63 49) (v6 + 1) m
theorem zq_188_91 {d : Nat} (hd : 6 ≤ d) {v1 : Int32} {F31 : Int32 → Int32 → Int32 → Int32 → Int32 → zf_Me → Prop} {Q : Int32 → zf_Me → Prop} (hF31 : ∀ (v2 : Int32) (v3 : Int32) (v4 : Int32) (v5 : Int32) (v6 : Int32) (m : zf_Me), F31 v2 v3 v4 v5 v6 m → zf_W none 0 0 d zt_188 31 [some (.inr (.inr (1, 63))), some (.inl v1), some (.inl v2), some (.inl v3), some (.inl v4), some (.inl v5), some (.inl v6)] [] m (zf_I Q)) {v2 : Int32} {v6 : Int32} {m : zf_Me} (h : wq_188_91 v1 F31 v2 v6 m Q) : zf_W none 0 0 d zt_188 91 [some (.inr (.inr (1, 63))), some (.inl v1), some (.inl v2), none, none, none, some (.inl v6)] [] m (zf_I Q) := by
  unfold wq_188_91 at h
  refine zf_ld (pc' := 93) (v := .inl v6) dX8_bagged_91 rfl (fun _ _ _ => rfl) rfl rfl rfl ?_
  refine zf_st (pc' := 94) (L2 := [some (.inr (.inr (1, 63))), some (.inl v1), some (.inl v2), some (.inl v6), none, none, some (.inl v6)]) dX8_bagged_93 rfl (fun _ _ _ => rfl) rfl rfl rfl rfl rfl rfl ?_
  refine zf_ld (pc' := 95) (v := .inr (.inr (1, 63))) dX8_bagged_94 rfl (fun _ _ _ => rfl) rfl rfl rfl ?_
  refine zf_gfi (pc' := 98) dX8_bagged_95 rfl rfl (by decide) rfl rfl ?_
  refine zf_st (pc' := 100) (L2 := [some (.inr (.inr (1, 63))), some (.inl v1), some (.inl v2), some (.inl v6), some (.inl (m.1 63 47)), none, some (.inl v6)]) dX8_bagged_98 rfl (fun _ _ _ => rfl) rfl rfl rfl rfl rfl rfl ?_
  refine zf_ld (pc' := 101) (v := .inr (.inr (1, 63))) dX8_bagged_100 rfl (fun _ _ _ => rfl) rfl rfl rfl ?_
  refine zf_gfi (pc' := 104) dX8_bagged_101 rfl rfl (by decide) rfl rfl ?_
  refine zf_st (pc' := 106) (L2 := [some (.inr (.inr (1, 63))), some (.inl v1), some (.inl v2), some (.inl v6), some (.inl (m.1 63 47)), some (.inl (m.1 63 49)), some (.inl v6)]) dX8_bagged_104 rfl (fun _ _ _ => rfl) rfl rfl rfl rfl rfl rfl ?_
  refine zf_ii (y := (v6 + 1)) (L2 := [some (.inr (.inr (1, 63))), some (.inl v1), some (.inl v2), some (.inl v6), some (.inl (m.1 63 47)), some (.inl (m.1 63 49)), some (.inl (v6 + 1))]) (pc' := 109) dX8_bagged_106 rfl rfl rfl rfl rfl ?_
  refine zf_goto (tgt := 31) dX8_bagged_109 rfl ?_
  exact zf_lo (hF31 _ _ _ _ _ _ h) ⟨rfl, rfl, rfl, rfl, rfl, rfl, rfl, trivial⟩
def wq_188_31 (v1 : Int32) (Q : Int32 → zf_Me → Prop) : Nat → Int32 → Int32 → Int32 → Int32 → Int32 → zf_Me → Prop
  | 0, _, _, _, _, _, _ => False
  | n + 1, v2, v3, v4, v5, v6, m => ((v6.toInt ≥ ((m.1 63 1)).toInt → (∀ m3, m3 = zf_u m 63 2 v2 → Q v3 m3)) ∧ (v6.toInt < ((m.1 63 1)).toInt → (∀ m5, m5 = zf_u m 63 2 v6 → wp_181 v1 m5 (fun m8 => wp_182 m8 (fun m10 => ((v4.toInt = (-1) → wq_188_91 v1 (wq_188_31 v1 Q n) v2 v6 m10 Q) ∧ (¬ v4.toInt = (-1) → ((((m10.1 63 47)).toInt < v4.toInt → wq_188_31 v1 Q n v2 v3 v4 v5 (v6 + 1) m10) ∧ (((m10.1 63 47)).toInt ≥ v4.toInt → ((¬ ((m10.1 63 47)).toInt = v4.toInt → wq_188_91 v1 (wq_188_31 v1 Q n) v2 v6 m10 Q) ∧ (((m10.1 63 47)).toInt = v4.toInt → ((((m10.1 63 49)).toInt < v5.toInt → wq_188_91 v1 (wq_188_31 v1 Q n) v2 v6 m10 Q) ∧ (((m10.1 63 49)).toInt ≥ v5.toInt → wq_188_31 v1 Q n v2 v3 v4 v5 (v6 + 1) m10)))))))))))))
theorem zq_188_31 {d : Nat} (hd : 6 ≤ d) {v1 : Int32} {Q : Int32 → zf_Me → Prop} : ∀ (n : Nat) (v2 : Int32) (v3 : Int32) (v4 : Int32) (v5 : Int32) (v6 : Int32) (m : zf_Me), wq_188_31 v1 Q n v2 v3 v4 v5 v6 m → zf_W none 0 0 d zt_188 31 [some (.inr (.inr (1, 63))), some (.inl v1), some (.inl v2), some (.inl v3), some (.inl v4), some (.inl v5), some (.inl v6)] [] m (zf_I Q) := by
  obtain ⟨e, rfl⟩ : ∃ z, d = z + 1 := ⟨d - 1, by omega⟩
  intro n
  induction n with
  | zero =>
    intro v2 v3 v4 v5 v6 m h
    exact h.elim
  | succ n ih =>
    intro v2 v3 v4 v5 v6 m h
    unfold wq_188_31 at h
    refine zf_ld (pc' := 33) (v := .inl v6) dX8_bagged_31 rfl (fun _ _ _ => rfl) rfl rfl rfl ?_
    refine zf_ld (pc' := 34) (v := .inr (.inr (1, 63))) dX8_bagged_33 rfl (fun _ _ _ => rfl) rfl rfl rfl ?_
    refine zf_gfi (pc' := 37) dX8_bagged_34 rfl rfl (by decide) rfl rfl ?_
    refine zf_icmp_ge (tgt := 112) (pc' := 40) dX8_bagged_37 rfl rfl (fun g => ?_) (fun g => ?_)
    · replace h := h.1 g
      refine zf_ld (pc' := 113) (v := .inr (.inr (1, 63))) dX8_bagged_112 rfl (fun _ _ _ => rfl) rfl rfl rfl ?_
      refine zf_ld (pc' := 114) (v := .inl v2) dX8_bagged_113 rfl (fun _ _ _ => rfl) rfl rfl rfl ?_
      refine zf_pf (pc' := 117) dX8_bagged_114 rfl rfl (by decide) rfl rfl rfl (fun m3 e4 => ?_)
      replace h := h m3 e4
      refine zf_ld (pc' := 118) (v := .inl v3) dX8_bagged_117 rfl (fun _ _ _ => rfl) rfl rfl rfl ?_
      exact zf_ri dX8_bagged_118 rfl h
    · replace h := h.2 g
      refine zf_ld (pc' := 41) (v := .inr (.inr (1, 63))) dX8_bagged_40 rfl (fun _ _ _ => rfl) rfl rfl rfl ?_
      refine zf_ld (pc' := 43) (v := .inl v6) dX8_bagged_41 rfl (fun _ _ _ => rfl) rfl rfl rfl ?_
      refine zf_pf (pc' := 46) dX8_bagged_43 rfl rfl (by decide) rfl rfl rfl (fun m5 e6 => ?_)
      replace h := h m5 e6
      refine zf_ld (pc' := 47) (v := .inr (.inr (1, 63))) dX8_bagged_46 rfl (fun _ _ _ => rfl) rfl rfl rfl ?_
      refine zf_ld (pc' := 48) (v := .inl v1) dX8_bagged_47 rfl (fun _ _ _ => rfl) rfl rfl rfl ?_
      refine zf_iv (k := 181) (pc' := 51) (r := []) dX8_bagged_48 rfl rfl rfl rfl (by decide) rfl rfl rfl (zr_181 (by omega) h) (zf_kO (fun m8 h => ?_))
      refine zf_ld (pc' := 52) (v := .inr (.inr (1, 63))) dX8_bagged_51 rfl (fun _ _ _ => rfl) rfl rfl rfl ?_
      refine zf_iv (k := 182) (pc' := 55) (r := []) dX8_bagged_52 rfl rfl rfl rfl (by decide) rfl rfl rfl (zr_182 (by omega) h) (zf_kO (fun m10 h => ?_))
      refine zf_ld (pc' := 57) (v := .inl v4) dX8_bagged_55 rfl (fun _ _ _ => rfl) rfl rfl rfl ?_
      refine zf_ic (v := (-1)) (pc' := 58) dX8_bagged_57 rfl rfl ?_
      refine zf_icmp_eq (tgt := 91) (pc' := 61) dX8_bagged_58 rfl rfl (fun g => ?_) (fun g => ?_)
      · replace h := h.1 g
        exact zf_lo (zq_188_91 (by omega) ih h) ⟨rfl, rfl, rfl, rfl, trivial⟩
      · replace h := h.2 g
        refine zf_ld (pc' := 62) (v := .inr (.inr (1, 63))) dX8_bagged_61 rfl (fun _ _ _ => rfl) rfl rfl rfl ?_
        refine zf_gfi (pc' := 65) dX8_bagged_62 rfl rfl (by decide) rfl rfl ?_
        refine zf_ld (pc' := 67) (v := .inl v4) dX8_bagged_65 rfl (fun _ _ _ => rfl) rfl rfl rfl ?_
        refine zf_icmp_lt (tgt := 106) (pc' := 70) dX8_bagged_67 rfl rfl (fun g => ?_) (fun g => ?_)
        · replace h := h.1 g
          refine zf_ii (y := (v6 + 1)) (L2 := [some (.inr (.inr (1, 63))), some (.inl v1), some (.inl v2), some (.inl v3), some (.inl v4), some (.inl v5), some (.inl (v6 + 1))]) (pc' := 109) dX8_bagged_106 rfl rfl rfl rfl rfl ?_
          refine zf_goto (tgt := 31) dX8_bagged_109 rfl ?_
          exact zf_lo (ih _ _ _ _ _ _ h) ⟨rfl, rfl, rfl, rfl, rfl, rfl, rfl, trivial⟩
        · replace h := h.2 g
          refine zf_ld (pc' := 71) (v := .inr (.inr (1, 63))) dX8_bagged_70 rfl (fun _ _ _ => rfl) rfl rfl rfl ?_
          refine zf_gfi (pc' := 74) dX8_bagged_71 rfl rfl (by decide) rfl rfl ?_
          refine zf_ld (pc' := 76) (v := .inl v4) dX8_bagged_74 rfl (fun _ _ _ => rfl) rfl rfl rfl ?_
          refine zf_icmp_ne (tgt := 91) (pc' := 79) dX8_bagged_76 rfl rfl (fun g => ?_) (fun g => ?_)
          · replace h := h.1 g
            exact zf_lo (zq_188_91 (by omega) ih h) ⟨rfl, rfl, rfl, rfl, trivial⟩
          · replace h := h.2 g
            refine zf_ld (pc' := 80) (v := .inr (.inr (1, 63))) dX8_bagged_79 rfl (fun _ _ _ => rfl) rfl rfl rfl ?_
            refine zf_gfi (pc' := 83) dX8_bagged_80 rfl rfl (by decide) rfl rfl ?_
            refine zf_ld (pc' := 85) (v := .inl v5) dX8_bagged_83 rfl (fun _ _ _ => rfl) rfl rfl rfl ?_
            refine zf_icmp_lt (tgt := 91) (pc' := 88) dX8_bagged_85 rfl rfl (fun g => ?_) (fun g => ?_)
            · replace h := h.1 g
              exact zf_lo (zq_188_91 (by omega) ih h) ⟨rfl, rfl, rfl, rfl, trivial⟩
            · replace h := h.2 g
              refine zf_goto (tgt := 106) dX8_bagged_88 rfl ?_
              refine zf_ii (y := (v6 + 1)) (L2 := [some (.inr (.inr (1, 63))), some (.inl v1), some (.inl v2), some (.inl v3), some (.inl v4), some (.inl v5), some (.inl (v6 + 1))]) (pc' := 109) dX8_bagged_106 rfl rfl rfl rfl rfl ?_
              refine zf_goto (tgt := 31) dX8_bagged_109 rfl ?_
              exact zf_lo (ih _ _ _ _ _ _ h) ⟨rfl, rfl, rfl, rfl, rfl, rfl, rfl, trivial⟩
def wp_188 (v1 : Int32) (m : zf_Me) (Q : Int32 → zf_Me → Prop) : Prop := wp_180 v1 m (fun b1 m2 => ((b1 = true → (∃ n31, wq_188_31 v1 Q n31 (m2.1 63 2) (-1) (-1) 0 (-1) m2)) ∧ (b1 = false → wp_126 (-6) m2 (fun x11 m12 => Q x11 m12))))
theorem zr_188 {d : Nat} (hd : 6 ≤ d) {v1 : Int32} {Q : Int32 → zf_Me → Prop} {m : zf_Me} (h : wp_188 v1 m Q) : zf_M d 188 [.inr (.inr (1, 63)), .inl v1] m (zf_I Q) := by
  obtain ⟨e, rfl⟩ : ∃ z, d = z + 1 := ⟨d - 1, by omega⟩
  unfold wp_188 at h
  refine zf_M_of (Nat.le_of_ble_eq_true rfl) zm_188 (L := [some (.inr (.inr (1, 63))), some (.inl v1), none, none, none, none, none]) rfl ?_
  refine zf_ld (pc' := 1) (v := .inr (.inr (1, 63))) dX8_bagged_0 rfl (fun _ _ _ => rfl) rfl rfl rfl ?_
  refine zf_ld (pc' := 2) (v := .inl v1) dX8_bagged_1 rfl (fun _ _ _ => rfl) rfl rfl rfl ?_
  refine zf_iv (k := 180) (pc' := 5) (r := []) dX8_bagged_2 rfl rfl rfl rfl (by decide) rfl rfl rfl (zr_180 (by omega) h) (zf_kB (fun b1 m2 h => ?_))
  refine zf_ib_ne (tgt := 15) (pc' := 8) dX8_bagged_5 rfl rfl (fun g => ?_) (fun g => ?_)
  · replace h := h.1 g
    refine zf_ld (pc' := 16) (v := .inr (.inr (1, 63))) dX8_bagged_15 rfl (fun _ _ _ => rfl) rfl rfl rfl ?_
    refine zf_gfi (pc' := 19) dX8_bagged_16 rfl rfl (by decide) rfl rfl ?_
    refine zf_st (pc' := 20) (L2 := [some (.inr (.inr (1, 63))), some (.inl v1), some (.inl (m2.1 63 2)), none, none, none, none]) dX8_bagged_19 rfl (fun _ _ _ => rfl) rfl rfl rfl rfl rfl rfl ?_
    refine zf_ic (v := (-1)) (pc' := 21) dX8_bagged_20 rfl rfl ?_
    refine zf_st (pc' := 22) (L2 := [some (.inr (.inr (1, 63))), some (.inl v1), some (.inl (m2.1 63 2)), some (.inl (-1)), none, none, none]) dX8_bagged_21 rfl (fun _ _ _ => rfl) rfl rfl rfl rfl rfl rfl ?_
    refine zf_ic (v := (-1)) (pc' := 23) dX8_bagged_22 rfl rfl ?_
    refine zf_st (pc' := 25) (L2 := [some (.inr (.inr (1, 63))), some (.inl v1), some (.inl (m2.1 63 2)), some (.inl (-1)), some (.inl (-1)), none, none]) dX8_bagged_23 rfl (fun _ _ _ => rfl) rfl rfl rfl rfl rfl rfl ?_
    refine zf_ic (v := 0) (pc' := 26) dX8_bagged_25 rfl rfl ?_
    refine zf_st (pc' := 28) (L2 := [some (.inr (.inr (1, 63))), some (.inl v1), some (.inl (m2.1 63 2)), some (.inl (-1)), some (.inl (-1)), some (.inl 0), none]) dX8_bagged_26 rfl (fun _ _ _ => rfl) rfl rfl rfl rfl rfl rfl ?_
    refine zf_ic (v := (-1)) (pc' := 29) dX8_bagged_28 rfl rfl ?_
    refine zf_st (pc' := 31) (L2 := [some (.inr (.inr (1, 63))), some (.inl v1), some (.inl (m2.1 63 2)), some (.inl (-1)), some (.inl (-1)), some (.inl 0), some (.inl (-1))]) dX8_bagged_29 rfl (fun _ _ _ => rfl) rfl rfl rfl rfl rfl rfl ?_
    obtain ⟨n31, h⟩ := h
    exact zf_lo (zq_188_31 (by omega) n31 _ _ _ _ _ _ h) ⟨rfl, rfl, rfl, rfl, rfl, rfl, rfl, trivial⟩
  · replace h := h.2 g
    refine zf_ld (pc' := 9) (v := .inr (.inr (1, 63))) dX8_bagged_8 rfl (fun _ _ _ => rfl) rfl rfl rfl ?_
    refine zf_bi (v := (-6)) (pc' := 11) dX8_bagged_9 rfl rfl ?_
    refine zf_iv (k := 126) (pc' := 14) (r := []) dX8_bagged_11 rfl rfl rfl rfl (by decide) rfl rfl rfl (zr_126 (by omega) h) (zf_kI (fun x11 m12 h => ?_))
    exact zf_ri dX8_bagged_14 rfl h
def zt_189 : zx_MT := (8, yX8_wrongIn, cX8_wrongIn, 5, (some FieldType.int), 2, 0)
theorem zm_189 : zx_m 189 = zt_189 := rfl
theorem dX8_wrongIn_r0 : zdcP cX8_wrongIn 0 [(.iconst 0, 1), (.istore_n 3, 1), (.iload_n 3, 1), (.iload_n 2, 1), (.if_icmp .ge 46, 3), (.aload_n 0, 1), (.iload_n 1, 1), (.iload_n 3, 1), (.invokevirtual 287, 3), (.istore 4, 2), (.iload 4, 2), (.ifCond .lt 19, 3), (.iload 4, 2), (.bipush 9, 2), (.if_icmp .gt 12, 3), (.aload_n 0, 1)] := zdcA_ok (by decide +kernel)
theorem dX8_wrongIn_0 : decode cX8_wrongIn 0 = .ok (.iconst 0, 1) := dX8_wrongIn_r0.1
theorem dX8_wrongIn_1 : decode cX8_wrongIn 1 = .ok (.istore_n 3, 1) := dX8_wrongIn_r0.2.1
theorem dX8_wrongIn_2 : decode cX8_wrongIn 2 = .ok (.iload_n 3, 1) := dX8_wrongIn_r0.2.2.1
theorem dX8_wrongIn_3 : decode cX8_wrongIn 3 = .ok (.iload_n 2, 1) := dX8_wrongIn_r0.2.2.2.1
theorem dX8_wrongIn_4 : decode cX8_wrongIn 4 = .ok (.if_icmp .ge 46, 3) := dX8_wrongIn_r0.2.2.2.2.1
theorem dX8_wrongIn_7 : decode cX8_wrongIn 7 = .ok (.aload_n 0, 1) := dX8_wrongIn_r0.2.2.2.2.2.1
theorem dX8_wrongIn_8 : decode cX8_wrongIn 8 = .ok (.iload_n 1, 1) := dX8_wrongIn_r0.2.2.2.2.2.2.1
theorem dX8_wrongIn_9 : decode cX8_wrongIn 9 = .ok (.iload_n 3, 1) := dX8_wrongIn_r0.2.2.2.2.2.2.2.1
theorem dX8_wrongIn_10 : decode cX8_wrongIn 10 = .ok (.invokevirtual 287, 3) := dX8_wrongIn_r0.2.2.2.2.2.2.2.2.1
theorem dX8_wrongIn_13 : decode cX8_wrongIn 13 = .ok (.istore 4, 2) := dX8_wrongIn_r0.2.2.2.2.2.2.2.2.2.1
theorem dX8_wrongIn_15 : decode cX8_wrongIn 15 = .ok (.iload 4, 2) := dX8_wrongIn_r0.2.2.2.2.2.2.2.2.2.2.1
theorem dX8_wrongIn_17 : decode cX8_wrongIn 17 = .ok (.ifCond .lt 19, 3) := dX8_wrongIn_r0.2.2.2.2.2.2.2.2.2.2.2.1
theorem dX8_wrongIn_20 : decode cX8_wrongIn 20 = .ok (.iload 4, 2) := dX8_wrongIn_r0.2.2.2.2.2.2.2.2.2.2.2.2.1
theorem dX8_wrongIn_22 : decode cX8_wrongIn 22 = .ok (.bipush 9, 2) := dX8_wrongIn_r0.2.2.2.2.2.2.2.2.2.2.2.2.2.1
theorem dX8_wrongIn_24 : decode cX8_wrongIn 24 = .ok (.if_icmp .gt 12, 3) := dX8_wrongIn_r0.2.2.2.2.2.2.2.2.2.2.2.2.2.2.1
theorem dX8_wrongIn_27 : decode cX8_wrongIn 27 = .ok (.aload_n 0, 1) := dX8_wrongIn_r0.2.2.2.2.2.2.2.2.2.2.2.2.2.2.2.1
theorem dX8_wrongIn_r28 : zdcP cX8_wrongIn 28 [(.iload 4, 2), (.invokevirtual 180, 3), (.ifCond .ne 5, 3), (.iload_n 3, 1), (.ireturn, 1), (.aload_n 0, 1), (.iload 4, 2), (.invokevirtual 196, 3), (.iinc 3 1, 3), (.goto (-45), 3), (.iconst (-1), 1), (.ireturn, 1)] := zdcA_ok (by decide +kernel)
theorem dX8_wrongIn_28 : decode cX8_wrongIn 28 = .ok (.iload 4, 2) := dX8_wrongIn_r28.1
theorem dX8_wrongIn_30 : decode cX8_wrongIn 30 = .ok (.invokevirtual 180, 3) := dX8_wrongIn_r28.2.1
theorem dX8_wrongIn_33 : decode cX8_wrongIn 33 = .ok (.ifCond .ne 5, 3) := dX8_wrongIn_r28.2.2.1
theorem dX8_wrongIn_36 : decode cX8_wrongIn 36 = .ok (.iload_n 3, 1) := dX8_wrongIn_r28.2.2.2.1
theorem dX8_wrongIn_37 : decode cX8_wrongIn 37 = .ok (.ireturn, 1) := dX8_wrongIn_r28.2.2.2.2.1
theorem dX8_wrongIn_38 : decode cX8_wrongIn 38 = .ok (.aload_n 0, 1) := dX8_wrongIn_r28.2.2.2.2.2.1
theorem dX8_wrongIn_39 : decode cX8_wrongIn 39 = .ok (.iload 4, 2) := dX8_wrongIn_r28.2.2.2.2.2.2.1
theorem dX8_wrongIn_41 : decode cX8_wrongIn 41 = .ok (.invokevirtual 196, 3) := dX8_wrongIn_r28.2.2.2.2.2.2.2.1
theorem dX8_wrongIn_44 : decode cX8_wrongIn 44 = .ok (.iinc 3 1, 3) := dX8_wrongIn_r28.2.2.2.2.2.2.2.2.1
theorem dX8_wrongIn_47 : decode cX8_wrongIn 47 = .ok (.goto (-45), 3) := dX8_wrongIn_r28.2.2.2.2.2.2.2.2.2.1
theorem dX8_wrongIn_50 : decode cX8_wrongIn 50 = .ok (.iconst (-1), 1) := dX8_wrongIn_r28.2.2.2.2.2.2.2.2.2.2.1
theorem dX8_wrongIn_51 : decode cX8_wrongIn 51 = .ok (.ireturn, 1) := dX8_wrongIn_r28.2.2.2.2.2.2.2.2.2.2.2.1
def wq_189_2 (v1 : Int32) (v2 : Int32) (Q : Int32 → zf_Me → Prop) : Nat → Int32 → zf_Me → Prop
  | 0, _, _ => False
  | n + 1, v3, m => ((v3.toInt ≥ v2.toInt → Q (-1) m) ∧ (v3.toInt < v2.toInt → wp_138 v1 v3 m (fun x1 m2 => ((x1.toInt < 0 → Q v3 m2) ∧ (x1.toInt ≥ 0 → ((x1.toInt > 9 → Q v3 m2) ∧ (x1.toInt ≤ 9 → wp_167 x1 m2 (fun b3 m4 => ((b3 = true → wp_169 x1 m4 (fun m6 => wq_189_2 v1 v2 Q n (v3 + 1) m6)) ∧ (b3 = false → Q v3 m4))))))))))
theorem zq_189_2 {d : Nat} (hd : 3 ≤ d) {v1 : Int32} {v2 : Int32} {Q : Int32 → zf_Me → Prop} : ∀ (n : Nat) (v3 : Int32) (m : zf_Me), wq_189_2 v1 v2 Q n v3 m → zf_W none 0 0 d zt_189 2 [some (.inr (.inr (1, 63))), some (.inl v1), some (.inl v2), some (.inl v3), none] [] m (zf_I Q) := by
  obtain ⟨e, rfl⟩ : ∃ z, d = z + 1 := ⟨d - 1, by omega⟩
  intro n
  induction n with
  | zero =>
    intro v3 m h
    exact h.elim
  | succ n ih =>
    intro v3 m h
    unfold wq_189_2 at h
    refine zf_ld (pc' := 3) (v := .inl v3) dX8_wrongIn_2 rfl (fun _ _ _ => rfl) rfl rfl rfl ?_
    refine zf_ld (pc' := 4) (v := .inl v2) dX8_wrongIn_3 rfl (fun _ _ _ => rfl) rfl rfl rfl ?_
    refine zf_icmp_ge (tgt := 50) (pc' := 7) dX8_wrongIn_4 rfl rfl (fun g => ?_) (fun g => ?_)
    · replace h := h.1 g
      refine zf_ic (v := (-1)) (pc' := 51) dX8_wrongIn_50 rfl rfl ?_
      exact zf_ri dX8_wrongIn_51 rfl h
    · replace h := h.2 g
      refine zf_ld (pc' := 8) (v := .inr (.inr (1, 63))) dX8_wrongIn_7 rfl (fun _ _ _ => rfl) rfl rfl rfl ?_
      refine zf_ld (pc' := 9) (v := .inl v1) dX8_wrongIn_8 rfl (fun _ _ _ => rfl) rfl rfl rfl ?_
      refine zf_ld (pc' := 10) (v := .inl v3) dX8_wrongIn_9 rfl (fun _ _ _ => rfl) rfl rfl rfl ?_
      refine zf_iv (k := 138) (pc' := 13) (r := []) dX8_wrongIn_10 rfl rfl rfl rfl (by decide) rfl rfl rfl (zr_138 (by omega) h) (zf_kI (fun x1 m2 h => ?_))
      refine zf_st (pc' := 15) (L2 := [some (.inr (.inr (1, 63))), some (.inl v1), some (.inl v2), some (.inl v3), some (.inl x1)]) dX8_wrongIn_13 rfl (fun _ _ _ => rfl) rfl rfl rfl rfl rfl rfl ?_
      refine zf_ld (pc' := 17) (v := .inl x1) dX8_wrongIn_15 rfl (fun _ _ _ => rfl) rfl rfl rfl ?_
      refine zf_if_lt (tgt := 36) (pc' := 20) dX8_wrongIn_17 rfl rfl (fun g => ?_) (fun g => ?_)
      · replace h := h.1 g
        refine zf_ld (pc' := 37) (v := .inl v3) dX8_wrongIn_36 rfl (fun _ _ _ => rfl) rfl rfl rfl ?_
        exact zf_ri dX8_wrongIn_37 rfl h
      · replace h := h.2 g
        refine zf_ld (pc' := 22) (v := .inl x1) dX8_wrongIn_20 rfl (fun _ _ _ => rfl) rfl rfl rfl ?_
        refine zf_bi (v := 9) (pc' := 24) dX8_wrongIn_22 rfl rfl ?_
        refine zf_icmp_gt (tgt := 36) (pc' := 27) dX8_wrongIn_24 rfl rfl (fun g => ?_) (fun g => ?_)
        · replace h := h.1 g
          refine zf_ld (pc' := 37) (v := .inl v3) dX8_wrongIn_36 rfl (fun _ _ _ => rfl) rfl rfl rfl ?_
          exact zf_ri dX8_wrongIn_37 rfl h
        · replace h := h.2 g
          refine zf_ld (pc' := 28) (v := .inr (.inr (1, 63))) dX8_wrongIn_27 rfl (fun _ _ _ => rfl) rfl rfl rfl ?_
          refine zf_ld (pc' := 30) (v := .inl x1) dX8_wrongIn_28 rfl (fun _ _ _ => rfl) rfl rfl rfl ?_
          refine zf_iv (k := 167) (pc' := 33) (r := []) dX8_wrongIn_30 rfl rfl rfl rfl (by decide) rfl rfl rfl (zr_167 (by omega) h) (zf_kB (fun b3 m4 h => ?_))
          refine zf_ib_ne (tgt := 38) (pc' := 36) dX8_wrongIn_33 rfl rfl (fun g => ?_) (fun g => ?_)
          · replace h := h.1 g
            refine zf_ld (pc' := 39) (v := .inr (.inr (1, 63))) dX8_wrongIn_38 rfl (fun _ _ _ => rfl) rfl rfl rfl ?_
            refine zf_ld (pc' := 41) (v := .inl x1) dX8_wrongIn_39 rfl (fun _ _ _ => rfl) rfl rfl rfl ?_
            refine zf_iv (k := 169) (pc' := 44) (r := []) dX8_wrongIn_41 rfl rfl rfl rfl (by decide) rfl rfl rfl (zr_169 (by omega) h) (zf_kO (fun m6 h => ?_))
            refine zf_ii (y := (v3 + 1)) (L2 := [some (.inr (.inr (1, 63))), some (.inl v1), some (.inl v2), some (.inl (v3 + 1)), some (.inl x1)]) (pc' := 47) dX8_wrongIn_44 rfl rfl rfl rfl rfl ?_
            refine zf_goto (tgt := 2) dX8_wrongIn_47 rfl ?_
            exact zf_lo (ih _ _ h) ⟨rfl, rfl, rfl, rfl, trivial⟩
          · replace h := h.2 g
            refine zf_ld (pc' := 37) (v := .inl v3) dX8_wrongIn_36 rfl (fun _ _ _ => rfl) rfl rfl rfl ?_
            exact zf_ri dX8_wrongIn_37 rfl h
def wp_189 (v1 : Int32) (v2 : Int32) (m : zf_Me) (Q : Int32 → zf_Me → Prop) : Prop := (∃ n2, wq_189_2 v1 v2 Q n2 0 m)
theorem zr_189 {d : Nat} (hd : 3 ≤ d) {v1 : Int32} {v2 : Int32} {Q : Int32 → zf_Me → Prop} {m : zf_Me} (h : wp_189 v1 v2 m Q) : zf_M d 189 [.inr (.inr (1, 63)), .inl v1, .inl v2] m (zf_I Q) := by
  unfold wp_189 at h
  refine zf_M_of (Nat.le_of_ble_eq_true rfl) zm_189 (L := [some (.inr (.inr (1, 63))), some (.inl v1), some (.inl v2), none, none]) rfl ?_
  refine zf_ic (v := 0) (pc' := 1) dX8_wrongIn_0 rfl rfl ?_
  refine zf_st (pc' := 2) (L2 := [some (.inr (.inr (1, 63))), some (.inl v1), some (.inl v2), some (.inl 0), none]) dX8_wrongIn_1 rfl (fun _ _ _ => rfl) rfl rfl rfl rfl rfl rfl ?_
  obtain ⟨n2, h⟩ := h
  exact zf_lo (zq_189_2 (by omega) n2 _ _ h) ⟨rfl, rfl, rfl, rfl, trivial⟩
def zt_190 : zx_MT := (8, yX8_barsOf, cX8_barsOf, 4, (some FieldType.int), 2, 0)
theorem zm_190 : zx_m 190 = zt_190 := rfl
theorem dX8_barsOf_r0 : zdcP cX8_barsOf 0 [(.aload_n 0, 1), (.iload_n 1, 1), (.iload_n 2, 1), (.invokevirtual 290, 3), (.istore_n 3, 1), (.iload_n 3, 1), (.ifCond .ne 14, 3), (.iload_n 2, 1), (.bipush 60, 2), (.if_icmp .le 8, 3), (.bipush (-6), 2), (.goto 4, 3), (.iload_n 3, 1), (.ireturn, 1)] := zdcA_ok (by decide +kernel)
theorem dX8_barsOf_0 : decode cX8_barsOf 0 = .ok (.aload_n 0, 1) := dX8_barsOf_r0.1
theorem dX8_barsOf_1 : decode cX8_barsOf 1 = .ok (.iload_n 1, 1) := dX8_barsOf_r0.2.1
theorem dX8_barsOf_2 : decode cX8_barsOf 2 = .ok (.iload_n 2, 1) := dX8_barsOf_r0.2.2.1
theorem dX8_barsOf_3 : decode cX8_barsOf 3 = .ok (.invokevirtual 290, 3) := dX8_barsOf_r0.2.2.2.1
theorem dX8_barsOf_6 : decode cX8_barsOf 6 = .ok (.istore_n 3, 1) := dX8_barsOf_r0.2.2.2.2.1
theorem dX8_barsOf_7 : decode cX8_barsOf 7 = .ok (.iload_n 3, 1) := dX8_barsOf_r0.2.2.2.2.2.1
theorem dX8_barsOf_8 : decode cX8_barsOf 8 = .ok (.ifCond .ne 14, 3) := dX8_barsOf_r0.2.2.2.2.2.2.1
theorem dX8_barsOf_11 : decode cX8_barsOf 11 = .ok (.iload_n 2, 1) := dX8_barsOf_r0.2.2.2.2.2.2.2.1
theorem dX8_barsOf_12 : decode cX8_barsOf 12 = .ok (.bipush 60, 2) := dX8_barsOf_r0.2.2.2.2.2.2.2.2.1
theorem dX8_barsOf_14 : decode cX8_barsOf 14 = .ok (.if_icmp .le 8, 3) := dX8_barsOf_r0.2.2.2.2.2.2.2.2.2.1
theorem dX8_barsOf_17 : decode cX8_barsOf 17 = .ok (.bipush (-6), 2) := dX8_barsOf_r0.2.2.2.2.2.2.2.2.2.2.1
theorem dX8_barsOf_19 : decode cX8_barsOf 19 = .ok (.goto 4, 3) := dX8_barsOf_r0.2.2.2.2.2.2.2.2.2.2.2.1
theorem dX8_barsOf_22 : decode cX8_barsOf 22 = .ok (.iload_n 3, 1) := dX8_barsOf_r0.2.2.2.2.2.2.2.2.2.2.2.2.1
theorem dX8_barsOf_23 : decode cX8_barsOf 23 = .ok (.ireturn, 1) := dX8_barsOf_r0.2.2.2.2.2.2.2.2.2.2.2.2.2.1
def wp_190 (v1 : Int32) (v2 : Int32) (m : zf_Me) (Q : Int32 → zf_Me → Prop) : Prop := wp_139 v1 v2 m (fun x1 m2 => ((¬ x1.toInt = 0 → Q x1 m2) ∧ (x1.toInt = 0 → ((v2.toInt ≤ 60 → Q x1 m2) ∧ (v2.toInt > 60 → Q (-6) m2)))))
theorem zr_190 {d : Nat} (hd : 3 ≤ d) {v1 : Int32} {v2 : Int32} {Q : Int32 → zf_Me → Prop} {m : zf_Me} (h : wp_190 v1 v2 m Q) : zf_M d 190 [.inr (.inr (1, 63)), .inl v1, .inl v2] m (zf_I Q) := by
  obtain ⟨e, rfl⟩ : ∃ z, d = z + 1 := ⟨d - 1, by omega⟩
  unfold wp_190 at h
  refine zf_M_of (Nat.le_of_ble_eq_true rfl) zm_190 (L := [some (.inr (.inr (1, 63))), some (.inl v1), some (.inl v2), none]) rfl ?_
  refine zf_ld (pc' := 1) (v := .inr (.inr (1, 63))) dX8_barsOf_0 rfl (fun _ _ _ => rfl) rfl rfl rfl ?_
  refine zf_ld (pc' := 2) (v := .inl v1) dX8_barsOf_1 rfl (fun _ _ _ => rfl) rfl rfl rfl ?_
  refine zf_ld (pc' := 3) (v := .inl v2) dX8_barsOf_2 rfl (fun _ _ _ => rfl) rfl rfl rfl ?_
  refine zf_iv (k := 139) (pc' := 6) (r := []) dX8_barsOf_3 rfl rfl rfl rfl (by decide) rfl rfl rfl (zr_139 (by omega) h) (zf_kI (fun x1 m2 h => ?_))
  refine zf_st (pc' := 7) (L2 := [some (.inr (.inr (1, 63))), some (.inl v1), some (.inl v2), some (.inl x1)]) dX8_barsOf_6 rfl (fun _ _ _ => rfl) rfl rfl rfl rfl rfl rfl ?_
  refine zf_ld (pc' := 8) (v := .inl x1) dX8_barsOf_7 rfl (fun _ _ _ => rfl) rfl rfl rfl ?_
  refine zf_if_ne (tgt := 22) (pc' := 11) dX8_barsOf_8 rfl rfl (fun g => ?_) (fun g => ?_)
  · replace h := h.1 g
    refine zf_ld (pc' := 23) (v := .inl x1) dX8_barsOf_22 rfl (fun _ _ _ => rfl) rfl rfl rfl ?_
    exact zf_ri dX8_barsOf_23 rfl h
  · replace h := h.2 g
    refine zf_ld (pc' := 12) (v := .inl v2) dX8_barsOf_11 rfl (fun _ _ _ => rfl) rfl rfl rfl ?_
    refine zf_bi (v := 60) (pc' := 14) dX8_barsOf_12 rfl rfl ?_
    refine zf_icmp_le (tgt := 22) (pc' := 17) dX8_barsOf_14 rfl rfl (fun g => ?_) (fun g => ?_)
    · replace h := h.1 g
      refine zf_ld (pc' := 23) (v := .inl x1) dX8_barsOf_22 rfl (fun _ _ _ => rfl) rfl rfl rfl ?_
      exact zf_ri dX8_barsOf_23 rfl h
    · replace h := h.2 g
      refine zf_bi (v := (-6)) (pc' := 19) dX8_barsOf_17 rfl rfl ?_
      refine zf_goto (tgt := 23) dX8_barsOf_19 rfl ?_
      exact zf_ri dX8_barsOf_23 rfl h
def zt_191 : zx_MT := (8, yX8_judge, cX8_judge, 5, (some FieldType.int), 2, 0)
theorem zm_191 : zx_m 191 = zt_191 := rfl
theorem dX8_judge_r0 : zdcP cX8_judge 0 [(.aload_n 0, 1), (.iload_n 1, 1), (.iload_n 2, 1), (.invokevirtual 293, 3), (.istore_n 3, 1), (.iload_n 3, 1), (.ifCond .eq 9, 3), (.aload_n 0, 1), (.iload_n 3, 1), (.invokevirtual 142, 3), (.ireturn, 1), (.aload_n 0, 1), (.aload_n 0, 1), (.getfield 90, 3), (.iconst 0, 1), (.iconst 0, 1)] := zdcA_ok (by decide +kernel)
theorem dX8_judge_0 : decode cX8_judge 0 = .ok (.aload_n 0, 1) := dX8_judge_r0.1
theorem dX8_judge_1 : decode cX8_judge 1 = .ok (.iload_n 1, 1) := dX8_judge_r0.2.1
theorem dX8_judge_2 : decode cX8_judge 2 = .ok (.iload_n 2, 1) := dX8_judge_r0.2.2.1
theorem dX8_judge_3 : decode cX8_judge 3 = .ok (.invokevirtual 293, 3) := dX8_judge_r0.2.2.2.1
theorem dX8_judge_6 : decode cX8_judge 6 = .ok (.istore_n 3, 1) := dX8_judge_r0.2.2.2.2.1
theorem dX8_judge_7 : decode cX8_judge 7 = .ok (.iload_n 3, 1) := dX8_judge_r0.2.2.2.2.2.1
theorem dX8_judge_8 : decode cX8_judge 8 = .ok (.ifCond .eq 9, 3) := dX8_judge_r0.2.2.2.2.2.2.1
theorem dX8_judge_11 : decode cX8_judge 11 = .ok (.aload_n 0, 1) := dX8_judge_r0.2.2.2.2.2.2.2.1
theorem dX8_judge_12 : decode cX8_judge 12 = .ok (.iload_n 3, 1) := dX8_judge_r0.2.2.2.2.2.2.2.2.1
theorem dX8_judge_13 : decode cX8_judge 13 = .ok (.invokevirtual 142, 3) := dX8_judge_r0.2.2.2.2.2.2.2.2.2.1
theorem dX8_judge_16 : decode cX8_judge 16 = .ok (.ireturn, 1) := dX8_judge_r0.2.2.2.2.2.2.2.2.2.2.1
theorem dX8_judge_17 : decode cX8_judge 17 = .ok (.aload_n 0, 1) := dX8_judge_r0.2.2.2.2.2.2.2.2.2.2.2.1
theorem dX8_judge_18 : decode cX8_judge 18 = .ok (.aload_n 0, 1) := dX8_judge_r0.2.2.2.2.2.2.2.2.2.2.2.2.1
theorem dX8_judge_19 : decode cX8_judge 19 = .ok (.getfield 90, 3) := dX8_judge_r0.2.2.2.2.2.2.2.2.2.2.2.2.2.1
theorem dX8_judge_22 : decode cX8_judge 22 = .ok (.iconst 0, 1) := dX8_judge_r0.2.2.2.2.2.2.2.2.2.2.2.2.2.2.1
theorem dX8_judge_23 : decode cX8_judge 23 = .ok (.iconst 0, 1) := dX8_judge_r0.2.2.2.2.2.2.2.2.2.2.2.2.2.2.2.1
theorem dX8_judge_r24 : zdcP cX8_judge 24 [(.invokevirtual 213, 3), (.aload_n 0, 1), (.iload_n 1, 1), (.iload_n 2, 1), (.invokevirtual 296, 3), (.istore 4, 2), (.aload_n 0, 1), (.invokevirtual 284, 3), (.iload 4, 2), (.ireturn, 1)] := zdcA_ok (by decide +kernel)
theorem dX8_judge_24 : decode cX8_judge 24 = .ok (.invokevirtual 213, 3) := dX8_judge_r24.1
theorem dX8_judge_27 : decode cX8_judge 27 = .ok (.aload_n 0, 1) := dX8_judge_r24.2.1
theorem dX8_judge_28 : decode cX8_judge 28 = .ok (.iload_n 1, 1) := dX8_judge_r24.2.2.1
theorem dX8_judge_29 : decode cX8_judge 29 = .ok (.iload_n 2, 1) := dX8_judge_r24.2.2.2.1
theorem dX8_judge_30 : decode cX8_judge 30 = .ok (.invokevirtual 296, 3) := dX8_judge_r24.2.2.2.2.1
theorem dX8_judge_33 : decode cX8_judge 33 = .ok (.istore 4, 2) := dX8_judge_r24.2.2.2.2.2.1
theorem dX8_judge_35 : decode cX8_judge 35 = .ok (.aload_n 0, 1) := dX8_judge_r24.2.2.2.2.2.2.1
theorem dX8_judge_36 : decode cX8_judge 36 = .ok (.invokevirtual 284, 3) := dX8_judge_r24.2.2.2.2.2.2.2.1
theorem dX8_judge_39 : decode cX8_judge 39 = .ok (.iload 4, 2) := dX8_judge_r24.2.2.2.2.2.2.2.2.1
theorem dX8_judge_41 : decode cX8_judge 41 = .ok (.ireturn, 1) := dX8_judge_r24.2.2.2.2.2.2.2.2.2.1
def wp_191 (v1 : Int32) (v2 : Int32) (m : zf_Me) (Q : Int32 → zf_Me → Prop) : Prop := wp_190 v1 v2 m (fun x1 m2 => ((x1.toInt = 0 → wp_161 81 90 0 0 m2 (fun m4 => wp_189 v1 v2 m4 (fun x5 m6 => wp_182 m6 (fun m8 => Q x5 m8)))) ∧ (¬ x1.toInt = 0 → wp_126 x1 m2 (fun x9 m10 => Q x9 m10))))
theorem zr_191 {d : Nat} (hd : 4 ≤ d) {v1 : Int32} {v2 : Int32} {Q : Int32 → zf_Me → Prop} {m : zf_Me} (h : wp_191 v1 v2 m Q) : zf_M d 191 [.inr (.inr (1, 63)), .inl v1, .inl v2] m (zf_I Q) := by
  obtain ⟨e, rfl⟩ : ∃ z, d = z + 1 := ⟨d - 1, by omega⟩
  unfold wp_191 at h
  refine zf_M_of (Nat.le_of_ble_eq_true rfl) zm_191 (L := [some (.inr (.inr (1, 63))), some (.inl v1), some (.inl v2), none, none]) rfl ?_
  refine zf_ld (pc' := 1) (v := .inr (.inr (1, 63))) dX8_judge_0 rfl (fun _ _ _ => rfl) rfl rfl rfl ?_
  refine zf_ld (pc' := 2) (v := .inl v1) dX8_judge_1 rfl (fun _ _ _ => rfl) rfl rfl rfl ?_
  refine zf_ld (pc' := 3) (v := .inl v2) dX8_judge_2 rfl (fun _ _ _ => rfl) rfl rfl rfl ?_
  refine zf_iv (k := 190) (pc' := 6) (r := []) dX8_judge_3 rfl rfl rfl rfl (by decide) rfl rfl rfl (zr_190 (by omega) h) (zf_kI (fun x1 m2 h => ?_))
  refine zf_st (pc' := 7) (L2 := [some (.inr (.inr (1, 63))), some (.inl v1), some (.inl v2), some (.inl x1), none]) dX8_judge_6 rfl (fun _ _ _ => rfl) rfl rfl rfl rfl rfl rfl ?_
  refine zf_ld (pc' := 8) (v := .inl x1) dX8_judge_7 rfl (fun _ _ _ => rfl) rfl rfl rfl ?_
  refine zf_if_eq (tgt := 17) (pc' := 11) dX8_judge_8 rfl rfl (fun g => ?_) (fun g => ?_)
  · replace h := h.1 g
    refine zf_ld (pc' := 18) (v := .inr (.inr (1, 63))) dX8_judge_17 rfl (fun _ _ _ => rfl) rfl rfl rfl ?_
    refine zf_ld (pc' := 19) (v := .inr (.inr (1, 63))) dX8_judge_18 rfl (fun _ _ _ => rfl) rfl rfl rfl ?_
    refine zf_gfr (pc' := 22) (b := 81) dX8_judge_19 rfl rfl (by decide) rfl rfl ?_
    refine zf_ic (v := 0) (pc' := 23) dX8_judge_22 rfl rfl ?_
    refine zf_ic (v := 0) (pc' := 24) dX8_judge_23 rfl rfl ?_
    refine zf_iv (k := 161) (pc' := 27) (r := []) dX8_judge_24 rfl rfl rfl rfl (by decide) rfl rfl rfl (zr_161 (by omega) (⟨by decide, rfl⟩ : zf_arr 81 90) h) (zf_kO (fun m4 h => ?_))
    refine zf_ld (pc' := 28) (v := .inr (.inr (1, 63))) dX8_judge_27 rfl (fun _ _ _ => rfl) rfl rfl rfl ?_
    refine zf_ld (pc' := 29) (v := .inl v1) dX8_judge_28 rfl (fun _ _ _ => rfl) rfl rfl rfl ?_
    refine zf_ld (pc' := 30) (v := .inl v2) dX8_judge_29 rfl (fun _ _ _ => rfl) rfl rfl rfl ?_
    refine zf_iv (k := 189) (pc' := 33) (r := []) dX8_judge_30 rfl rfl rfl rfl (by decide) rfl rfl rfl (zr_189 (by omega) h) (zf_kI (fun x5 m6 h => ?_))
    refine zf_st (pc' := 35) (L2 := [some (.inr (.inr (1, 63))), some (.inl v1), some (.inl v2), some (.inl x1), some (.inl x5)]) dX8_judge_33 rfl (fun _ _ _ => rfl) rfl rfl rfl rfl rfl rfl ?_
    refine zf_ld (pc' := 36) (v := .inr (.inr (1, 63))) dX8_judge_35 rfl (fun _ _ _ => rfl) rfl rfl rfl ?_
    refine zf_iv (k := 182) (pc' := 39) (r := []) dX8_judge_36 rfl rfl rfl rfl (by decide) rfl rfl rfl (zr_182 (by omega) h) (zf_kO (fun m8 h => ?_))
    refine zf_ld (pc' := 41) (v := .inl x5) dX8_judge_39 rfl (fun _ _ _ => rfl) rfl rfl rfl ?_
    exact zf_ri dX8_judge_41 rfl h
  · replace h := h.2 g
    refine zf_ld (pc' := 12) (v := .inr (.inr (1, 63))) dX8_judge_11 rfl (fun _ _ _ => rfl) rfl rfl rfl ?_
    refine zf_ld (pc' := 13) (v := .inl x1) dX8_judge_12 rfl (fun _ _ _ => rfl) rfl rfl rfl ?_
    refine zf_iv (k := 126) (pc' := 16) (r := []) dX8_judge_13 rfl rfl rfl rfl (by decide) rfl rfl rfl (zr_126 (by omega) h) (zf_kI (fun x9 m10 h => ?_))
    exact zf_ri dX8_judge_16 rfl h
def zt_192 : zx_MT := (8, yX8_behind, cX8_behind, 7, (some FieldType.int), 3, 0)
theorem zm_192 : zx_m 192 = zt_192 := rfl
theorem dX8_behind_r0 : zdcP cX8_behind 0 [(.aload_n 0, 1), (.iload_n 1, 1), (.iload_n 2, 1), (.invokevirtual 290, 3), (.istore 4, 2), (.iload 4, 2), (.ifCond .ne 16, 3), (.iload_n 3, 1), (.ifCond .lt 8, 3), (.iload_n 3, 1), (.iconst 3, 1), (.if_icmp .le 7, 3), (.bipush (-5), 2), (.istore 4, 2), (.iload 4, 2), (.ifCond .ne 11, 3)] := zdcA_ok (by decide +kernel)
theorem dX8_behind_0 : decode cX8_behind 0 = .ok (.aload_n 0, 1) := dX8_behind_r0.1
theorem dX8_behind_1 : decode cX8_behind 1 = .ok (.iload_n 1, 1) := dX8_behind_r0.2.1
theorem dX8_behind_2 : decode cX8_behind 2 = .ok (.iload_n 2, 1) := dX8_behind_r0.2.2.1
theorem dX8_behind_3 : decode cX8_behind 3 = .ok (.invokevirtual 290, 3) := dX8_behind_r0.2.2.2.1
theorem dX8_behind_6 : decode cX8_behind 6 = .ok (.istore 4, 2) := dX8_behind_r0.2.2.2.2.1
theorem dX8_behind_8 : decode cX8_behind 8 = .ok (.iload 4, 2) := dX8_behind_r0.2.2.2.2.2.1
theorem dX8_behind_10 : decode cX8_behind 10 = .ok (.ifCond .ne 16, 3) := dX8_behind_r0.2.2.2.2.2.2.1
theorem dX8_behind_13 : decode cX8_behind 13 = .ok (.iload_n 3, 1) := dX8_behind_r0.2.2.2.2.2.2.2.1
theorem dX8_behind_14 : decode cX8_behind 14 = .ok (.ifCond .lt 8, 3) := dX8_behind_r0.2.2.2.2.2.2.2.2.1
theorem dX8_behind_17 : decode cX8_behind 17 = .ok (.iload_n 3, 1) := dX8_behind_r0.2.2.2.2.2.2.2.2.2.1
theorem dX8_behind_18 : decode cX8_behind 18 = .ok (.iconst 3, 1) := dX8_behind_r0.2.2.2.2.2.2.2.2.2.2.1
theorem dX8_behind_19 : decode cX8_behind 19 = .ok (.if_icmp .le 7, 3) := dX8_behind_r0.2.2.2.2.2.2.2.2.2.2.2.1
theorem dX8_behind_22 : decode cX8_behind 22 = .ok (.bipush (-5), 2) := dX8_behind_r0.2.2.2.2.2.2.2.2.2.2.2.2.1
theorem dX8_behind_24 : decode cX8_behind 24 = .ok (.istore 4, 2) := dX8_behind_r0.2.2.2.2.2.2.2.2.2.2.2.2.2.1
theorem dX8_behind_26 : decode cX8_behind 26 = .ok (.iload 4, 2) := dX8_behind_r0.2.2.2.2.2.2.2.2.2.2.2.2.2.2.1
theorem dX8_behind_28 : decode cX8_behind 28 = .ok (.ifCond .ne 11, 3) := dX8_behind_r0.2.2.2.2.2.2.2.2.2.2.2.2.2.2.2.1
theorem dX8_behind_r31 : zdcP cX8_behind 31 [(.aload_n 0, 1), (.iload_n 1, 1), (.iload_n 2, 1), (.invokevirtual 293, 3), (.istore 4, 2), (.iload 4, 2), (.ifCond .eq 10, 3), (.aload_n 0, 1), (.iload 4, 2), (.invokevirtual 115, 3), (.ireturn, 1), (.aload_n 0, 1), (.aload_n 0, 1), (.getfield 90, 3), (.iconst 0, 1), (.iconst 0, 1)] := zdcA_ok (by decide +kernel)
theorem dX8_behind_31 : decode cX8_behind 31 = .ok (.aload_n 0, 1) := dX8_behind_r31.1
theorem dX8_behind_32 : decode cX8_behind 32 = .ok (.iload_n 1, 1) := dX8_behind_r31.2.1
theorem dX8_behind_33 : decode cX8_behind 33 = .ok (.iload_n 2, 1) := dX8_behind_r31.2.2.1
theorem dX8_behind_34 : decode cX8_behind 34 = .ok (.invokevirtual 293, 3) := dX8_behind_r31.2.2.2.1
theorem dX8_behind_37 : decode cX8_behind 37 = .ok (.istore 4, 2) := dX8_behind_r31.2.2.2.2.1
theorem dX8_behind_39 : decode cX8_behind 39 = .ok (.iload 4, 2) := dX8_behind_r31.2.2.2.2.2.1
theorem dX8_behind_41 : decode cX8_behind 41 = .ok (.ifCond .eq 10, 3) := dX8_behind_r31.2.2.2.2.2.2.1
theorem dX8_behind_44 : decode cX8_behind 44 = .ok (.aload_n 0, 1) := dX8_behind_r31.2.2.2.2.2.2.2.1
theorem dX8_behind_45 : decode cX8_behind 45 = .ok (.iload 4, 2) := dX8_behind_r31.2.2.2.2.2.2.2.2.1
theorem dX8_behind_47 : decode cX8_behind 47 = .ok (.invokevirtual 115, 3) := dX8_behind_r31.2.2.2.2.2.2.2.2.2.1
theorem dX8_behind_50 : decode cX8_behind 50 = .ok (.ireturn, 1) := dX8_behind_r31.2.2.2.2.2.2.2.2.2.2.1
theorem dX8_behind_51 : decode cX8_behind 51 = .ok (.aload_n 0, 1) := dX8_behind_r31.2.2.2.2.2.2.2.2.2.2.2.1
theorem dX8_behind_52 : decode cX8_behind 52 = .ok (.aload_n 0, 1) := dX8_behind_r31.2.2.2.2.2.2.2.2.2.2.2.2.1
theorem dX8_behind_53 : decode cX8_behind 53 = .ok (.getfield 90, 3) := dX8_behind_r31.2.2.2.2.2.2.2.2.2.2.2.2.2.1
theorem dX8_behind_56 : decode cX8_behind 56 = .ok (.iconst 0, 1) := dX8_behind_r31.2.2.2.2.2.2.2.2.2.2.2.2.2.2.1
theorem dX8_behind_57 : decode cX8_behind 57 = .ok (.iconst 0, 1) := dX8_behind_r31.2.2.2.2.2.2.2.2.2.2.2.2.2.2.2.1
theorem dX8_behind_r58 : zdcP cX8_behind 58 [(.invokevirtual 213, 3), (.aload_n 0, 1), (.iload_n 1, 1), (.iload_n 2, 1), (.invokevirtual 296, 3), (.istore 5, 2), (.iload_n 3, 1), (.ifCond .ne 10, 3), (.aload_n 0, 1), (.getfield 207, 3), (.goto 31, 3), (.iload_n 3, 1), (.iconst 1, 1), (.if_icmp .ne 10, 3), (.aload_n 0, 1), (.getfield 210, 3)] := zdcA_ok (by decide +kernel)
theorem dX8_behind_58 : decode cX8_behind 58 = .ok (.invokevirtual 213, 3) := dX8_behind_r58.1
theorem dX8_behind_61 : decode cX8_behind 61 = .ok (.aload_n 0, 1) := dX8_behind_r58.2.1
theorem dX8_behind_62 : decode cX8_behind 62 = .ok (.iload_n 1, 1) := dX8_behind_r58.2.2.1
theorem dX8_behind_63 : decode cX8_behind 63 = .ok (.iload_n 2, 1) := dX8_behind_r58.2.2.2.1
theorem dX8_behind_64 : decode cX8_behind 64 = .ok (.invokevirtual 296, 3) := dX8_behind_r58.2.2.2.2.1
theorem dX8_behind_67 : decode cX8_behind 67 = .ok (.istore 5, 2) := dX8_behind_r58.2.2.2.2.2.1
theorem dX8_behind_69 : decode cX8_behind 69 = .ok (.iload_n 3, 1) := dX8_behind_r58.2.2.2.2.2.2.1
theorem dX8_behind_70 : decode cX8_behind 70 = .ok (.ifCond .ne 10, 3) := dX8_behind_r58.2.2.2.2.2.2.2.1
theorem dX8_behind_73 : decode cX8_behind 73 = .ok (.aload_n 0, 1) := dX8_behind_r58.2.2.2.2.2.2.2.2.1
theorem dX8_behind_74 : decode cX8_behind 74 = .ok (.getfield 207, 3) := dX8_behind_r58.2.2.2.2.2.2.2.2.2.1
theorem dX8_behind_77 : decode cX8_behind 77 = .ok (.goto 31, 3) := dX8_behind_r58.2.2.2.2.2.2.2.2.2.2.1
theorem dX8_behind_80 : decode cX8_behind 80 = .ok (.iload_n 3, 1) := dX8_behind_r58.2.2.2.2.2.2.2.2.2.2.2.1
theorem dX8_behind_81 : decode cX8_behind 81 = .ok (.iconst 1, 1) := dX8_behind_r58.2.2.2.2.2.2.2.2.2.2.2.2.1
theorem dX8_behind_82 : decode cX8_behind 82 = .ok (.if_icmp .ne 10, 3) := dX8_behind_r58.2.2.2.2.2.2.2.2.2.2.2.2.2.1
theorem dX8_behind_85 : decode cX8_behind 85 = .ok (.aload_n 0, 1) := dX8_behind_r58.2.2.2.2.2.2.2.2.2.2.2.2.2.2.1
theorem dX8_behind_86 : decode cX8_behind 86 = .ok (.getfield 210, 3) := dX8_behind_r58.2.2.2.2.2.2.2.2.2.2.2.2.2.2.2.1
theorem dX8_behind_r89 : zdcP cX8_behind 89 [(.goto 19, 3), (.iload_n 3, 1), (.iconst 2, 1), (.if_icmp .ne 10, 3), (.aload_n 0, 1), (.invokevirtual 241, 3), (.goto 7, 3), (.aload_n 0, 1), (.getfield 13, 3), (.istore 6, 2), (.aload_n 0, 1), (.invokevirtual 284, 3), (.iload 5, 2), (.iconst (-1), 1), (.if_icmp .ne 8, 3), (.iload 6, 2)] := zdcA_ok (by decide +kernel)
theorem dX8_behind_89 : decode cX8_behind 89 = .ok (.goto 19, 3) := dX8_behind_r89.1
theorem dX8_behind_92 : decode cX8_behind 92 = .ok (.iload_n 3, 1) := dX8_behind_r89.2.1
theorem dX8_behind_93 : decode cX8_behind 93 = .ok (.iconst 2, 1) := dX8_behind_r89.2.2.1
theorem dX8_behind_94 : decode cX8_behind 94 = .ok (.if_icmp .ne 10, 3) := dX8_behind_r89.2.2.2.1
theorem dX8_behind_97 : decode cX8_behind 97 = .ok (.aload_n 0, 1) := dX8_behind_r89.2.2.2.2.1
theorem dX8_behind_98 : decode cX8_behind 98 = .ok (.invokevirtual 241, 3) := dX8_behind_r89.2.2.2.2.2.1
theorem dX8_behind_101 : decode cX8_behind 101 = .ok (.goto 7, 3) := dX8_behind_r89.2.2.2.2.2.2.1
theorem dX8_behind_104 : decode cX8_behind 104 = .ok (.aload_n 0, 1) := dX8_behind_r89.2.2.2.2.2.2.2.1
theorem dX8_behind_105 : decode cX8_behind 105 = .ok (.getfield 13, 3) := dX8_behind_r89.2.2.2.2.2.2.2.2.1
theorem dX8_behind_108 : decode cX8_behind 108 = .ok (.istore 6, 2) := dX8_behind_r89.2.2.2.2.2.2.2.2.2.1
theorem dX8_behind_110 : decode cX8_behind 110 = .ok (.aload_n 0, 1) := dX8_behind_r89.2.2.2.2.2.2.2.2.2.2.1
theorem dX8_behind_111 : decode cX8_behind 111 = .ok (.invokevirtual 284, 3) := dX8_behind_r89.2.2.2.2.2.2.2.2.2.2.2.1
theorem dX8_behind_114 : decode cX8_behind 114 = .ok (.iload 5, 2) := dX8_behind_r89.2.2.2.2.2.2.2.2.2.2.2.2.1
theorem dX8_behind_116 : decode cX8_behind 116 = .ok (.iconst (-1), 1) := dX8_behind_r89.2.2.2.2.2.2.2.2.2.2.2.2.2.1
theorem dX8_behind_117 : decode cX8_behind 117 = .ok (.if_icmp .ne 8, 3) := dX8_behind_r89.2.2.2.2.2.2.2.2.2.2.2.2.2.2.1
theorem dX8_behind_120 : decode cX8_behind 120 = .ok (.iload 6, 2) := dX8_behind_r89.2.2.2.2.2.2.2.2.2.2.2.2.2.2.2.1
theorem dX8_behind_r122 : zdcP cX8_behind 122 [(.goto 9, 3), (.aload_n 0, 1), (.bipush (-6), 2), (.invokevirtual 115, 3), (.ireturn, 1)] := zdcA_ok (by decide +kernel)
theorem dX8_behind_122 : decode cX8_behind 122 = .ok (.goto 9, 3) := dX8_behind_r122.1
theorem dX8_behind_125 : decode cX8_behind 125 = .ok (.aload_n 0, 1) := dX8_behind_r122.2.1
theorem dX8_behind_126 : decode cX8_behind 126 = .ok (.bipush (-6), 2) := dX8_behind_r122.2.2.1
theorem dX8_behind_128 : decode cX8_behind 128 = .ok (.invokevirtual 115, 3) := dX8_behind_r122.2.2.2.1
theorem dX8_behind_131 : decode cX8_behind 131 = .ok (.ireturn, 1) := dX8_behind_r122.2.2.2.2.1
def wq_192_108 (v1 : Int32) (v2 : Int32) (v3 : Int32) (v5 : Int32) (u0 : Int32) (m : zf_Me) (Q : Int32 → zf_Me → Prop) : Prop := wp_182 m (fun m8 => ((¬ v5.toInt = (-1) → wp_125 (-6) m8 (fun x9 m10 => Q x9 m10)) ∧ (v5.toInt = (-1) → Q u0 m8)))
theorem zq_192_108 {d : Nat} (hd : 4 ≤ d) {v1 : Int32} {v2 : Int32} {v3 : Int32} {Q : Int32 → zf_Me → Prop} {v5 : Int32} {u0 : Int32} {m : zf_Me} (h : wq_192_108 v1 v2 v3 v5 u0 m Q) : zf_W none 0 0 d zt_192 108 [some (.inr (.inr (1, 63))), none, none, none, none, some (.inl v5), none] [.inl u0] m (zf_I Q) := by
  obtain ⟨e, rfl⟩ : ∃ z, d = z + 1 := ⟨d - 1, by omega⟩
  unfold wq_192_108 at h
  refine zf_st (pc' := 110) (L2 := [some (.inr (.inr (1, 63))), none, none, none, none, some (.inl v5), some (.inl u0)]) dX8_behind_108 rfl (fun _ _ _ => rfl) rfl rfl rfl rfl rfl rfl ?_
  refine zf_ld (pc' := 111) (v := .inr (.inr (1, 63))) dX8_behind_110 rfl (fun _ _ _ => rfl) rfl rfl rfl ?_
  refine zf_iv (k := 182) (pc' := 114) (r := []) dX8_behind_111 rfl rfl rfl rfl (by decide) rfl rfl rfl (zr_182 (by omega) h) (zf_kO (fun m8 h => ?_))
  refine zf_ld (pc' := 116) (v := .inl v5) dX8_behind_114 rfl (fun _ _ _ => rfl) rfl rfl rfl ?_
  refine zf_ic (v := (-1)) (pc' := 117) dX8_behind_116 rfl rfl ?_
  refine zf_icmp_ne (tgt := 125) (pc' := 120) dX8_behind_117 rfl rfl (fun g => ?_) (fun g => ?_)
  · replace h := h.1 g
    refine zf_ld (pc' := 126) (v := .inr (.inr (1, 63))) dX8_behind_125 rfl (fun _ _ _ => rfl) rfl rfl rfl ?_
    refine zf_bi (v := (-6)) (pc' := 128) dX8_behind_126 rfl rfl ?_
    refine zf_iv (k := 125) (pc' := 131) (r := []) dX8_behind_128 rfl rfl rfl rfl (by decide) rfl rfl rfl (zr_125 (by omega) h) (zf_kI (fun x9 m10 h => ?_))
    exact zf_ri dX8_behind_131 rfl h
  · replace h := h.2 g
    refine zf_ld (pc' := 122) (v := .inl u0) dX8_behind_120 rfl (fun _ _ _ => rfl) rfl rfl rfl ?_
    refine zf_goto (tgt := 131) dX8_behind_122 rfl ?_
    exact zf_ri dX8_behind_131 rfl h
def wq_192_39 (v1 : Int32) (v2 : Int32) (v3 : Int32) (v4 : Int32) (m : zf_Me) (Q : Int32 → zf_Me → Prop) : Prop := ((v4.toInt = 0 → wp_161 81 90 0 0 m (fun m4 => wp_189 v1 v2 m4 (fun x5 m6 => ((¬ v3.toInt = 0 → ((¬ v3.toInt = 1 → ((¬ v3.toInt = 2 → wq_192_108 v1 v2 v3 x5 (m6.1 63 3) m6 Q) ∧ (v3.toInt = 2 → wp_170 m6 (fun x11 m12 => wq_192_108 v1 v2 v3 x5 x11 m12 Q)))) ∧ (v3.toInt = 1 → wq_192_108 v1 v2 v3 x5 (m6.1 63 11) m6 Q))) ∧ (v3.toInt = 0 → wq_192_108 v1 v2 v3 x5 (m6.1 63 10) m6 Q))))) ∧ (¬ v4.toInt = 0 → wp_125 v4 m (fun x13 m14 => Q x13 m14)))
theorem zq_192_39 {d : Nat} (hd : 4 ≤ d) {v1 : Int32} {v2 : Int32} {v3 : Int32} {Q : Int32 → zf_Me → Prop} {v4 : Int32} {m : zf_Me} (h : wq_192_39 v1 v2 v3 v4 m Q) : zf_W none 0 0 d zt_192 39 [some (.inr (.inr (1, 63))), some (.inl v1), some (.inl v2), some (.inl v3), some (.inl v4), none, none] [] m (zf_I Q) := by
  obtain ⟨e, rfl⟩ : ∃ z, d = z + 1 := ⟨d - 1, by omega⟩
  unfold wq_192_39 at h
  refine zf_ld (pc' := 41) (v := .inl v4) dX8_behind_39 rfl (fun _ _ _ => rfl) rfl rfl rfl ?_
  refine zf_if_eq (tgt := 51) (pc' := 44) dX8_behind_41 rfl rfl (fun g => ?_) (fun g => ?_)
  · replace h := h.1 g
    refine zf_ld (pc' := 52) (v := .inr (.inr (1, 63))) dX8_behind_51 rfl (fun _ _ _ => rfl) rfl rfl rfl ?_
    refine zf_ld (pc' := 53) (v := .inr (.inr (1, 63))) dX8_behind_52 rfl (fun _ _ _ => rfl) rfl rfl rfl ?_
    refine zf_gfr (pc' := 56) (b := 81) dX8_behind_53 rfl rfl (by decide) rfl rfl ?_
    refine zf_ic (v := 0) (pc' := 57) dX8_behind_56 rfl rfl ?_
    refine zf_ic (v := 0) (pc' := 58) dX8_behind_57 rfl rfl ?_
    refine zf_iv (k := 161) (pc' := 61) (r := []) dX8_behind_58 rfl rfl rfl rfl (by decide) rfl rfl rfl (zr_161 (by omega) (⟨by decide, rfl⟩ : zf_arr 81 90) h) (zf_kO (fun m4 h => ?_))
    refine zf_ld (pc' := 62) (v := .inr (.inr (1, 63))) dX8_behind_61 rfl (fun _ _ _ => rfl) rfl rfl rfl ?_
    refine zf_ld (pc' := 63) (v := .inl v1) dX8_behind_62 rfl (fun _ _ _ => rfl) rfl rfl rfl ?_
    refine zf_ld (pc' := 64) (v := .inl v2) dX8_behind_63 rfl (fun _ _ _ => rfl) rfl rfl rfl ?_
    refine zf_iv (k := 189) (pc' := 67) (r := []) dX8_behind_64 rfl rfl rfl rfl (by decide) rfl rfl rfl (zr_189 (by omega) h) (zf_kI (fun x5 m6 h => ?_))
    refine zf_st (pc' := 69) (L2 := [some (.inr (.inr (1, 63))), some (.inl v1), some (.inl v2), some (.inl v3), some (.inl v4), some (.inl x5), none]) dX8_behind_67 rfl (fun _ _ _ => rfl) rfl rfl rfl rfl rfl rfl ?_
    refine zf_ld (pc' := 70) (v := .inl v3) dX8_behind_69 rfl (fun _ _ _ => rfl) rfl rfl rfl ?_
    refine zf_if_ne (tgt := 80) (pc' := 73) dX8_behind_70 rfl rfl (fun g => ?_) (fun g => ?_)
    · replace h := h.1 g
      refine zf_ld (pc' := 81) (v := .inl v3) dX8_behind_80 rfl (fun _ _ _ => rfl) rfl rfl rfl ?_
      refine zf_ic (v := 1) (pc' := 82) dX8_behind_81 rfl rfl ?_
      refine zf_icmp_ne (tgt := 92) (pc' := 85) dX8_behind_82 rfl rfl (fun g => ?_) (fun g => ?_)
      · replace h := h.1 g
        refine zf_ld (pc' := 93) (v := .inl v3) dX8_behind_92 rfl (fun _ _ _ => rfl) rfl rfl rfl ?_
        refine zf_ic (v := 2) (pc' := 94) dX8_behind_93 rfl rfl ?_
        refine zf_icmp_ne (tgt := 104) (pc' := 97) dX8_behind_94 rfl rfl (fun g => ?_) (fun g => ?_)
        · replace h := h.1 g
          refine zf_ld (pc' := 105) (v := .inr (.inr (1, 63))) dX8_behind_104 rfl (fun _ _ _ => rfl) rfl rfl rfl ?_
          refine zf_gfi (pc' := 108) dX8_behind_105 rfl rfl (by decide) rfl rfl ?_
          exact zf_lo (zq_192_108 (by omega) h) ⟨rfl, rfl, trivial⟩
        · replace h := h.2 g
          refine zf_ld (pc' := 98) (v := .inr (.inr (1, 63))) dX8_behind_97 rfl (fun _ _ _ => rfl) rfl rfl rfl ?_
          refine zf_iv (k := 170) (pc' := 101) (r := []) dX8_behind_98 rfl rfl rfl rfl (by decide) rfl rfl rfl (zr_170 (by omega) h) (zf_kI (fun x11 m12 h => ?_))
          refine zf_goto (tgt := 108) dX8_behind_101 rfl ?_
          exact zf_lo (zq_192_108 (by omega) h) ⟨rfl, rfl, trivial⟩
      · replace h := h.2 g
        refine zf_ld (pc' := 86) (v := .inr (.inr (1, 63))) dX8_behind_85 rfl (fun _ _ _ => rfl) rfl rfl rfl ?_
        refine zf_gfi (pc' := 89) dX8_behind_86 rfl rfl (by decide) rfl rfl ?_
        refine zf_goto (tgt := 108) dX8_behind_89 rfl ?_
        exact zf_lo (zq_192_108 (by omega) h) ⟨rfl, rfl, trivial⟩
    · replace h := h.2 g
      refine zf_ld (pc' := 74) (v := .inr (.inr (1, 63))) dX8_behind_73 rfl (fun _ _ _ => rfl) rfl rfl rfl ?_
      refine zf_gfi (pc' := 77) dX8_behind_74 rfl rfl (by decide) rfl rfl ?_
      refine zf_goto (tgt := 108) dX8_behind_77 rfl ?_
      exact zf_lo (zq_192_108 (by omega) h) ⟨rfl, rfl, trivial⟩
  · replace h := h.2 g
    refine zf_ld (pc' := 45) (v := .inr (.inr (1, 63))) dX8_behind_44 rfl (fun _ _ _ => rfl) rfl rfl rfl ?_
    refine zf_ld (pc' := 47) (v := .inl v4) dX8_behind_45 rfl (fun _ _ _ => rfl) rfl rfl rfl ?_
    refine zf_iv (k := 125) (pc' := 50) (r := []) dX8_behind_47 rfl rfl rfl rfl (by decide) rfl rfl rfl (zr_125 (by omega) h) (zf_kI (fun x13 m14 h => ?_))
    exact zf_ri dX8_behind_50 rfl h
def wq_192_26 (v1 : Int32) (v2 : Int32) (v3 : Int32) (v4 : Int32) (m : zf_Me) (Q : Int32 → zf_Me → Prop) : Prop := ((¬ v4.toInt = 0 → wq_192_39 v1 v2 v3 v4 m Q) ∧ (v4.toInt = 0 → wp_190 v1 v2 m (fun x15 m16 => wq_192_39 v1 v2 v3 x15 m16 Q)))
theorem zq_192_26 {d : Nat} (hd : 4 ≤ d) {v1 : Int32} {v2 : Int32} {v3 : Int32} {Q : Int32 → zf_Me → Prop} {v4 : Int32} {m : zf_Me} (h : wq_192_26 v1 v2 v3 v4 m Q) : zf_W none 0 0 d zt_192 26 [some (.inr (.inr (1, 63))), some (.inl v1), some (.inl v2), some (.inl v3), some (.inl v4), none, none] [] m (zf_I Q) := by
  obtain ⟨e, rfl⟩ : ∃ z, d = z + 1 := ⟨d - 1, by omega⟩
  unfold wq_192_26 at h
  refine zf_ld (pc' := 28) (v := .inl v4) dX8_behind_26 rfl (fun _ _ _ => rfl) rfl rfl rfl ?_
  refine zf_if_ne (tgt := 39) (pc' := 31) dX8_behind_28 rfl rfl (fun g => ?_) (fun g => ?_)
  · replace h := h.1 g
    exact zf_lo (zq_192_39 (by omega) h) ⟨rfl, rfl, rfl, rfl, rfl, trivial⟩
  · replace h := h.2 g
    refine zf_ld (pc' := 32) (v := .inr (.inr (1, 63))) dX8_behind_31 rfl (fun _ _ _ => rfl) rfl rfl rfl ?_
    refine zf_ld (pc' := 33) (v := .inl v1) dX8_behind_32 rfl (fun _ _ _ => rfl) rfl rfl rfl ?_
    refine zf_ld (pc' := 34) (v := .inl v2) dX8_behind_33 rfl (fun _ _ _ => rfl) rfl rfl rfl ?_
    refine zf_iv (k := 190) (pc' := 37) (r := []) dX8_behind_34 rfl rfl rfl rfl (by decide) rfl rfl rfl (zr_190 (by omega) h) (zf_kI (fun x15 m16 h => ?_))
    refine zf_st (pc' := 39) (L2 := [some (.inr (.inr (1, 63))), some (.inl v1), some (.inl v2), some (.inl v3), some (.inl x15), none, none]) dX8_behind_37 rfl (fun _ _ _ => rfl) rfl rfl rfl rfl rfl rfl ?_
    exact zf_lo (zq_192_39 (by omega) h) ⟨rfl, rfl, rfl, rfl, rfl, trivial⟩
def wq_192_22 (v1 : Int32) (v2 : Int32) (v3 : Int32) (m : zf_Me) (Q : Int32 → zf_Me → Prop) : Prop := wq_192_26 v1 v2 v3 (-5) m Q
theorem zq_192_22 {d : Nat} (hd : 4 ≤ d) {v1 : Int32} {v2 : Int32} {v3 : Int32} {Q : Int32 → zf_Me → Prop} {m : zf_Me} (h : wq_192_22 v1 v2 v3 m Q) : zf_W none 0 0 d zt_192 22 [some (.inr (.inr (1, 63))), some (.inl v1), some (.inl v2), some (.inl v3), none, none, none] [] m (zf_I Q) := by
  unfold wq_192_22 at h
  refine zf_bi (v := (-5)) (pc' := 24) dX8_behind_22 rfl rfl ?_
  refine zf_st (pc' := 26) (L2 := [some (.inr (.inr (1, 63))), some (.inl v1), some (.inl v2), some (.inl v3), some (.inl (-5)), none, none]) dX8_behind_24 rfl (fun _ _ _ => rfl) rfl rfl rfl rfl rfl rfl ?_
  exact zf_lo (zq_192_26 (by omega) h) ⟨rfl, rfl, rfl, rfl, rfl, trivial⟩
def wp_192 (v1 : Int32) (v2 : Int32) (v3 : Int32) (m : zf_Me) (Q : Int32 → zf_Me → Prop) : Prop := wp_139 v1 v2 m (fun x1 m2 => ((¬ x1.toInt = 0 → wq_192_26 v1 v2 v3 x1 m2 Q) ∧ (x1.toInt = 0 → ((v3.toInt < 0 → wq_192_22 v1 v2 v3 m2 Q) ∧ (v3.toInt ≥ 0 → ((v3.toInt ≤ 3 → wq_192_26 v1 v2 v3 x1 m2 Q) ∧ (v3.toInt > 3 → wq_192_22 v1 v2 v3 m2 Q)))))))
theorem zr_192 {d : Nat} (hd : 4 ≤ d) {v1 : Int32} {v2 : Int32} {v3 : Int32} {Q : Int32 → zf_Me → Prop} {m : zf_Me} (h : wp_192 v1 v2 v3 m Q) : zf_M d 192 [.inr (.inr (1, 63)), .inl v1, .inl v2, .inl v3] m (zf_I Q) := by
  obtain ⟨e, rfl⟩ : ∃ z, d = z + 1 := ⟨d - 1, by omega⟩
  unfold wp_192 at h
  refine zf_M_of (Nat.le_of_ble_eq_true rfl) zm_192 (L := [some (.inr (.inr (1, 63))), some (.inl v1), some (.inl v2), some (.inl v3), none, none, none]) rfl ?_
  refine zf_ld (pc' := 1) (v := .inr (.inr (1, 63))) dX8_behind_0 rfl (fun _ _ _ => rfl) rfl rfl rfl ?_
  refine zf_ld (pc' := 2) (v := .inl v1) dX8_behind_1 rfl (fun _ _ _ => rfl) rfl rfl rfl ?_
  refine zf_ld (pc' := 3) (v := .inl v2) dX8_behind_2 rfl (fun _ _ _ => rfl) rfl rfl rfl ?_
  refine zf_iv (k := 139) (pc' := 6) (r := []) dX8_behind_3 rfl rfl rfl rfl (by decide) rfl rfl rfl (zr_139 (by omega) h) (zf_kI (fun x1 m2 h => ?_))
  refine zf_st (pc' := 8) (L2 := [some (.inr (.inr (1, 63))), some (.inl v1), some (.inl v2), some (.inl v3), some (.inl x1), none, none]) dX8_behind_6 rfl (fun _ _ _ => rfl) rfl rfl rfl rfl rfl rfl ?_
  refine zf_ld (pc' := 10) (v := .inl x1) dX8_behind_8 rfl (fun _ _ _ => rfl) rfl rfl rfl ?_
  refine zf_if_ne (tgt := 26) (pc' := 13) dX8_behind_10 rfl rfl (fun g => ?_) (fun g => ?_)
  · replace h := h.1 g
    exact zf_lo (zq_192_26 (by omega) h) ⟨rfl, rfl, rfl, rfl, rfl, trivial⟩
  · replace h := h.2 g
    refine zf_ld (pc' := 14) (v := .inl v3) dX8_behind_13 rfl (fun _ _ _ => rfl) rfl rfl rfl ?_
    refine zf_if_lt (tgt := 22) (pc' := 17) dX8_behind_14 rfl rfl (fun g => ?_) (fun g => ?_)
    · replace h := h.1 g
      exact zf_lo (zq_192_22 (by omega) h) ⟨rfl, rfl, rfl, rfl, trivial⟩
    · replace h := h.2 g
      refine zf_ld (pc' := 18) (v := .inl v3) dX8_behind_17 rfl (fun _ _ _ => rfl) rfl rfl rfl ?_
      refine zf_ic (v := 3) (pc' := 19) dX8_behind_18 rfl rfl ?_
      refine zf_icmp_le (tgt := 26) (pc' := 22) dX8_behind_19 rfl rfl (fun g => ?_) (fun g => ?_)
      · replace h := h.1 g
        exact zf_lo (zq_192_26 (by omega) h) ⟨rfl, rfl, rfl, rfl, rfl, trivial⟩
      · replace h := h.2 g
        exact zf_lo (zq_192_22 (by omega) h) ⟨rfl, rfl, rfl, rfl, trivial⟩
end
section
/-! part 43: methods 193..: laid by wip/flat/dec.py -/
def zt_193 : zx_MT := (8, yX8_done, cX8_done, 4, (some FieldType.int), 2, 0)
theorem zm_193 : zx_m 193 = zt_193 := rfl
theorem dX8_done_r0 : zdcP cX8_done 0 [(.aload_n 0, 1), (.iload_n 1, 1), (.iload_n 2, 1), (.invokevirtual 293, 3), (.istore_n 3, 1), (.iload_n 3, 1), (.ifCond .eq 9, 3), (.aload_n 0, 1), (.iload_n 3, 1), (.invokevirtual 115, 3), (.ireturn, 1), (.aload_n 0, 1), (.aload_n 0, 1), (.getfield 90, 3), (.iconst 0, 1), (.iconst 0, 1)] := zdcA_ok (by decide +kernel)
theorem dX8_done_0 : decode cX8_done 0 = .ok (.aload_n 0, 1) := dX8_done_r0.1
theorem dX8_done_1 : decode cX8_done 1 = .ok (.iload_n 1, 1) := dX8_done_r0.2.1
theorem dX8_done_2 : decode cX8_done 2 = .ok (.iload_n 2, 1) := dX8_done_r0.2.2.1
theorem dX8_done_3 : decode cX8_done 3 = .ok (.invokevirtual 293, 3) := dX8_done_r0.2.2.2.1
theorem dX8_done_6 : decode cX8_done 6 = .ok (.istore_n 3, 1) := dX8_done_r0.2.2.2.2.1
theorem dX8_done_7 : decode cX8_done 7 = .ok (.iload_n 3, 1) := dX8_done_r0.2.2.2.2.2.1
theorem dX8_done_8 : decode cX8_done 8 = .ok (.ifCond .eq 9, 3) := dX8_done_r0.2.2.2.2.2.2.1
theorem dX8_done_11 : decode cX8_done 11 = .ok (.aload_n 0, 1) := dX8_done_r0.2.2.2.2.2.2.2.1
theorem dX8_done_12 : decode cX8_done 12 = .ok (.iload_n 3, 1) := dX8_done_r0.2.2.2.2.2.2.2.2.1
theorem dX8_done_13 : decode cX8_done 13 = .ok (.invokevirtual 115, 3) := dX8_done_r0.2.2.2.2.2.2.2.2.2.1
theorem dX8_done_16 : decode cX8_done 16 = .ok (.ireturn, 1) := dX8_done_r0.2.2.2.2.2.2.2.2.2.2.1
theorem dX8_done_17 : decode cX8_done 17 = .ok (.aload_n 0, 1) := dX8_done_r0.2.2.2.2.2.2.2.2.2.2.2.1
theorem dX8_done_18 : decode cX8_done 18 = .ok (.aload_n 0, 1) := dX8_done_r0.2.2.2.2.2.2.2.2.2.2.2.2.1
theorem dX8_done_19 : decode cX8_done 19 = .ok (.getfield 90, 3) := dX8_done_r0.2.2.2.2.2.2.2.2.2.2.2.2.2.1
theorem dX8_done_22 : decode cX8_done 22 = .ok (.iconst 0, 1) := dX8_done_r0.2.2.2.2.2.2.2.2.2.2.2.2.2.2.1
theorem dX8_done_23 : decode cX8_done 23 = .ok (.iconst 0, 1) := dX8_done_r0.2.2.2.2.2.2.2.2.2.2.2.2.2.2.2.1
theorem dX8_done_r24 : zdcP cX8_done 24 [(.invokevirtual 213, 3), (.aload_n 0, 1), (.iload_n 1, 1), (.iload_n 2, 1), (.invokevirtual 296, 3), (.iconst (-1), 1), (.if_icmp .ne 8, 3), (.aload_n 0, 1), (.getfield 207, 3), (.ireturn, 1), (.aload_n 0, 1), (.invokevirtual 284, 3), (.aload_n 0, 1), (.bipush (-6), 2), (.invokevirtual 115, 3), (.ireturn, 1)] := zdcA_ok (by decide +kernel)
theorem dX8_done_24 : decode cX8_done 24 = .ok (.invokevirtual 213, 3) := dX8_done_r24.1
theorem dX8_done_27 : decode cX8_done 27 = .ok (.aload_n 0, 1) := dX8_done_r24.2.1
theorem dX8_done_28 : decode cX8_done 28 = .ok (.iload_n 1, 1) := dX8_done_r24.2.2.1
theorem dX8_done_29 : decode cX8_done 29 = .ok (.iload_n 2, 1) := dX8_done_r24.2.2.2.1
theorem dX8_done_30 : decode cX8_done 30 = .ok (.invokevirtual 296, 3) := dX8_done_r24.2.2.2.2.1
theorem dX8_done_33 : decode cX8_done 33 = .ok (.iconst (-1), 1) := dX8_done_r24.2.2.2.2.2.1
theorem dX8_done_34 : decode cX8_done 34 = .ok (.if_icmp .ne 8, 3) := dX8_done_r24.2.2.2.2.2.2.1
theorem dX8_done_37 : decode cX8_done 37 = .ok (.aload_n 0, 1) := dX8_done_r24.2.2.2.2.2.2.2.1
theorem dX8_done_38 : decode cX8_done 38 = .ok (.getfield 207, 3) := dX8_done_r24.2.2.2.2.2.2.2.2.1
theorem dX8_done_41 : decode cX8_done 41 = .ok (.ireturn, 1) := dX8_done_r24.2.2.2.2.2.2.2.2.2.1
theorem dX8_done_42 : decode cX8_done 42 = .ok (.aload_n 0, 1) := dX8_done_r24.2.2.2.2.2.2.2.2.2.2.1
theorem dX8_done_43 : decode cX8_done 43 = .ok (.invokevirtual 284, 3) := dX8_done_r24.2.2.2.2.2.2.2.2.2.2.2.1
theorem dX8_done_46 : decode cX8_done 46 = .ok (.aload_n 0, 1) := dX8_done_r24.2.2.2.2.2.2.2.2.2.2.2.2.1
theorem dX8_done_47 : decode cX8_done 47 = .ok (.bipush (-6), 2) := dX8_done_r24.2.2.2.2.2.2.2.2.2.2.2.2.2.1
theorem dX8_done_49 : decode cX8_done 49 = .ok (.invokevirtual 115, 3) := dX8_done_r24.2.2.2.2.2.2.2.2.2.2.2.2.2.2.1
theorem dX8_done_52 : decode cX8_done 52 = .ok (.ireturn, 1) := dX8_done_r24.2.2.2.2.2.2.2.2.2.2.2.2.2.2.2.1
def wp_193 (v1 : Int32) (v2 : Int32) (m : zf_Me) (Q : Int32 → zf_Me → Prop) : Prop := wp_190 v1 v2 m (fun x1 m2 => ((x1.toInt = 0 → wp_161 81 90 0 0 m2 (fun m4 => wp_189 v1 v2 m4 (fun x5 m6 => ((¬ x5.toInt = (-1) → wp_182 m6 (fun m8 => wp_125 (-6) m8 (fun x9 m10 => Q x9 m10))) ∧ (x5.toInt = (-1) → Q (m6.1 63 10) m6))))) ∧ (¬ x1.toInt = 0 → wp_125 x1 m2 (fun x11 m12 => Q x11 m12))))
theorem zr_193 {d : Nat} (hd : 4 ≤ d) {v1 : Int32} {v2 : Int32} {Q : Int32 → zf_Me → Prop} {m : zf_Me} (h : wp_193 v1 v2 m Q) : zf_M d 193 [.inr (.inr (1, 63)), .inl v1, .inl v2] m (zf_I Q) := by
  obtain ⟨e, rfl⟩ : ∃ z, d = z + 1 := ⟨d - 1, by omega⟩
  unfold wp_193 at h
  refine zf_M_of (Nat.le_of_ble_eq_true rfl) zm_193 (L := [some (.inr (.inr (1, 63))), some (.inl v1), some (.inl v2), none]) rfl ?_
  refine zf_ld (pc' := 1) (v := .inr (.inr (1, 63))) dX8_done_0 rfl (fun _ _ _ => rfl) rfl rfl rfl ?_
  refine zf_ld (pc' := 2) (v := .inl v1) dX8_done_1 rfl (fun _ _ _ => rfl) rfl rfl rfl ?_
  refine zf_ld (pc' := 3) (v := .inl v2) dX8_done_2 rfl (fun _ _ _ => rfl) rfl rfl rfl ?_
  refine zf_iv (k := 190) (pc' := 6) (r := []) dX8_done_3 rfl rfl rfl rfl (by decide) rfl rfl rfl (zr_190 (by omega) h) (zf_kI (fun x1 m2 h => ?_))
  refine zf_st (pc' := 7) (L2 := [some (.inr (.inr (1, 63))), some (.inl v1), some (.inl v2), some (.inl x1)]) dX8_done_6 rfl (fun _ _ _ => rfl) rfl rfl rfl rfl rfl rfl ?_
  refine zf_ld (pc' := 8) (v := .inl x1) dX8_done_7 rfl (fun _ _ _ => rfl) rfl rfl rfl ?_
  refine zf_if_eq (tgt := 17) (pc' := 11) dX8_done_8 rfl rfl (fun g => ?_) (fun g => ?_)
  · replace h := h.1 g
    refine zf_ld (pc' := 18) (v := .inr (.inr (1, 63))) dX8_done_17 rfl (fun _ _ _ => rfl) rfl rfl rfl ?_
    refine zf_ld (pc' := 19) (v := .inr (.inr (1, 63))) dX8_done_18 rfl (fun _ _ _ => rfl) rfl rfl rfl ?_
    refine zf_gfr (pc' := 22) (b := 81) dX8_done_19 rfl rfl (by decide) rfl rfl ?_
    refine zf_ic (v := 0) (pc' := 23) dX8_done_22 rfl rfl ?_
    refine zf_ic (v := 0) (pc' := 24) dX8_done_23 rfl rfl ?_
    refine zf_iv (k := 161) (pc' := 27) (r := []) dX8_done_24 rfl rfl rfl rfl (by decide) rfl rfl rfl (zr_161 (by omega) (⟨by decide, rfl⟩ : zf_arr 81 90) h) (zf_kO (fun m4 h => ?_))
    refine zf_ld (pc' := 28) (v := .inr (.inr (1, 63))) dX8_done_27 rfl (fun _ _ _ => rfl) rfl rfl rfl ?_
    refine zf_ld (pc' := 29) (v := .inl v1) dX8_done_28 rfl (fun _ _ _ => rfl) rfl rfl rfl ?_
    refine zf_ld (pc' := 30) (v := .inl v2) dX8_done_29 rfl (fun _ _ _ => rfl) rfl rfl rfl ?_
    refine zf_iv (k := 189) (pc' := 33) (r := []) dX8_done_30 rfl rfl rfl rfl (by decide) rfl rfl rfl (zr_189 (by omega) h) (zf_kI (fun x5 m6 h => ?_))
    refine zf_ic (v := (-1)) (pc' := 34) dX8_done_33 rfl rfl ?_
    refine zf_icmp_ne (tgt := 42) (pc' := 37) dX8_done_34 rfl rfl (fun g => ?_) (fun g => ?_)
    · replace h := h.1 g
      refine zf_ld (pc' := 43) (v := .inr (.inr (1, 63))) dX8_done_42 rfl (fun _ _ _ => rfl) rfl rfl rfl ?_
      refine zf_iv (k := 182) (pc' := 46) (r := []) dX8_done_43 rfl rfl rfl rfl (by decide) rfl rfl rfl (zr_182 (by omega) h) (zf_kO (fun m8 h => ?_))
      refine zf_ld (pc' := 47) (v := .inr (.inr (1, 63))) dX8_done_46 rfl (fun _ _ _ => rfl) rfl rfl rfl ?_
      refine zf_bi (v := (-6)) (pc' := 49) dX8_done_47 rfl rfl ?_
      refine zf_iv (k := 125) (pc' := 52) (r := []) dX8_done_49 rfl rfl rfl rfl (by decide) rfl rfl rfl (zr_125 (by omega) h) (zf_kI (fun x9 m10 h => ?_))
      exact zf_ri dX8_done_52 rfl h
    · replace h := h.2 g
      refine zf_ld (pc' := 38) (v := .inr (.inr (1, 63))) dX8_done_37 rfl (fun _ _ _ => rfl) rfl rfl rfl ?_
      refine zf_gfi (pc' := 41) dX8_done_38 rfl rfl (by decide) rfl rfl ?_
      exact zf_ri dX8_done_41 rfl h
  · replace h := h.2 g
    refine zf_ld (pc' := 12) (v := .inr (.inr (1, 63))) dX8_done_11 rfl (fun _ _ _ => rfl) rfl rfl rfl ?_
    refine zf_ld (pc' := 13) (v := .inl x1) dX8_done_12 rfl (fun _ _ _ => rfl) rfl rfl rfl ?_
    refine zf_iv (k := 125) (pc' := 16) (r := []) dX8_done_13 rfl rfl rfl rfl (by decide) rfl rfl rfl (zr_125 (by omega) h) (zf_kI (fun x11 m12 h => ?_))
    exact zf_ri dX8_done_16 rfl h
def zt_194 : zx_MT := (8, yX8_fits, cX8_fits, 7, (some FieldType.int), 1, 0)
theorem zm_194 : zx_m 194 = zt_194 := rfl
theorem dX8_fits_r0 : zdcP cX8_fits 0 [(.aload_n 0, 1), (.iload_n 1, 1), (.invokevirtual 130, 3), (.istore_n 2, 1), (.iload_n 2, 1), (.ifCond .ne 19, 3), (.aload_n 0, 1), (.getfield 105, 3), (.aload_n 0, 1), (.getfield 62, 3), (.iload_n 1, 1), (.iaload, 1), (.if_icmp .le 6, 3), (.bipush (-5), 2), (.istore_n 2, 1), (.iload_n 2, 1)] := zdcA_ok (by decide +kernel)
theorem dX8_fits_0 : decode cX8_fits 0 = .ok (.aload_n 0, 1) := dX8_fits_r0.1
theorem dX8_fits_1 : decode cX8_fits 1 = .ok (.iload_n 1, 1) := dX8_fits_r0.2.1
theorem dX8_fits_2 : decode cX8_fits 2 = .ok (.invokevirtual 130, 3) := dX8_fits_r0.2.2.1
theorem dX8_fits_5 : decode cX8_fits 5 = .ok (.istore_n 2, 1) := dX8_fits_r0.2.2.2.1
theorem dX8_fits_6 : decode cX8_fits 6 = .ok (.iload_n 2, 1) := dX8_fits_r0.2.2.2.2.1
theorem dX8_fits_7 : decode cX8_fits 7 = .ok (.ifCond .ne 19, 3) := dX8_fits_r0.2.2.2.2.2.1
theorem dX8_fits_10 : decode cX8_fits 10 = .ok (.aload_n 0, 1) := dX8_fits_r0.2.2.2.2.2.2.1
theorem dX8_fits_11 : decode cX8_fits 11 = .ok (.getfield 105, 3) := dX8_fits_r0.2.2.2.2.2.2.2.1
theorem dX8_fits_14 : decode cX8_fits 14 = .ok (.aload_n 0, 1) := dX8_fits_r0.2.2.2.2.2.2.2.2.1
theorem dX8_fits_15 : decode cX8_fits 15 = .ok (.getfield 62, 3) := dX8_fits_r0.2.2.2.2.2.2.2.2.2.1
theorem dX8_fits_18 : decode cX8_fits 18 = .ok (.iload_n 1, 1) := dX8_fits_r0.2.2.2.2.2.2.2.2.2.2.1
theorem dX8_fits_19 : decode cX8_fits 19 = .ok (.iaload, 1) := dX8_fits_r0.2.2.2.2.2.2.2.2.2.2.2.1
theorem dX8_fits_20 : decode cX8_fits 20 = .ok (.if_icmp .le 6, 3) := dX8_fits_r0.2.2.2.2.2.2.2.2.2.2.2.2.1
theorem dX8_fits_23 : decode cX8_fits 23 = .ok (.bipush (-5), 2) := dX8_fits_r0.2.2.2.2.2.2.2.2.2.2.2.2.2.1
theorem dX8_fits_25 : decode cX8_fits 25 = .ok (.istore_n 2, 1) := dX8_fits_r0.2.2.2.2.2.2.2.2.2.2.2.2.2.2.1
theorem dX8_fits_26 : decode cX8_fits 26 = .ok (.iload_n 2, 1) := dX8_fits_r0.2.2.2.2.2.2.2.2.2.2.2.2.2.2.2.1
theorem dX8_fits_r27 : zdcP cX8_fits 27 [(.ifCond .eq 9, 3), (.aload_n 0, 1), (.iload_n 2, 1), (.invokevirtual 115, 3), (.ireturn, 1), (.iconst 0, 1), (.istore_n 3, 1), (.iconst 0, 1), (.istore 4, 2), (.iload 4, 2), (.iconst 4, 1), (.if_icmp .ge 72, 3), (.aload_n 0, 1), (.iload 4, 2), (.invokevirtual 281, 3), (.iconst 1, 1)] := zdcA_ok (by decide +kernel)
theorem dX8_fits_27 : decode cX8_fits 27 = .ok (.ifCond .eq 9, 3) := dX8_fits_r27.1
theorem dX8_fits_30 : decode cX8_fits 30 = .ok (.aload_n 0, 1) := dX8_fits_r27.2.1
theorem dX8_fits_31 : decode cX8_fits 31 = .ok (.iload_n 2, 1) := dX8_fits_r27.2.2.1
theorem dX8_fits_32 : decode cX8_fits 32 = .ok (.invokevirtual 115, 3) := dX8_fits_r27.2.2.2.1
theorem dX8_fits_35 : decode cX8_fits 35 = .ok (.ireturn, 1) := dX8_fits_r27.2.2.2.2.1
theorem dX8_fits_36 : decode cX8_fits 36 = .ok (.iconst 0, 1) := dX8_fits_r27.2.2.2.2.2.1
theorem dX8_fits_37 : decode cX8_fits 37 = .ok (.istore_n 3, 1) := dX8_fits_r27.2.2.2.2.2.2.1
theorem dX8_fits_38 : decode cX8_fits 38 = .ok (.iconst 0, 1) := dX8_fits_r27.2.2.2.2.2.2.2.1
theorem dX8_fits_39 : decode cX8_fits 39 = .ok (.istore 4, 2) := dX8_fits_r27.2.2.2.2.2.2.2.2.1
theorem dX8_fits_41 : decode cX8_fits 41 = .ok (.iload 4, 2) := dX8_fits_r27.2.2.2.2.2.2.2.2.2.1
theorem dX8_fits_43 : decode cX8_fits 43 = .ok (.iconst 4, 1) := dX8_fits_r27.2.2.2.2.2.2.2.2.2.2.1
theorem dX8_fits_44 : decode cX8_fits 44 = .ok (.if_icmp .ge 72, 3) := dX8_fits_r27.2.2.2.2.2.2.2.2.2.2.2.1
theorem dX8_fits_47 : decode cX8_fits 47 = .ok (.aload_n 0, 1) := dX8_fits_r27.2.2.2.2.2.2.2.2.2.2.2.2.1
theorem dX8_fits_48 : decode cX8_fits 48 = .ok (.iload 4, 2) := dX8_fits_r27.2.2.2.2.2.2.2.2.2.2.2.2.2.1
theorem dX8_fits_50 : decode cX8_fits 50 = .ok (.invokevirtual 281, 3) := dX8_fits_r27.2.2.2.2.2.2.2.2.2.2.2.2.2.2.1
theorem dX8_fits_53 : decode cX8_fits 53 = .ok (.iconst 1, 1) := dX8_fits_r27.2.2.2.2.2.2.2.2.2.2.2.2.2.2.2.1
theorem dX8_fits_r54 : zdcP cX8_fits 54 [(.istore 5, 2), (.iconst 0, 1), (.istore 6, 2), (.iload 6, 2), (.aload_n 0, 1), (.getfield 105, 3), (.if_icmp .ge 29, 3), (.aload_n 0, 1), (.getfield 53, 3), (.iload 6, 2), (.iaload, 1), (.aload_n 0, 1), (.iload_n 1, 1), (.iload 6, 2), (.invokevirtual 287, 3), (.if_icmp .eq 6, 3)] := zdcA_ok (by decide +kernel)
theorem dX8_fits_54 : decode cX8_fits 54 = .ok (.istore 5, 2) := dX8_fits_r54.1
theorem dX8_fits_56 : decode cX8_fits 56 = .ok (.iconst 0, 1) := dX8_fits_r54.2.1
theorem dX8_fits_57 : decode cX8_fits 57 = .ok (.istore 6, 2) := dX8_fits_r54.2.2.1
theorem dX8_fits_59 : decode cX8_fits 59 = .ok (.iload 6, 2) := dX8_fits_r54.2.2.2.1
theorem dX8_fits_61 : decode cX8_fits 61 = .ok (.aload_n 0, 1) := dX8_fits_r54.2.2.2.2.1
theorem dX8_fits_62 : decode cX8_fits 62 = .ok (.getfield 105, 3) := dX8_fits_r54.2.2.2.2.2.1
theorem dX8_fits_65 : decode cX8_fits 65 = .ok (.if_icmp .ge 29, 3) := dX8_fits_r54.2.2.2.2.2.2.1
theorem dX8_fits_68 : decode cX8_fits 68 = .ok (.aload_n 0, 1) := dX8_fits_r54.2.2.2.2.2.2.2.1
theorem dX8_fits_69 : decode cX8_fits 69 = .ok (.getfield 53, 3) := dX8_fits_r54.2.2.2.2.2.2.2.2.1
theorem dX8_fits_72 : decode cX8_fits 72 = .ok (.iload 6, 2) := dX8_fits_r54.2.2.2.2.2.2.2.2.2.1
theorem dX8_fits_74 : decode cX8_fits 74 = .ok (.iaload, 1) := dX8_fits_r54.2.2.2.2.2.2.2.2.2.2.1
theorem dX8_fits_75 : decode cX8_fits 75 = .ok (.aload_n 0, 1) := dX8_fits_r54.2.2.2.2.2.2.2.2.2.2.2.1
theorem dX8_fits_76 : decode cX8_fits 76 = .ok (.iload_n 1, 1) := dX8_fits_r54.2.2.2.2.2.2.2.2.2.2.2.2.1
theorem dX8_fits_77 : decode cX8_fits 77 = .ok (.iload 6, 2) := dX8_fits_r54.2.2.2.2.2.2.2.2.2.2.2.2.2.1
theorem dX8_fits_79 : decode cX8_fits 79 = .ok (.invokevirtual 287, 3) := dX8_fits_r54.2.2.2.2.2.2.2.2.2.2.2.2.2.2.1
theorem dX8_fits_82 : decode cX8_fits 82 = .ok (.if_icmp .eq 6, 3) := dX8_fits_r54.2.2.2.2.2.2.2.2.2.2.2.2.2.2.2.1
theorem dX8_fits_r85 : zdcP cX8_fits 85 [(.iconst 0, 1), (.istore 5, 2), (.iinc 6 1, 3), (.goto (-32), 3), (.aload_n 0, 1), (.invokevirtual 284, 3), (.iload 5, 2), (.ifCond .eq 10, 3), (.iload_n 3, 1), (.iconst 1, 1), (.iload 4, 2), (.ishl, 1), (.ior, 1), (.istore_n 3, 1), (.iinc 4 1, 3), (.goto (-72), 3)] := zdcA_ok (by decide +kernel)
theorem dX8_fits_85 : decode cX8_fits 85 = .ok (.iconst 0, 1) := dX8_fits_r85.1
theorem dX8_fits_86 : decode cX8_fits 86 = .ok (.istore 5, 2) := dX8_fits_r85.2.1
theorem dX8_fits_88 : decode cX8_fits 88 = .ok (.iinc 6 1, 3) := dX8_fits_r85.2.2.1
theorem dX8_fits_91 : decode cX8_fits 91 = .ok (.goto (-32), 3) := dX8_fits_r85.2.2.2.1
theorem dX8_fits_94 : decode cX8_fits 94 = .ok (.aload_n 0, 1) := dX8_fits_r85.2.2.2.2.1
theorem dX8_fits_95 : decode cX8_fits 95 = .ok (.invokevirtual 284, 3) := dX8_fits_r85.2.2.2.2.2.1
theorem dX8_fits_98 : decode cX8_fits 98 = .ok (.iload 5, 2) := dX8_fits_r85.2.2.2.2.2.2.1
theorem dX8_fits_100 : decode cX8_fits 100 = .ok (.ifCond .eq 10, 3) := dX8_fits_r85.2.2.2.2.2.2.2.1
theorem dX8_fits_103 : decode cX8_fits 103 = .ok (.iload_n 3, 1) := dX8_fits_r85.2.2.2.2.2.2.2.2.1
theorem dX8_fits_104 : decode cX8_fits 104 = .ok (.iconst 1, 1) := dX8_fits_r85.2.2.2.2.2.2.2.2.2.1
theorem dX8_fits_105 : decode cX8_fits 105 = .ok (.iload 4, 2) := dX8_fits_r85.2.2.2.2.2.2.2.2.2.2.1
theorem dX8_fits_107 : decode cX8_fits 107 = .ok (.ishl, 1) := dX8_fits_r85.2.2.2.2.2.2.2.2.2.2.2.1
theorem dX8_fits_108 : decode cX8_fits 108 = .ok (.ior, 1) := dX8_fits_r85.2.2.2.2.2.2.2.2.2.2.2.2.1
theorem dX8_fits_109 : decode cX8_fits 109 = .ok (.istore_n 3, 1) := dX8_fits_r85.2.2.2.2.2.2.2.2.2.2.2.2.2.1
theorem dX8_fits_110 : decode cX8_fits 110 = .ok (.iinc 4 1, 3) := dX8_fits_r85.2.2.2.2.2.2.2.2.2.2.2.2.2.2.1
theorem dX8_fits_113 : decode cX8_fits 113 = .ok (.goto (-72), 3) := dX8_fits_r85.2.2.2.2.2.2.2.2.2.2.2.2.2.2.2.1
theorem dX8_fits_r116 : zdcP cX8_fits 116 [(.iload_n 3, 1), (.ireturn, 1)] := zdcA_ok (by decide +kernel)
theorem dX8_fits_116 : decode cX8_fits 116 = .ok (.iload_n 3, 1) := dX8_fits_r116.1
theorem dX8_fits_117 : decode cX8_fits 117 = .ok (.ireturn, 1) := dX8_fits_r116.2.1
def wq_194_59 (v1 : Int32) (F41 : Int32 → Int32 → zf_Me → Prop) (Q : Int32 → zf_Me → Prop) : Nat → Int32 → Int32 → Int32 → Int32 → zf_Me → Prop
  | 0, _, _, _, _, _ => False
  | n + 1, v3, v4, v5, v6, m => ((v6.toInt ≥ ((m.1 63 1)).toInt → wp_182 m (fun m6 => ((v5.toInt = 0 → F41 v3 (v4 + 1) m6) ∧ (¬ v5.toInt = 0 → F41 (v3 ||| (1 <<< (v4 &&& 31))) (v4 + 1) m6)))) ∧ (v6.toInt < ((m.1 63 1)).toInt → ((0 ≤ (Int32.toInt v6) ∧ (Int32.toInt v6) < (6 : Int)) ∧ wp_138 v1 v6 m (fun x7 m8 => ((((m.1 69 (Int32.toInt v6).toNat)).toInt = x7.toInt → wq_194_59 v1 F41 Q n v3 v4 v5 (v6 + 1) m8) ∧ (¬ ((m.1 69 (Int32.toInt v6).toNat)).toInt = x7.toInt → wq_194_59 v1 F41 Q n v3 v4 0 (v6 + 1) m8))))))
theorem zq_194_59 {d : Nat} (hd : 6 ≤ d) {v1 : Int32} {F41 : Int32 → Int32 → zf_Me → Prop} {Q : Int32 → zf_Me → Prop} (hF41 : ∀ (v3 : Int32) (v4 : Int32) (m : zf_Me), F41 v3 v4 m → zf_W none 0 0 d zt_194 41 [some (.inr (.inr (1, 63))), some (.inl v1), none, some (.inl v3), some (.inl v4), none, none] [] m (zf_I Q)) : ∀ (n : Nat) (v3 : Int32) (v4 : Int32) (v5 : Int32) (v6 : Int32) (m : zf_Me), wq_194_59 v1 F41 Q n v3 v4 v5 v6 m → zf_W none 0 0 d zt_194 59 [some (.inr (.inr (1, 63))), some (.inl v1), none, some (.inl v3), some (.inl v4), some (.inl v5), some (.inl v6)] [] m (zf_I Q) := by
  obtain ⟨e, rfl⟩ : ∃ z, d = z + 1 := ⟨d - 1, by omega⟩
  intro n
  induction n with
  | zero =>
    intro v3 v4 v5 v6 m h
    exact h.elim
  | succ n ih =>
    intro v3 v4 v5 v6 m h
    unfold wq_194_59 at h
    refine zf_ld (pc' := 61) (v := .inl v6) dX8_fits_59 rfl (fun _ _ _ => rfl) rfl rfl rfl ?_
    refine zf_ld (pc' := 62) (v := .inr (.inr (1, 63))) dX8_fits_61 rfl (fun _ _ _ => rfl) rfl rfl rfl ?_
    refine zf_gfi (pc' := 65) dX8_fits_62 rfl rfl (by decide) rfl rfl ?_
    refine zf_icmp_ge (tgt := 94) (pc' := 68) dX8_fits_65 rfl rfl (fun g => ?_) (fun g => ?_)
    · replace h := h.1 g
      refine zf_ld (pc' := 95) (v := .inr (.inr (1, 63))) dX8_fits_94 rfl (fun _ _ _ => rfl) rfl rfl rfl ?_
      refine zf_iv (k := 182) (pc' := 98) (r := []) dX8_fits_95 rfl rfl rfl rfl (by decide) rfl rfl rfl (zr_182 (by omega) h) (zf_kO (fun m6 h => ?_))
      refine zf_ld (pc' := 100) (v := .inl v5) dX8_fits_98 rfl (fun _ _ _ => rfl) rfl rfl rfl ?_
      refine zf_if_eq (tgt := 110) (pc' := 103) dX8_fits_100 rfl rfl (fun g => ?_) (fun g => ?_)
      · replace h := h.1 g
        refine zf_ii (y := (v4 + 1)) (L2 := [some (.inr (.inr (1, 63))), some (.inl v1), none, some (.inl v3), some (.inl (v4 + 1)), some (.inl v5), some (.inl v6)]) (pc' := 113) dX8_fits_110 rfl rfl rfl rfl rfl ?_
        refine zf_goto (tgt := 41) dX8_fits_113 rfl ?_
        exact zf_lo (hF41 _ _ _ h) ⟨rfl, rfl, rfl, rfl, trivial⟩
      · replace h := h.2 g
        refine zf_ld (pc' := 104) (v := .inl v3) dX8_fits_103 rfl (fun _ _ _ => rfl) rfl rfl rfl ?_
        refine zf_ic (v := 1) (pc' := 105) dX8_fits_104 rfl rfl ?_
        refine zf_ld (pc' := 107) (v := .inl v4) dX8_fits_105 rfl (fun _ _ _ => rfl) rfl rfl rfl ?_
        refine zf_in (pc' := 108) (S' := [.inl (1 <<< (v4 &&& 31)), .inl v3]) dX8_fits_107 rfl (fun _ _ _ => rfl) ?_
        refine zf_in (pc' := 109) (S' := [.inl (v3 ||| (1 <<< (v4 &&& 31)))]) dX8_fits_108 rfl (fun _ _ _ => rfl) ?_
        refine zf_st (pc' := 110) (L2 := [some (.inr (.inr (1, 63))), some (.inl v1), none, some (.inl (v3 ||| (1 <<< (v4 &&& 31)))), some (.inl v4), some (.inl v5), some (.inl v6)]) dX8_fits_109 rfl (fun _ _ _ => rfl) rfl rfl rfl rfl rfl rfl ?_
        refine zf_ii (y := (v4 + 1)) (L2 := [some (.inr (.inr (1, 63))), some (.inl v1), none, some (.inl (v3 ||| (1 <<< (v4 &&& 31)))), some (.inl (v4 + 1)), some (.inl v5), some (.inl v6)]) (pc' := 113) dX8_fits_110 rfl rfl rfl rfl rfl ?_
        refine zf_goto (tgt := 41) dX8_fits_113 rfl ?_
        exact zf_lo (hF41 _ _ _ h) ⟨rfl, rfl, rfl, rfl, trivial⟩
    · replace h := h.2 g
      refine zf_ld (pc' := 69) (v := .inr (.inr (1, 63))) dX8_fits_68 rfl (fun _ _ _ => rfl) rfl rfl rfl ?_
      refine zf_gfr (pc' := 72) (b := 69) dX8_fits_69 rfl rfl (by decide) rfl rfl ?_
      refine zf_ld (pc' := 74) (v := .inl v6) dX8_fits_72 rfl (fun _ _ _ => rfl) rfl rfl rfl ?_
      refine zf_ial (pc' := 75) dX8_fits_74 rfl (⟨by decide, rfl⟩ : zf_arr 69 6).1 (⟨by decide, rfl⟩ : zf_arr 69 6).2 h.1 rfl ?_
      replace h := h.2
      refine zf_ld (pc' := 76) (v := .inr (.inr (1, 63))) dX8_fits_75 rfl (fun _ _ _ => rfl) rfl rfl rfl ?_
      refine zf_ld (pc' := 77) (v := .inl v1) dX8_fits_76 rfl (fun _ _ _ => rfl) rfl rfl rfl ?_
      refine zf_ld (pc' := 79) (v := .inl v6) dX8_fits_77 rfl (fun _ _ _ => rfl) rfl rfl rfl ?_
      refine zf_iv (k := 138) (pc' := 82) (r := [.inl (m.1 69 (Int32.toInt v6).toNat)]) dX8_fits_79 rfl rfl rfl rfl (by decide) rfl rfl rfl (zr_138 (by omega) h) (zf_kI (fun x7 m8 h => ?_))
      refine zf_icmp_eq (tgt := 88) (pc' := 85) dX8_fits_82 rfl rfl (fun g => ?_) (fun g => ?_)
      · replace h := h.1 g
        refine zf_ii (y := (v6 + 1)) (L2 := [some (.inr (.inr (1, 63))), some (.inl v1), none, some (.inl v3), some (.inl v4), some (.inl v5), some (.inl (v6 + 1))]) (pc' := 91) dX8_fits_88 rfl rfl rfl rfl rfl ?_
        refine zf_goto (tgt := 59) dX8_fits_91 rfl ?_
        exact zf_lo (ih _ _ _ _ _ h) ⟨rfl, rfl, rfl, rfl, rfl, rfl, trivial⟩
      · replace h := h.2 g
        refine zf_ic (v := 0) (pc' := 86) dX8_fits_85 rfl rfl ?_
        refine zf_st (pc' := 88) (L2 := [some (.inr (.inr (1, 63))), some (.inl v1), none, some (.inl v3), some (.inl v4), some (.inl 0), some (.inl v6)]) dX8_fits_86 rfl (fun _ _ _ => rfl) rfl rfl rfl rfl rfl rfl ?_
        refine zf_ii (y := (v6 + 1)) (L2 := [some (.inr (.inr (1, 63))), some (.inl v1), none, some (.inl v3), some (.inl v4), some (.inl 0), some (.inl (v6 + 1))]) (pc' := 91) dX8_fits_88 rfl rfl rfl rfl rfl ?_
        refine zf_goto (tgt := 59) dX8_fits_91 rfl ?_
        exact zf_lo (ih _ _ _ _ _ h) ⟨rfl, rfl, rfl, rfl, rfl, rfl, trivial⟩
def wq_194_41 (v1 : Int32) (Q : Int32 → zf_Me → Prop) : Nat → Int32 → Int32 → zf_Me → Prop
  | 0, _, _, _ => False
  | n + 1, v3, v4, m => ((v4.toInt ≥ 4 → Q v3 m) ∧ (v4.toInt < 4 → wp_181 v4 m (fun m4 => (∃ n59, wq_194_59 v1 (wq_194_41 v1 Q n) Q n59 v3 v4 1 0 m4))))
theorem zq_194_41 {d : Nat} (hd : 6 ≤ d) {v1 : Int32} {Q : Int32 → zf_Me → Prop} : ∀ (n : Nat) (v3 : Int32) (v4 : Int32) (m : zf_Me), wq_194_41 v1 Q n v3 v4 m → zf_W none 0 0 d zt_194 41 [some (.inr (.inr (1, 63))), some (.inl v1), none, some (.inl v3), some (.inl v4), none, none] [] m (zf_I Q) := by
  obtain ⟨e, rfl⟩ : ∃ z, d = z + 1 := ⟨d - 1, by omega⟩
  intro n
  induction n with
  | zero =>
    intro v3 v4 m h
    exact h.elim
  | succ n ih =>
    intro v3 v4 m h
    unfold wq_194_41 at h
    refine zf_ld (pc' := 43) (v := .inl v4) dX8_fits_41 rfl (fun _ _ _ => rfl) rfl rfl rfl ?_
    refine zf_ic (v := 4) (pc' := 44) dX8_fits_43 rfl rfl ?_
    refine zf_icmp_ge (tgt := 116) (pc' := 47) dX8_fits_44 rfl rfl (fun g => ?_) (fun g => ?_)
    · replace h := h.1 g
      refine zf_ld (pc' := 117) (v := .inl v3) dX8_fits_116 rfl (fun _ _ _ => rfl) rfl rfl rfl ?_
      exact zf_ri dX8_fits_117 rfl h
    · replace h := h.2 g
      refine zf_ld (pc' := 48) (v := .inr (.inr (1, 63))) dX8_fits_47 rfl (fun _ _ _ => rfl) rfl rfl rfl ?_
      refine zf_ld (pc' := 50) (v := .inl v4) dX8_fits_48 rfl (fun _ _ _ => rfl) rfl rfl rfl ?_
      refine zf_iv (k := 181) (pc' := 53) (r := []) dX8_fits_50 rfl rfl rfl rfl (by decide) rfl rfl rfl (zr_181 (by omega) h) (zf_kO (fun m4 h => ?_))
      refine zf_ic (v := 1) (pc' := 54) dX8_fits_53 rfl rfl ?_
      refine zf_st (pc' := 56) (L2 := [some (.inr (.inr (1, 63))), some (.inl v1), none, some (.inl v3), some (.inl v4), some (.inl 1), none]) dX8_fits_54 rfl (fun _ _ _ => rfl) rfl rfl rfl rfl rfl rfl ?_
      refine zf_ic (v := 0) (pc' := 57) dX8_fits_56 rfl rfl ?_
      refine zf_st (pc' := 59) (L2 := [some (.inr (.inr (1, 63))), some (.inl v1), none, some (.inl v3), some (.inl v4), some (.inl 1), some (.inl 0)]) dX8_fits_57 rfl (fun _ _ _ => rfl) rfl rfl rfl rfl rfl rfl ?_
      obtain ⟨n59, h⟩ := h
      exact zf_lo (zq_194_59 (by omega) ih n59 _ _ _ _ _ h) ⟨rfl, rfl, rfl, rfl, rfl, rfl, trivial⟩
def wq_194_26 (v1 : Int32) (v2 : Int32) (m : zf_Me) (Q : Int32 → zf_Me → Prop) : Prop := ((v2.toInt = 0 → (∃ n41, wq_194_41 v1 Q n41 0 0 m)) ∧ (¬ v2.toInt = 0 → wp_125 v2 m (fun x9 m10 => Q x9 m10)))
theorem zq_194_26 {d : Nat} (hd : 6 ≤ d) {v1 : Int32} {Q : Int32 → zf_Me → Prop} {v2 : Int32} {m : zf_Me} (h : wq_194_26 v1 v2 m Q) : zf_W none 0 0 d zt_194 26 [some (.inr (.inr (1, 63))), some (.inl v1), some (.inl v2), none, none, none, none] [] m (zf_I Q) := by
  obtain ⟨e, rfl⟩ : ∃ z, d = z + 1 := ⟨d - 1, by omega⟩
  unfold wq_194_26 at h
  refine zf_ld (pc' := 27) (v := .inl v2) dX8_fits_26 rfl (fun _ _ _ => rfl) rfl rfl rfl ?_
  refine zf_if_eq (tgt := 36) (pc' := 30) dX8_fits_27 rfl rfl (fun g => ?_) (fun g => ?_)
  · replace h := h.1 g
    refine zf_ic (v := 0) (pc' := 37) dX8_fits_36 rfl rfl ?_
    refine zf_st (pc' := 38) (L2 := [some (.inr (.inr (1, 63))), some (.inl v1), some (.inl v2), some (.inl 0), none, none, none]) dX8_fits_37 rfl (fun _ _ _ => rfl) rfl rfl rfl rfl rfl rfl ?_
    refine zf_ic (v := 0) (pc' := 39) dX8_fits_38 rfl rfl ?_
    refine zf_st (pc' := 41) (L2 := [some (.inr (.inr (1, 63))), some (.inl v1), some (.inl v2), some (.inl 0), some (.inl 0), none, none]) dX8_fits_39 rfl (fun _ _ _ => rfl) rfl rfl rfl rfl rfl rfl ?_
    obtain ⟨n41, h⟩ := h
    exact zf_lo (zq_194_41 (by omega) n41 _ _ _ h) ⟨rfl, rfl, rfl, rfl, trivial⟩
  · replace h := h.2 g
    refine zf_ld (pc' := 31) (v := .inr (.inr (1, 63))) dX8_fits_30 rfl (fun _ _ _ => rfl) rfl rfl rfl ?_
    refine zf_ld (pc' := 32) (v := .inl v2) dX8_fits_31 rfl (fun _ _ _ => rfl) rfl rfl rfl ?_
    refine zf_iv (k := 125) (pc' := 35) (r := []) dX8_fits_32 rfl rfl rfl rfl (by decide) rfl rfl rfl (zr_125 (by omega) h) (zf_kI (fun x9 m10 h => ?_))
    exact zf_ri dX8_fits_35 rfl h
def wp_194 (v1 : Int32) (m : zf_Me) (Q : Int32 → zf_Me → Prop) : Prop := wp_137 v1 m (fun x1 m2 => ((¬ x1.toInt = 0 → wq_194_26 v1 x1 m2 Q) ∧ (x1.toInt = 0 → ((0 ≤ (Int32.toInt v1) ∧ (Int32.toInt v1) < (8 : Int)) ∧ ((((m2.1 63 1)).toInt ≤ ((m2.1 72 (Int32.toInt v1).toNat)).toInt → wq_194_26 v1 x1 m2 Q) ∧ (((m2.1 63 1)).toInt > ((m2.1 72 (Int32.toInt v1).toNat)).toInt → wq_194_26 v1 (-5) m2 Q))))))
theorem zr_194 {d : Nat} (hd : 6 ≤ d) {v1 : Int32} {Q : Int32 → zf_Me → Prop} {m : zf_Me} (h : wp_194 v1 m Q) : zf_M d 194 [.inr (.inr (1, 63)), .inl v1] m (zf_I Q) := by
  obtain ⟨e, rfl⟩ : ∃ z, d = z + 1 := ⟨d - 1, by omega⟩
  unfold wp_194 at h
  refine zf_M_of (Nat.le_of_ble_eq_true rfl) zm_194 (L := [some (.inr (.inr (1, 63))), some (.inl v1), none, none, none, none, none]) rfl ?_
  refine zf_ld (pc' := 1) (v := .inr (.inr (1, 63))) dX8_fits_0 rfl (fun _ _ _ => rfl) rfl rfl rfl ?_
  refine zf_ld (pc' := 2) (v := .inl v1) dX8_fits_1 rfl (fun _ _ _ => rfl) rfl rfl rfl ?_
  refine zf_iv (k := 137) (pc' := 5) (r := []) dX8_fits_2 rfl rfl rfl rfl (by decide) rfl rfl rfl (zr_137 (by omega) h) (zf_kI (fun x1 m2 h => ?_))
  refine zf_st (pc' := 6) (L2 := [some (.inr (.inr (1, 63))), some (.inl v1), some (.inl x1), none, none, none, none]) dX8_fits_5 rfl (fun _ _ _ => rfl) rfl rfl rfl rfl rfl rfl ?_
  refine zf_ld (pc' := 7) (v := .inl x1) dX8_fits_6 rfl (fun _ _ _ => rfl) rfl rfl rfl ?_
  refine zf_if_ne (tgt := 26) (pc' := 10) dX8_fits_7 rfl rfl (fun g => ?_) (fun g => ?_)
  · replace h := h.1 g
    exact zf_lo (zq_194_26 (by omega) h) ⟨rfl, rfl, rfl, trivial⟩
  · replace h := h.2 g
    refine zf_ld (pc' := 11) (v := .inr (.inr (1, 63))) dX8_fits_10 rfl (fun _ _ _ => rfl) rfl rfl rfl ?_
    refine zf_gfi (pc' := 14) dX8_fits_11 rfl rfl (by decide) rfl rfl ?_
    refine zf_ld (pc' := 15) (v := .inr (.inr (1, 63))) dX8_fits_14 rfl (fun _ _ _ => rfl) rfl rfl rfl ?_
    refine zf_gfr (pc' := 18) (b := 72) dX8_fits_15 rfl rfl (by decide) rfl rfl ?_
    refine zf_ld (pc' := 19) (v := .inl v1) dX8_fits_18 rfl (fun _ _ _ => rfl) rfl rfl rfl ?_
    refine zf_ial (pc' := 20) dX8_fits_19 rfl (⟨by decide, rfl⟩ : zf_arr 72 8).1 (⟨by decide, rfl⟩ : zf_arr 72 8).2 h.1 rfl ?_
    replace h := h.2
    refine zf_icmp_le (tgt := 26) (pc' := 23) dX8_fits_20 rfl rfl (fun g => ?_) (fun g => ?_)
    · replace h := h.1 g
      exact zf_lo (zq_194_26 (by omega) h) ⟨rfl, rfl, rfl, trivial⟩
    · replace h := h.2 g
      refine zf_bi (v := (-5)) (pc' := 25) dX8_fits_23 rfl rfl ?_
      refine zf_st (pc' := 26) (L2 := [some (.inr (.inr (1, 63))), some (.inl v1), some (.inl (-5)), none, none, none, none]) dX8_fits_25 rfl (fun _ _ _ => rfl) rfl rfl rfl rfl rfl rfl ?_
      exact zf_lo (zq_194_26 (by omega) h) ⟨rfl, rfl, rfl, trivial⟩
def zt_195 : zx_MT := (8, yX8_enough, cX8_enough, 4, (some FieldType.int), 0, 0)
theorem zm_195 : zx_m 195 = zt_195 := rfl
theorem dX8_enough_r0 : zdcP cX8_enough 0 [(.aload_n 0, 1), (.getfield 22, 3), (.istore_n 1, 1), (.iconst (-1), 1), (.istore_n 2, 1), (.iconst 0, 1), (.istore_n 3, 1), (.iload_n 3, 1), (.bipush 10, 2), (.if_icmp .ge 41, 3), (.iload_n 2, 1), (.iconst (-1), 1), (.if_icmp .ne 36, 3), (.aload_n 0, 1), (.iload_n 3, 1), (.putfield 22, 3)] := zdcA_ok (by decide +kernel)
theorem dX8_enough_0 : decode cX8_enough 0 = .ok (.aload_n 0, 1) := dX8_enough_r0.1
theorem dX8_enough_1 : decode cX8_enough 1 = .ok (.getfield 22, 3) := dX8_enough_r0.2.1
theorem dX8_enough_4 : decode cX8_enough 4 = .ok (.istore_n 1, 1) := dX8_enough_r0.2.2.1
theorem dX8_enough_5 : decode cX8_enough 5 = .ok (.iconst (-1), 1) := dX8_enough_r0.2.2.2.1
theorem dX8_enough_6 : decode cX8_enough 6 = .ok (.istore_n 2, 1) := dX8_enough_r0.2.2.2.2.1
theorem dX8_enough_7 : decode cX8_enough 7 = .ok (.iconst 0, 1) := dX8_enough_r0.2.2.2.2.2.1
theorem dX8_enough_8 : decode cX8_enough 8 = .ok (.istore_n 3, 1) := dX8_enough_r0.2.2.2.2.2.2.1
theorem dX8_enough_9 : decode cX8_enough 9 = .ok (.iload_n 3, 1) := dX8_enough_r0.2.2.2.2.2.2.2.1
theorem dX8_enough_10 : decode cX8_enough 10 = .ok (.bipush 10, 2) := dX8_enough_r0.2.2.2.2.2.2.2.2.1
theorem dX8_enough_12 : decode cX8_enough 12 = .ok (.if_icmp .ge 41, 3) := dX8_enough_r0.2.2.2.2.2.2.2.2.2.1
theorem dX8_enough_15 : decode cX8_enough 15 = .ok (.iload_n 2, 1) := dX8_enough_r0.2.2.2.2.2.2.2.2.2.2.1
theorem dX8_enough_16 : decode cX8_enough 16 = .ok (.iconst (-1), 1) := dX8_enough_r0.2.2.2.2.2.2.2.2.2.2.2.1
theorem dX8_enough_17 : decode cX8_enough 17 = .ok (.if_icmp .ne 36, 3) := dX8_enough_r0.2.2.2.2.2.2.2.2.2.2.2.2.1
theorem dX8_enough_20 : decode cX8_enough 20 = .ok (.aload_n 0, 1) := dX8_enough_r0.2.2.2.2.2.2.2.2.2.2.2.2.2.1
theorem dX8_enough_21 : decode cX8_enough 21 = .ok (.iload_n 3, 1) := dX8_enough_r0.2.2.2.2.2.2.2.2.2.2.2.2.2.2.1
theorem dX8_enough_22 : decode cX8_enough 22 = .ok (.putfield 22, 3) := dX8_enough_r0.2.2.2.2.2.2.2.2.2.2.2.2.2.2.2.1
theorem dX8_enough_r25 : zdcP cX8_enough 25 [(.aload_n 0, 1), (.iconst 3, 1), (.invokevirtual 281, 3), (.aload_n 0, 1), (.invokevirtual 284, 3), (.aload_n 0, 1), (.getfield 269, 3), (.aload_n 0, 1), (.getfield 108, 3), (.if_icmp .ne 5, 3), (.iload_n 3, 1), (.istore_n 2, 1), (.iinc 3 1, 3), (.goto (-41), 3), (.aload_n 0, 1), (.iload_n 1, 1)] := zdcA_ok (by decide +kernel)
theorem dX8_enough_25 : decode cX8_enough 25 = .ok (.aload_n 0, 1) := dX8_enough_r25.1
theorem dX8_enough_26 : decode cX8_enough 26 = .ok (.iconst 3, 1) := dX8_enough_r25.2.1
theorem dX8_enough_27 : decode cX8_enough 27 = .ok (.invokevirtual 281, 3) := dX8_enough_r25.2.2.1
theorem dX8_enough_30 : decode cX8_enough 30 = .ok (.aload_n 0, 1) := dX8_enough_r25.2.2.2.1
theorem dX8_enough_31 : decode cX8_enough 31 = .ok (.invokevirtual 284, 3) := dX8_enough_r25.2.2.2.2.1
theorem dX8_enough_34 : decode cX8_enough 34 = .ok (.aload_n 0, 1) := dX8_enough_r25.2.2.2.2.2.1
theorem dX8_enough_35 : decode cX8_enough 35 = .ok (.getfield 269, 3) := dX8_enough_r25.2.2.2.2.2.2.1
theorem dX8_enough_38 : decode cX8_enough 38 = .ok (.aload_n 0, 1) := dX8_enough_r25.2.2.2.2.2.2.2.1
theorem dX8_enough_39 : decode cX8_enough 39 = .ok (.getfield 108, 3) := dX8_enough_r25.2.2.2.2.2.2.2.2.1
theorem dX8_enough_42 : decode cX8_enough 42 = .ok (.if_icmp .ne 5, 3) := dX8_enough_r25.2.2.2.2.2.2.2.2.2.1
theorem dX8_enough_45 : decode cX8_enough 45 = .ok (.iload_n 3, 1) := dX8_enough_r25.2.2.2.2.2.2.2.2.2.2.1
theorem dX8_enough_46 : decode cX8_enough 46 = .ok (.istore_n 2, 1) := dX8_enough_r25.2.2.2.2.2.2.2.2.2.2.2.1
theorem dX8_enough_47 : decode cX8_enough 47 = .ok (.iinc 3 1, 3) := dX8_enough_r25.2.2.2.2.2.2.2.2.2.2.2.2.1
theorem dX8_enough_50 : decode cX8_enough 50 = .ok (.goto (-41), 3) := dX8_enough_r25.2.2.2.2.2.2.2.2.2.2.2.2.2.1
theorem dX8_enough_53 : decode cX8_enough 53 = .ok (.aload_n 0, 1) := dX8_enough_r25.2.2.2.2.2.2.2.2.2.2.2.2.2.2.1
theorem dX8_enough_54 : decode cX8_enough 54 = .ok (.iload_n 1, 1) := dX8_enough_r25.2.2.2.2.2.2.2.2.2.2.2.2.2.2.2.1
theorem dX8_enough_r55 : zdcP cX8_enough 55 [(.putfield 22, 3), (.iload_n 2, 1), (.ireturn, 1)] := zdcA_ok (by decide +kernel)
theorem dX8_enough_55 : decode cX8_enough 55 = .ok (.putfield 22, 3) := dX8_enough_r55.1
theorem dX8_enough_58 : decode cX8_enough 58 = .ok (.iload_n 2, 1) := dX8_enough_r55.2.1
theorem dX8_enough_59 : decode cX8_enough 59 = .ok (.ireturn, 1) := dX8_enough_r55.2.2.1
def wq_195_9 (Q : Int32 → zf_Me → Prop) : Nat → Int32 → Int32 → Int32 → zf_Me → Prop
  | 0, _, _, _, _ => False
  | n + 1, v1, v2, v3, m => ((v3.toInt ≥ 10 → (∀ m1, m1 = zf_u m 63 7 v1 → Q v2 m1)) ∧ (v3.toInt < 10 → ((¬ v2.toInt = (-1) → (∀ m3, m3 = zf_u m 63 7 v1 → Q v2 m3)) ∧ (v2.toInt = (-1) → (∀ m5, m5 = zf_u m 63 7 v3 → wp_181 3 m5 (fun m8 => wp_182 m8 (fun m10 => ((¬ ((m10.1 63 47)).toInt = ((m10.1 63 0)).toInt → wq_195_9 Q n v1 v2 (v3 + 1) m10) ∧ (((m10.1 63 47)).toInt = ((m10.1 63 0)).toInt → wq_195_9 Q n v1 v3 (v3 + 1) m10)))))))))
theorem zq_195_9 {d : Nat} (hd : 6 ≤ d) {Q : Int32 → zf_Me → Prop} : ∀ (n : Nat) (v1 : Int32) (v2 : Int32) (v3 : Int32) (m : zf_Me), wq_195_9 Q n v1 v2 v3 m → zf_W none 0 0 d zt_195 9 [some (.inr (.inr (1, 63))), some (.inl v1), some (.inl v2), some (.inl v3)] [] m (zf_I Q) := by
  obtain ⟨e, rfl⟩ : ∃ z, d = z + 1 := ⟨d - 1, by omega⟩
  intro n
  induction n with
  | zero =>
    intro v1 v2 v3 m h
    exact h.elim
  | succ n ih =>
    intro v1 v2 v3 m h
    unfold wq_195_9 at h
    refine zf_ld (pc' := 10) (v := .inl v3) dX8_enough_9 rfl (fun _ _ _ => rfl) rfl rfl rfl ?_
    refine zf_bi (v := 10) (pc' := 12) dX8_enough_10 rfl rfl ?_
    refine zf_icmp_ge (tgt := 53) (pc' := 15) dX8_enough_12 rfl rfl (fun g => ?_) (fun g => ?_)
    · replace h := h.1 g
      refine zf_ld (pc' := 54) (v := .inr (.inr (1, 63))) dX8_enough_53 rfl (fun _ _ _ => rfl) rfl rfl rfl ?_
      refine zf_ld (pc' := 55) (v := .inl v1) dX8_enough_54 rfl (fun _ _ _ => rfl) rfl rfl rfl ?_
      refine zf_pf (pc' := 58) dX8_enough_55 rfl rfl (by decide) rfl rfl rfl (fun m1 e2 => ?_)
      replace h := h m1 e2
      refine zf_ld (pc' := 59) (v := .inl v2) dX8_enough_58 rfl (fun _ _ _ => rfl) rfl rfl rfl ?_
      exact zf_ri dX8_enough_59 rfl h
    · replace h := h.2 g
      refine zf_ld (pc' := 16) (v := .inl v2) dX8_enough_15 rfl (fun _ _ _ => rfl) rfl rfl rfl ?_
      refine zf_ic (v := (-1)) (pc' := 17) dX8_enough_16 rfl rfl ?_
      refine zf_icmp_ne (tgt := 53) (pc' := 20) dX8_enough_17 rfl rfl (fun g => ?_) (fun g => ?_)
      · replace h := h.1 g
        refine zf_ld (pc' := 54) (v := .inr (.inr (1, 63))) dX8_enough_53 rfl (fun _ _ _ => rfl) rfl rfl rfl ?_
        refine zf_ld (pc' := 55) (v := .inl v1) dX8_enough_54 rfl (fun _ _ _ => rfl) rfl rfl rfl ?_
        refine zf_pf (pc' := 58) dX8_enough_55 rfl rfl (by decide) rfl rfl rfl (fun m3 e4 => ?_)
        replace h := h m3 e4
        refine zf_ld (pc' := 59) (v := .inl v2) dX8_enough_58 rfl (fun _ _ _ => rfl) rfl rfl rfl ?_
        exact zf_ri dX8_enough_59 rfl h
      · replace h := h.2 g
        refine zf_ld (pc' := 21) (v := .inr (.inr (1, 63))) dX8_enough_20 rfl (fun _ _ _ => rfl) rfl rfl rfl ?_
        refine zf_ld (pc' := 22) (v := .inl v3) dX8_enough_21 rfl (fun _ _ _ => rfl) rfl rfl rfl ?_
        refine zf_pf (pc' := 25) dX8_enough_22 rfl rfl (by decide) rfl rfl rfl (fun m5 e6 => ?_)
        replace h := h m5 e6
        refine zf_ld (pc' := 26) (v := .inr (.inr (1, 63))) dX8_enough_25 rfl (fun _ _ _ => rfl) rfl rfl rfl ?_
        refine zf_ic (v := 3) (pc' := 27) dX8_enough_26 rfl rfl ?_
        refine zf_iv (k := 181) (pc' := 30) (r := []) dX8_enough_27 rfl rfl rfl rfl (by decide) rfl rfl rfl (zr_181 (by omega) h) (zf_kO (fun m8 h => ?_))
        refine zf_ld (pc' := 31) (v := .inr (.inr (1, 63))) dX8_enough_30 rfl (fun _ _ _ => rfl) rfl rfl rfl ?_
        refine zf_iv (k := 182) (pc' := 34) (r := []) dX8_enough_31 rfl rfl rfl rfl (by decide) rfl rfl rfl (zr_182 (by omega) h) (zf_kO (fun m10 h => ?_))
        refine zf_ld (pc' := 35) (v := .inr (.inr (1, 63))) dX8_enough_34 rfl (fun _ _ _ => rfl) rfl rfl rfl ?_
        refine zf_gfi (pc' := 38) dX8_enough_35 rfl rfl (by decide) rfl rfl ?_
        refine zf_ld (pc' := 39) (v := .inr (.inr (1, 63))) dX8_enough_38 rfl (fun _ _ _ => rfl) rfl rfl rfl ?_
        refine zf_gfi (pc' := 42) dX8_enough_39 rfl rfl (by decide) rfl rfl ?_
        refine zf_icmp_ne (tgt := 47) (pc' := 45) dX8_enough_42 rfl rfl (fun g => ?_) (fun g => ?_)
        · replace h := h.1 g
          refine zf_ii (y := (v3 + 1)) (L2 := [some (.inr (.inr (1, 63))), some (.inl v1), some (.inl v2), some (.inl (v3 + 1))]) (pc' := 50) dX8_enough_47 rfl rfl rfl rfl rfl ?_
          refine zf_goto (tgt := 9) dX8_enough_50 rfl ?_
          exact zf_lo (ih _ _ _ _ h) ⟨rfl, rfl, rfl, rfl, trivial⟩
        · replace h := h.2 g
          refine zf_ld (pc' := 46) (v := .inl v3) dX8_enough_45 rfl (fun _ _ _ => rfl) rfl rfl rfl ?_
          refine zf_st (pc' := 47) (L2 := [some (.inr (.inr (1, 63))), some (.inl v1), some (.inl v3), some (.inl v3)]) dX8_enough_46 rfl (fun _ _ _ => rfl) rfl rfl rfl rfl rfl rfl ?_
          refine zf_ii (y := (v3 + 1)) (L2 := [some (.inr (.inr (1, 63))), some (.inl v1), some (.inl v3), some (.inl (v3 + 1))]) (pc' := 50) dX8_enough_47 rfl rfl rfl rfl rfl ?_
          refine zf_goto (tgt := 9) dX8_enough_50 rfl ?_
          exact zf_lo (ih _ _ _ _ h) ⟨rfl, rfl, rfl, rfl, trivial⟩
def wp_195 (m : zf_Me) (Q : Int32 → zf_Me → Prop) : Prop := (∃ n9, wq_195_9 Q n9 (m.1 63 7) (-1) 0 m)
theorem zr_195 {d : Nat} (hd : 6 ≤ d) {Q : Int32 → zf_Me → Prop} {m : zf_Me} (h : wp_195 m Q) : zf_M d 195 [.inr (.inr (1, 63))] m (zf_I Q) := by
  unfold wp_195 at h
  refine zf_M_of (Nat.le_of_ble_eq_true rfl) zm_195 (L := [some (.inr (.inr (1, 63))), none, none, none]) rfl ?_
  refine zf_ld (pc' := 1) (v := .inr (.inr (1, 63))) dX8_enough_0 rfl (fun _ _ _ => rfl) rfl rfl rfl ?_
  refine zf_gfi (pc' := 4) dX8_enough_1 rfl rfl (by decide) rfl rfl ?_
  refine zf_st (pc' := 5) (L2 := [some (.inr (.inr (1, 63))), some (.inl (m.1 63 7)), none, none]) dX8_enough_4 rfl (fun _ _ _ => rfl) rfl rfl rfl rfl rfl rfl ?_
  refine zf_ic (v := (-1)) (pc' := 6) dX8_enough_5 rfl rfl ?_
  refine zf_st (pc' := 7) (L2 := [some (.inr (.inr (1, 63))), some (.inl (m.1 63 7)), some (.inl (-1)), none]) dX8_enough_6 rfl (fun _ _ _ => rfl) rfl rfl rfl rfl rfl rfl ?_
  refine zf_ic (v := 0) (pc' := 8) dX8_enough_7 rfl rfl ?_
  refine zf_st (pc' := 9) (L2 := [some (.inr (.inr (1, 63))), some (.inl (m.1 63 7)), some (.inl (-1)), some (.inl 0)]) dX8_enough_8 rfl (fun _ _ _ => rfl) rfl rfl rfl rfl rfl rfl ?_
  obtain ⟨n9, h⟩ := h
  exact zf_lo (zq_195_9 (by omega) n9 _ _ _ _ h) ⟨rfl, rfl, rfl, rfl, trivial⟩
def zt_196 : zx_MT := (8, yX8_leastWorn, cX8_leastWorn, 5, (some FieldType.int), 1, 0)
theorem zm_196 : zx_m 196 = zt_196 := rfl
theorem dX8_leastWorn_r0 : zdcP cX8_leastWorn 0 [(.aload_n 0, 1), (.iload_n 1, 1), (.invokevirtual 278, 3), (.ifCond .ne 10, 3), (.aload_n 0, 1), (.bipush (-6), 2), (.invokevirtual 142, 3), (.ireturn, 1), (.aload_n 0, 1), (.getfield 28, 3), (.istore_n 2, 1), (.iconst (-1), 1), (.istore_n 3, 1), (.iconst 1, 1), (.istore 4, 2), (.iload 4, 2)] := zdcA_ok (by decide +kernel)
theorem dX8_leastWorn_0 : decode cX8_leastWorn 0 = .ok (.aload_n 0, 1) := dX8_leastWorn_r0.1
theorem dX8_leastWorn_1 : decode cX8_leastWorn 1 = .ok (.iload_n 1, 1) := dX8_leastWorn_r0.2.1
theorem dX8_leastWorn_2 : decode cX8_leastWorn 2 = .ok (.invokevirtual 278, 3) := dX8_leastWorn_r0.2.2.1
theorem dX8_leastWorn_5 : decode cX8_leastWorn 5 = .ok (.ifCond .ne 10, 3) := dX8_leastWorn_r0.2.2.2.1
theorem dX8_leastWorn_8 : decode cX8_leastWorn 8 = .ok (.aload_n 0, 1) := dX8_leastWorn_r0.2.2.2.2.1
theorem dX8_leastWorn_9 : decode cX8_leastWorn 9 = .ok (.bipush (-6), 2) := dX8_leastWorn_r0.2.2.2.2.2.1
theorem dX8_leastWorn_11 : decode cX8_leastWorn 11 = .ok (.invokevirtual 142, 3) := dX8_leastWorn_r0.2.2.2.2.2.2.1
theorem dX8_leastWorn_14 : decode cX8_leastWorn 14 = .ok (.ireturn, 1) := dX8_leastWorn_r0.2.2.2.2.2.2.2.1
theorem dX8_leastWorn_15 : decode cX8_leastWorn 15 = .ok (.aload_n 0, 1) := dX8_leastWorn_r0.2.2.2.2.2.2.2.2.1
theorem dX8_leastWorn_16 : decode cX8_leastWorn 16 = .ok (.getfield 28, 3) := dX8_leastWorn_r0.2.2.2.2.2.2.2.2.2.1
theorem dX8_leastWorn_19 : decode cX8_leastWorn 19 = .ok (.istore_n 2, 1) := dX8_leastWorn_r0.2.2.2.2.2.2.2.2.2.2.1
theorem dX8_leastWorn_20 : decode cX8_leastWorn 20 = .ok (.iconst (-1), 1) := dX8_leastWorn_r0.2.2.2.2.2.2.2.2.2.2.2.1
theorem dX8_leastWorn_21 : decode cX8_leastWorn 21 = .ok (.istore_n 3, 1) := dX8_leastWorn_r0.2.2.2.2.2.2.2.2.2.2.2.2.1
theorem dX8_leastWorn_22 : decode cX8_leastWorn 22 = .ok (.iconst 1, 1) := dX8_leastWorn_r0.2.2.2.2.2.2.2.2.2.2.2.2.2.1
theorem dX8_leastWorn_23 : decode cX8_leastWorn 23 = .ok (.istore 4, 2) := dX8_leastWorn_r0.2.2.2.2.2.2.2.2.2.2.2.2.2.2.1
theorem dX8_leastWorn_25 : decode cX8_leastWorn 25 = .ok (.iload 4, 2) := dX8_leastWorn_r0.2.2.2.2.2.2.2.2.2.2.2.2.2.2.2.1
theorem dX8_leastWorn_r27 : zdcP cX8_leastWorn 27 [(.bipush 100, 2), (.if_icmp .ge 43, 3), (.iload_n 3, 1), (.iconst (-1), 1), (.if_icmp .ne 38, 3), (.aload_n 0, 1), (.iload 4, 2), (.putfield 28, 3), (.aload_n 0, 1), (.iload_n 1, 1), (.invokevirtual 281, 3), (.aload_n 0, 1), (.invokevirtual 284, 3), (.aload_n 0, 1), (.getfield 269, 3), (.aload_n 0, 1)] := zdcA_ok (by decide +kernel)
theorem dX8_leastWorn_27 : decode cX8_leastWorn 27 = .ok (.bipush 100, 2) := dX8_leastWorn_r27.1
theorem dX8_leastWorn_29 : decode cX8_leastWorn 29 = .ok (.if_icmp .ge 43, 3) := dX8_leastWorn_r27.2.1
theorem dX8_leastWorn_32 : decode cX8_leastWorn 32 = .ok (.iload_n 3, 1) := dX8_leastWorn_r27.2.2.1
theorem dX8_leastWorn_33 : decode cX8_leastWorn 33 = .ok (.iconst (-1), 1) := dX8_leastWorn_r27.2.2.2.1
theorem dX8_leastWorn_34 : decode cX8_leastWorn 34 = .ok (.if_icmp .ne 38, 3) := dX8_leastWorn_r27.2.2.2.2.1
theorem dX8_leastWorn_37 : decode cX8_leastWorn 37 = .ok (.aload_n 0, 1) := dX8_leastWorn_r27.2.2.2.2.2.1
theorem dX8_leastWorn_38 : decode cX8_leastWorn 38 = .ok (.iload 4, 2) := dX8_leastWorn_r27.2.2.2.2.2.2.1
theorem dX8_leastWorn_40 : decode cX8_leastWorn 40 = .ok (.putfield 28, 3) := dX8_leastWorn_r27.2.2.2.2.2.2.2.1
theorem dX8_leastWorn_43 : decode cX8_leastWorn 43 = .ok (.aload_n 0, 1) := dX8_leastWorn_r27.2.2.2.2.2.2.2.2.1
theorem dX8_leastWorn_44 : decode cX8_leastWorn 44 = .ok (.iload_n 1, 1) := dX8_leastWorn_r27.2.2.2.2.2.2.2.2.2.1
theorem dX8_leastWorn_45 : decode cX8_leastWorn 45 = .ok (.invokevirtual 281, 3) := dX8_leastWorn_r27.2.2.2.2.2.2.2.2.2.2.1
theorem dX8_leastWorn_48 : decode cX8_leastWorn 48 = .ok (.aload_n 0, 1) := dX8_leastWorn_r27.2.2.2.2.2.2.2.2.2.2.2.1
theorem dX8_leastWorn_49 : decode cX8_leastWorn 49 = .ok (.invokevirtual 284, 3) := dX8_leastWorn_r27.2.2.2.2.2.2.2.2.2.2.2.2.1
theorem dX8_leastWorn_52 : decode cX8_leastWorn 52 = .ok (.aload_n 0, 1) := dX8_leastWorn_r27.2.2.2.2.2.2.2.2.2.2.2.2.2.1
theorem dX8_leastWorn_53 : decode cX8_leastWorn 53 = .ok (.getfield 269, 3) := dX8_leastWorn_r27.2.2.2.2.2.2.2.2.2.2.2.2.2.2.1
theorem dX8_leastWorn_56 : decode cX8_leastWorn 56 = .ok (.aload_n 0, 1) := dX8_leastWorn_r27.2.2.2.2.2.2.2.2.2.2.2.2.2.2.2.1
theorem dX8_leastWorn_r57 : zdcP cX8_leastWorn 57 [(.getfield 108, 3), (.if_icmp .ne 6, 3), (.iload 4, 2), (.istore_n 3, 1), (.iinc 4 1, 3), (.goto (-44), 3), (.aload_n 0, 1), (.iload_n 2, 1), (.putfield 28, 3), (.iload_n 3, 1), (.ireturn, 1)] := zdcA_ok (by decide +kernel)
theorem dX8_leastWorn_57 : decode cX8_leastWorn 57 = .ok (.getfield 108, 3) := dX8_leastWorn_r57.1
theorem dX8_leastWorn_60 : decode cX8_leastWorn 60 = .ok (.if_icmp .ne 6, 3) := dX8_leastWorn_r57.2.1
theorem dX8_leastWorn_63 : decode cX8_leastWorn 63 = .ok (.iload 4, 2) := dX8_leastWorn_r57.2.2.1
theorem dX8_leastWorn_65 : decode cX8_leastWorn 65 = .ok (.istore_n 3, 1) := dX8_leastWorn_r57.2.2.2.1
theorem dX8_leastWorn_66 : decode cX8_leastWorn 66 = .ok (.iinc 4 1, 3) := dX8_leastWorn_r57.2.2.2.2.1
theorem dX8_leastWorn_69 : decode cX8_leastWorn 69 = .ok (.goto (-44), 3) := dX8_leastWorn_r57.2.2.2.2.2.1
theorem dX8_leastWorn_72 : decode cX8_leastWorn 72 = .ok (.aload_n 0, 1) := dX8_leastWorn_r57.2.2.2.2.2.2.1
theorem dX8_leastWorn_73 : decode cX8_leastWorn 73 = .ok (.iload_n 2, 1) := dX8_leastWorn_r57.2.2.2.2.2.2.2.1
theorem dX8_leastWorn_74 : decode cX8_leastWorn 74 = .ok (.putfield 28, 3) := dX8_leastWorn_r57.2.2.2.2.2.2.2.2.1
theorem dX8_leastWorn_77 : decode cX8_leastWorn 77 = .ok (.iload_n 3, 1) := dX8_leastWorn_r57.2.2.2.2.2.2.2.2.2.1
theorem dX8_leastWorn_78 : decode cX8_leastWorn 78 = .ok (.ireturn, 1) := dX8_leastWorn_r57.2.2.2.2.2.2.2.2.2.2.1
def wq_196_25 (v1 : Int32) (Q : Int32 → zf_Me → Prop) : Nat → Int32 → Int32 → Int32 → zf_Me → Prop
  | 0, _, _, _, _ => False
  | n + 1, v2, v3, v4, m => ((v4.toInt ≥ 100 → (∀ m3, m3 = zf_u m 63 9 v2 → Q v3 m3)) ∧ (v4.toInt < 100 → ((¬ v3.toInt = (-1) → (∀ m5, m5 = zf_u m 63 9 v2 → Q v3 m5)) ∧ (v3.toInt = (-1) → (∀ m7, m7 = zf_u m 63 9 v4 → wp_181 v1 m7 (fun m10 => wp_182 m10 (fun m12 => ((¬ ((m12.1 63 47)).toInt = ((m12.1 63 0)).toInt → wq_196_25 v1 Q n v2 v3 (v4 + 1) m12) ∧ (((m12.1 63 47)).toInt = ((m12.1 63 0)).toInt → wq_196_25 v1 Q n v2 v4 (v4 + 1) m12)))))))))
theorem zq_196_25 {d : Nat} (hd : 6 ≤ d) {v1 : Int32} {Q : Int32 → zf_Me → Prop} : ∀ (n : Nat) (v2 : Int32) (v3 : Int32) (v4 : Int32) (m : zf_Me), wq_196_25 v1 Q n v2 v3 v4 m → zf_W none 0 0 d zt_196 25 [some (.inr (.inr (1, 63))), some (.inl v1), some (.inl v2), some (.inl v3), some (.inl v4)] [] m (zf_I Q) := by
  obtain ⟨e, rfl⟩ : ∃ z, d = z + 1 := ⟨d - 1, by omega⟩
  intro n
  induction n with
  | zero =>
    intro v2 v3 v4 m h
    exact h.elim
  | succ n ih =>
    intro v2 v3 v4 m h
    unfold wq_196_25 at h
    refine zf_ld (pc' := 27) (v := .inl v4) dX8_leastWorn_25 rfl (fun _ _ _ => rfl) rfl rfl rfl ?_
    refine zf_bi (v := 100) (pc' := 29) dX8_leastWorn_27 rfl rfl ?_
    refine zf_icmp_ge (tgt := 72) (pc' := 32) dX8_leastWorn_29 rfl rfl (fun g => ?_) (fun g => ?_)
    · replace h := h.1 g
      refine zf_ld (pc' := 73) (v := .inr (.inr (1, 63))) dX8_leastWorn_72 rfl (fun _ _ _ => rfl) rfl rfl rfl ?_
      refine zf_ld (pc' := 74) (v := .inl v2) dX8_leastWorn_73 rfl (fun _ _ _ => rfl) rfl rfl rfl ?_
      refine zf_pf (pc' := 77) dX8_leastWorn_74 rfl rfl (by decide) rfl rfl rfl (fun m3 e4 => ?_)
      replace h := h m3 e4
      refine zf_ld (pc' := 78) (v := .inl v3) dX8_leastWorn_77 rfl (fun _ _ _ => rfl) rfl rfl rfl ?_
      exact zf_ri dX8_leastWorn_78 rfl h
    · replace h := h.2 g
      refine zf_ld (pc' := 33) (v := .inl v3) dX8_leastWorn_32 rfl (fun _ _ _ => rfl) rfl rfl rfl ?_
      refine zf_ic (v := (-1)) (pc' := 34) dX8_leastWorn_33 rfl rfl ?_
      refine zf_icmp_ne (tgt := 72) (pc' := 37) dX8_leastWorn_34 rfl rfl (fun g => ?_) (fun g => ?_)
      · replace h := h.1 g
        refine zf_ld (pc' := 73) (v := .inr (.inr (1, 63))) dX8_leastWorn_72 rfl (fun _ _ _ => rfl) rfl rfl rfl ?_
        refine zf_ld (pc' := 74) (v := .inl v2) dX8_leastWorn_73 rfl (fun _ _ _ => rfl) rfl rfl rfl ?_
        refine zf_pf (pc' := 77) dX8_leastWorn_74 rfl rfl (by decide) rfl rfl rfl (fun m5 e6 => ?_)
        replace h := h m5 e6
        refine zf_ld (pc' := 78) (v := .inl v3) dX8_leastWorn_77 rfl (fun _ _ _ => rfl) rfl rfl rfl ?_
        exact zf_ri dX8_leastWorn_78 rfl h
      · replace h := h.2 g
        refine zf_ld (pc' := 38) (v := .inr (.inr (1, 63))) dX8_leastWorn_37 rfl (fun _ _ _ => rfl) rfl rfl rfl ?_
        refine zf_ld (pc' := 40) (v := .inl v4) dX8_leastWorn_38 rfl (fun _ _ _ => rfl) rfl rfl rfl ?_
        refine zf_pf (pc' := 43) dX8_leastWorn_40 rfl rfl (by decide) rfl rfl rfl (fun m7 e8 => ?_)
        replace h := h m7 e8
        refine zf_ld (pc' := 44) (v := .inr (.inr (1, 63))) dX8_leastWorn_43 rfl (fun _ _ _ => rfl) rfl rfl rfl ?_
        refine zf_ld (pc' := 45) (v := .inl v1) dX8_leastWorn_44 rfl (fun _ _ _ => rfl) rfl rfl rfl ?_
        refine zf_iv (k := 181) (pc' := 48) (r := []) dX8_leastWorn_45 rfl rfl rfl rfl (by decide) rfl rfl rfl (zr_181 (by omega) h) (zf_kO (fun m10 h => ?_))
        refine zf_ld (pc' := 49) (v := .inr (.inr (1, 63))) dX8_leastWorn_48 rfl (fun _ _ _ => rfl) rfl rfl rfl ?_
        refine zf_iv (k := 182) (pc' := 52) (r := []) dX8_leastWorn_49 rfl rfl rfl rfl (by decide) rfl rfl rfl (zr_182 (by omega) h) (zf_kO (fun m12 h => ?_))
        refine zf_ld (pc' := 53) (v := .inr (.inr (1, 63))) dX8_leastWorn_52 rfl (fun _ _ _ => rfl) rfl rfl rfl ?_
        refine zf_gfi (pc' := 56) dX8_leastWorn_53 rfl rfl (by decide) rfl rfl ?_
        refine zf_ld (pc' := 57) (v := .inr (.inr (1, 63))) dX8_leastWorn_56 rfl (fun _ _ _ => rfl) rfl rfl rfl ?_
        refine zf_gfi (pc' := 60) dX8_leastWorn_57 rfl rfl (by decide) rfl rfl ?_
        refine zf_icmp_ne (tgt := 66) (pc' := 63) dX8_leastWorn_60 rfl rfl (fun g => ?_) (fun g => ?_)
        · replace h := h.1 g
          refine zf_ii (y := (v4 + 1)) (L2 := [some (.inr (.inr (1, 63))), some (.inl v1), some (.inl v2), some (.inl v3), some (.inl (v4 + 1))]) (pc' := 69) dX8_leastWorn_66 rfl rfl rfl rfl rfl ?_
          refine zf_goto (tgt := 25) dX8_leastWorn_69 rfl ?_
          exact zf_lo (ih _ _ _ _ h) ⟨rfl, rfl, rfl, rfl, rfl, trivial⟩
        · replace h := h.2 g
          refine zf_ld (pc' := 65) (v := .inl v4) dX8_leastWorn_63 rfl (fun _ _ _ => rfl) rfl rfl rfl ?_
          refine zf_st (pc' := 66) (L2 := [some (.inr (.inr (1, 63))), some (.inl v1), some (.inl v2), some (.inl v4), some (.inl v4)]) dX8_leastWorn_65 rfl (fun _ _ _ => rfl) rfl rfl rfl rfl rfl rfl ?_
          refine zf_ii (y := (v4 + 1)) (L2 := [some (.inr (.inr (1, 63))), some (.inl v1), some (.inl v2), some (.inl v4), some (.inl (v4 + 1))]) (pc' := 69) dX8_leastWorn_66 rfl rfl rfl rfl rfl ?_
          refine zf_goto (tgt := 25) dX8_leastWorn_69 rfl ?_
          exact zf_lo (ih _ _ _ _ h) ⟨rfl, rfl, rfl, rfl, rfl, trivial⟩
def wp_196 (v1 : Int32) (m : zf_Me) (Q : Int32 → zf_Me → Prop) : Prop := wp_180 v1 m (fun b1 m2 => ((b1 = true → (∃ n25, wq_196_25 v1 Q n25 (m2.1 63 9) (-1) 1 m2)) ∧ (b1 = false → wp_126 (-6) m2 (fun x13 m14 => Q x13 m14))))
theorem zr_196 {d : Nat} (hd : 6 ≤ d) {v1 : Int32} {Q : Int32 → zf_Me → Prop} {m : zf_Me} (h : wp_196 v1 m Q) : zf_M d 196 [.inr (.inr (1, 63)), .inl v1] m (zf_I Q) := by
  obtain ⟨e, rfl⟩ : ∃ z, d = z + 1 := ⟨d - 1, by omega⟩
  unfold wp_196 at h
  refine zf_M_of (Nat.le_of_ble_eq_true rfl) zm_196 (L := [some (.inr (.inr (1, 63))), some (.inl v1), none, none, none]) rfl ?_
  refine zf_ld (pc' := 1) (v := .inr (.inr (1, 63))) dX8_leastWorn_0 rfl (fun _ _ _ => rfl) rfl rfl rfl ?_
  refine zf_ld (pc' := 2) (v := .inl v1) dX8_leastWorn_1 rfl (fun _ _ _ => rfl) rfl rfl rfl ?_
  refine zf_iv (k := 180) (pc' := 5) (r := []) dX8_leastWorn_2 rfl rfl rfl rfl (by decide) rfl rfl rfl (zr_180 (by omega) h) (zf_kB (fun b1 m2 h => ?_))
  refine zf_ib_ne (tgt := 15) (pc' := 8) dX8_leastWorn_5 rfl rfl (fun g => ?_) (fun g => ?_)
  · replace h := h.1 g
    refine zf_ld (pc' := 16) (v := .inr (.inr (1, 63))) dX8_leastWorn_15 rfl (fun _ _ _ => rfl) rfl rfl rfl ?_
    refine zf_gfi (pc' := 19) dX8_leastWorn_16 rfl rfl (by decide) rfl rfl ?_
    refine zf_st (pc' := 20) (L2 := [some (.inr (.inr (1, 63))), some (.inl v1), some (.inl (m2.1 63 9)), none, none]) dX8_leastWorn_19 rfl (fun _ _ _ => rfl) rfl rfl rfl rfl rfl rfl ?_
    refine zf_ic (v := (-1)) (pc' := 21) dX8_leastWorn_20 rfl rfl ?_
    refine zf_st (pc' := 22) (L2 := [some (.inr (.inr (1, 63))), some (.inl v1), some (.inl (m2.1 63 9)), some (.inl (-1)), none]) dX8_leastWorn_21 rfl (fun _ _ _ => rfl) rfl rfl rfl rfl rfl rfl ?_
    refine zf_ic (v := 1) (pc' := 23) dX8_leastWorn_22 rfl rfl ?_
    refine zf_st (pc' := 25) (L2 := [some (.inr (.inr (1, 63))), some (.inl v1), some (.inl (m2.1 63 9)), some (.inl (-1)), some (.inl 1)]) dX8_leastWorn_23 rfl (fun _ _ _ => rfl) rfl rfl rfl rfl rfl rfl ?_
    obtain ⟨n25, h⟩ := h
    exact zf_lo (zq_196_25 (by omega) n25 _ _ _ _ h) ⟨rfl, rfl, rfl, rfl, rfl, trivial⟩
  · replace h := h.2 g
    refine zf_ld (pc' := 9) (v := .inr (.inr (1, 63))) dX8_leastWorn_8 rfl (fun _ _ _ => rfl) rfl rfl rfl ?_
    refine zf_bi (v := (-6)) (pc' := 11) dX8_leastWorn_9 rfl rfl ?_
    refine zf_iv (k := 126) (pc' := 14) (r := []) dX8_leastWorn_11 rfl rfl rfl rfl (by decide) rfl rfl rfl (zr_126 (by omega) h) (zf_kI (fun x13 m14 h => ?_))
    exact zf_ri dX8_leastWorn_14 rfl h
def zt_197 : zx_MT := (8, yX8_does, cX8_does, 2, (some FieldType.int), 1, 0)
theorem zm_197 : zx_m 197 = zt_197 := rfl
theorem dX8_does_r0 : zdcP cX8_does 0 [(.iload_n 1, 1), (.ifCond .lt 17, 3), (.iload_n 1, 1), (.bipush 9, 2), (.if_icmp .gt 11, 3), (.aload_n 0, 1), (.iload_n 1, 1), (.invokevirtual 180, 3), (.ifCond .ne 10, 3), (.aload_n 0, 1), (.bipush (-6), 2), (.invokevirtual 115, 3), (.ireturn, 1), (.aload_n 0, 1), (.iload_n 1, 1), (.invokevirtual 196, 3)] := zdcA_ok (by decide +kernel)
theorem dX8_does_0 : decode cX8_does 0 = .ok (.iload_n 1, 1) := dX8_does_r0.1
theorem dX8_does_1 : decode cX8_does 1 = .ok (.ifCond .lt 17, 3) := dX8_does_r0.2.1
theorem dX8_does_4 : decode cX8_does 4 = .ok (.iload_n 1, 1) := dX8_does_r0.2.2.1
theorem dX8_does_5 : decode cX8_does 5 = .ok (.bipush 9, 2) := dX8_does_r0.2.2.2.1
theorem dX8_does_7 : decode cX8_does 7 = .ok (.if_icmp .gt 11, 3) := dX8_does_r0.2.2.2.2.1
theorem dX8_does_10 : decode cX8_does 10 = .ok (.aload_n 0, 1) := dX8_does_r0.2.2.2.2.2.1
theorem dX8_does_11 : decode cX8_does 11 = .ok (.iload_n 1, 1) := dX8_does_r0.2.2.2.2.2.2.1
theorem dX8_does_12 : decode cX8_does 12 = .ok (.invokevirtual 180, 3) := dX8_does_r0.2.2.2.2.2.2.2.1
theorem dX8_does_15 : decode cX8_does 15 = .ok (.ifCond .ne 10, 3) := dX8_does_r0.2.2.2.2.2.2.2.2.1
theorem dX8_does_18 : decode cX8_does 18 = .ok (.aload_n 0, 1) := dX8_does_r0.2.2.2.2.2.2.2.2.2.1
theorem dX8_does_19 : decode cX8_does 19 = .ok (.bipush (-6), 2) := dX8_does_r0.2.2.2.2.2.2.2.2.2.2.1
theorem dX8_does_21 : decode cX8_does 21 = .ok (.invokevirtual 115, 3) := dX8_does_r0.2.2.2.2.2.2.2.2.2.2.2.1
theorem dX8_does_24 : decode cX8_does 24 = .ok (.ireturn, 1) := dX8_does_r0.2.2.2.2.2.2.2.2.2.2.2.2.1
theorem dX8_does_25 : decode cX8_does 25 = .ok (.aload_n 0, 1) := dX8_does_r0.2.2.2.2.2.2.2.2.2.2.2.2.2.1
theorem dX8_does_26 : decode cX8_does 26 = .ok (.iload_n 1, 1) := dX8_does_r0.2.2.2.2.2.2.2.2.2.2.2.2.2.2.1
theorem dX8_does_27 : decode cX8_does 27 = .ok (.invokevirtual 196, 3) := dX8_does_r0.2.2.2.2.2.2.2.2.2.2.2.2.2.2.2.1
theorem dX8_does_r30 : zdcP cX8_does 30 [(.aload_n 0, 1), (.getfield 207, 3), (.ireturn, 1)] := zdcA_ok (by decide +kernel)
theorem dX8_does_30 : decode cX8_does 30 = .ok (.aload_n 0, 1) := dX8_does_r30.1
theorem dX8_does_31 : decode cX8_does 31 = .ok (.getfield 207, 3) := dX8_does_r30.2.1
theorem dX8_does_34 : decode cX8_does 34 = .ok (.ireturn, 1) := dX8_does_r30.2.2.1
def wp_197 (v1 : Int32) (m : zf_Me) (Q : Int32 → zf_Me → Prop) : Prop := ((v1.toInt < 0 → wp_125 (-6) m (fun x1 m2 => Q x1 m2)) ∧ (v1.toInt ≥ 0 → ((v1.toInt > 9 → wp_125 (-6) m (fun x3 m4 => Q x3 m4)) ∧ (v1.toInt ≤ 9 → wp_167 v1 m (fun b5 m6 => ((b5 = true → wp_169 v1 m6 (fun m8 => Q (m8.1 63 10) m8)) ∧ (b5 = false → wp_125 (-6) m6 (fun x9 m10 => Q x9 m10))))))))
theorem zr_197 {d : Nat} (hd : 3 ≤ d) {v1 : Int32} {Q : Int32 → zf_Me → Prop} {m : zf_Me} (h : wp_197 v1 m Q) : zf_M d 197 [.inr (.inr (1, 63)), .inl v1] m (zf_I Q) := by
  obtain ⟨e, rfl⟩ : ∃ z, d = z + 1 := ⟨d - 1, by omega⟩
  unfold wp_197 at h
  refine zf_M_of (Nat.le_of_ble_eq_true rfl) zm_197 (L := [some (.inr (.inr (1, 63))), some (.inl v1)]) rfl ?_
  refine zf_ld (pc' := 1) (v := .inl v1) dX8_does_0 rfl (fun _ _ _ => rfl) rfl rfl rfl ?_
  refine zf_if_lt (tgt := 18) (pc' := 4) dX8_does_1 rfl rfl (fun g => ?_) (fun g => ?_)
  · replace h := h.1 g
    refine zf_ld (pc' := 19) (v := .inr (.inr (1, 63))) dX8_does_18 rfl (fun _ _ _ => rfl) rfl rfl rfl ?_
    refine zf_bi (v := (-6)) (pc' := 21) dX8_does_19 rfl rfl ?_
    refine zf_iv (k := 125) (pc' := 24) (r := []) dX8_does_21 rfl rfl rfl rfl (by decide) rfl rfl rfl (zr_125 (by omega) h) (zf_kI (fun x1 m2 h => ?_))
    exact zf_ri dX8_does_24 rfl h
  · replace h := h.2 g
    refine zf_ld (pc' := 5) (v := .inl v1) dX8_does_4 rfl (fun _ _ _ => rfl) rfl rfl rfl ?_
    refine zf_bi (v := 9) (pc' := 7) dX8_does_5 rfl rfl ?_
    refine zf_icmp_gt (tgt := 18) (pc' := 10) dX8_does_7 rfl rfl (fun g => ?_) (fun g => ?_)
    · replace h := h.1 g
      refine zf_ld (pc' := 19) (v := .inr (.inr (1, 63))) dX8_does_18 rfl (fun _ _ _ => rfl) rfl rfl rfl ?_
      refine zf_bi (v := (-6)) (pc' := 21) dX8_does_19 rfl rfl ?_
      refine zf_iv (k := 125) (pc' := 24) (r := []) dX8_does_21 rfl rfl rfl rfl (by decide) rfl rfl rfl (zr_125 (by omega) h) (zf_kI (fun x3 m4 h => ?_))
      exact zf_ri dX8_does_24 rfl h
    · replace h := h.2 g
      refine zf_ld (pc' := 11) (v := .inr (.inr (1, 63))) dX8_does_10 rfl (fun _ _ _ => rfl) rfl rfl rfl ?_
      refine zf_ld (pc' := 12) (v := .inl v1) dX8_does_11 rfl (fun _ _ _ => rfl) rfl rfl rfl ?_
      refine zf_iv (k := 167) (pc' := 15) (r := []) dX8_does_12 rfl rfl rfl rfl (by decide) rfl rfl rfl (zr_167 (by omega) h) (zf_kB (fun b5 m6 h => ?_))
      refine zf_ib_ne (tgt := 25) (pc' := 18) dX8_does_15 rfl rfl (fun g => ?_) (fun g => ?_)
      · replace h := h.1 g
        refine zf_ld (pc' := 26) (v := .inr (.inr (1, 63))) dX8_does_25 rfl (fun _ _ _ => rfl) rfl rfl rfl ?_
        refine zf_ld (pc' := 27) (v := .inl v1) dX8_does_26 rfl (fun _ _ _ => rfl) rfl rfl rfl ?_
        refine zf_iv (k := 169) (pc' := 30) (r := []) dX8_does_27 rfl rfl rfl rfl (by decide) rfl rfl rfl (zr_169 (by omega) h) (zf_kO (fun m8 h => ?_))
        refine zf_ld (pc' := 31) (v := .inr (.inr (1, 63))) dX8_does_30 rfl (fun _ _ _ => rfl) rfl rfl rfl ?_
        refine zf_gfi (pc' := 34) dX8_does_31 rfl rfl (by decide) rfl rfl ?_
        exact zf_ri dX8_does_34 rfl h
      · replace h := h.2 g
        refine zf_ld (pc' := 19) (v := .inr (.inr (1, 63))) dX8_does_18 rfl (fun _ _ _ => rfl) rfl rfl rfl ?_
        refine zf_bi (v := (-6)) (pc' := 21) dX8_does_19 rfl rfl ?_
        refine zf_iv (k := 125) (pc' := 24) (r := []) dX8_does_21 rfl rfl rfl rfl (by decide) rfl rfl rfl (zr_125 (by omega) h) (zf_kI (fun x9 m10 h => ?_))
        exact zf_ri dX8_does_24 rfl h
def zt_198 : zx_MT := (8, yX8_draw, cX8_draw, 2, (some FieldType.int), 1, 0)
theorem zm_198 : zx_m 198 = zt_198 := rfl
theorem dX8_draw_r0 : zdcP cX8_draw 0 [(.aload_n 0, 1), (.aload_n 0, 1), (.getfield 31, 3), (.ldc_w 299, 3), (.imul, 1), (.sipush 12345, 3), (.iadd, 1), (.putfield 31, 3), (.aload_n 0, 1), (.getfield 31, 3), (.bipush 16, 2), (.iushr, 1), (.iload_n 1, 1), (.irem, 1), (.ireturn, 1)] := zdcA_ok (by decide +kernel)
theorem dX8_draw_0 : decode cX8_draw 0 = .ok (.aload_n 0, 1) := dX8_draw_r0.1
theorem dX8_draw_1 : decode cX8_draw 1 = .ok (.aload_n 0, 1) := dX8_draw_r0.2.1
theorem dX8_draw_2 : decode cX8_draw 2 = .ok (.getfield 31, 3) := dX8_draw_r0.2.2.1
theorem dX8_draw_5 : decode cX8_draw 5 = .ok (.ldc_w 299, 3) := dX8_draw_r0.2.2.2.1
theorem dX8_draw_8 : decode cX8_draw 8 = .ok (.imul, 1) := dX8_draw_r0.2.2.2.2.1
theorem dX8_draw_9 : decode cX8_draw 9 = .ok (.sipush 12345, 3) := dX8_draw_r0.2.2.2.2.2.1
theorem dX8_draw_12 : decode cX8_draw 12 = .ok (.iadd, 1) := dX8_draw_r0.2.2.2.2.2.2.1
theorem dX8_draw_13 : decode cX8_draw 13 = .ok (.putfield 31, 3) := dX8_draw_r0.2.2.2.2.2.2.2.1
theorem dX8_draw_16 : decode cX8_draw 16 = .ok (.aload_n 0, 1) := dX8_draw_r0.2.2.2.2.2.2.2.2.1
theorem dX8_draw_17 : decode cX8_draw 17 = .ok (.getfield 31, 3) := dX8_draw_r0.2.2.2.2.2.2.2.2.2.1
theorem dX8_draw_20 : decode cX8_draw 20 = .ok (.bipush 16, 2) := dX8_draw_r0.2.2.2.2.2.2.2.2.2.2.1
theorem dX8_draw_22 : decode cX8_draw 22 = .ok (.iushr, 1) := dX8_draw_r0.2.2.2.2.2.2.2.2.2.2.2.1
theorem dX8_draw_23 : decode cX8_draw 23 = .ok (.iload_n 1, 1) := dX8_draw_r0.2.2.2.2.2.2.2.2.2.2.2.2.1
theorem dX8_draw_24 : decode cX8_draw 24 = .ok (.irem, 1) := dX8_draw_r0.2.2.2.2.2.2.2.2.2.2.2.2.2.1
theorem dX8_draw_25 : decode cX8_draw 25 = .ok (.ireturn, 1) := dX8_draw_r0.2.2.2.2.2.2.2.2.2.2.2.2.2.2.1
def wp_198 (v1 : Int32) (m : zf_Me) (Q : Int32 → zf_Me → Prop) : Prop := (∀ m1, m1 = zf_u m 63 12 (((m.1 63 12) * 1103515245) + 12345) → (¬ (Int32.toInt v1) = 0 ∧ Q ((((Int32.toUInt32 (m1.1 63 12)) >>> ((Int32.toUInt32 16) &&& Int32.toUInt32 31)).toInt32) - (((Int32.toUInt32 (m1.1 63 12)) >>> ((Int32.toUInt32 16) &&& Int32.toUInt32 31)).toInt32) / v1 * v1) m1))
theorem zr_198 {d : Nat} (hd : 0 ≤ d) {v1 : Int32} {Q : Int32 → zf_Me → Prop} {m : zf_Me} (h : wp_198 v1 m Q) : zf_M d 198 [.inr (.inr (1, 63)), .inl v1] m (zf_I Q) := by
  unfold wp_198 at h
  refine zf_M_of (Nat.le_of_ble_eq_true rfl) zm_198 (L := [some (.inr (.inr (1, 63))), some (.inl v1)]) rfl ?_
  refine zf_ld (pc' := 1) (v := .inr (.inr (1, 63))) dX8_draw_0 rfl (fun _ _ _ => rfl) rfl rfl rfl ?_
  refine zf_ld (pc' := 2) (v := .inr (.inr (1, 63))) dX8_draw_1 rfl (fun _ _ _ => rfl) rfl rfl rfl ?_
  refine zf_gfi (pc' := 5) dX8_draw_2 rfl rfl (by decide) rfl rfl ?_
  refine zf_ldc (ix := 299) (v := 1103515245) (pc' := 8) dX8_draw_5 rfl (fun _ _ _ => rfl) rfl rfl ?_
  refine zf_in (pc' := 9) (S' := [.inl ((m.1 63 12) * 1103515245), .inr (.inr (1, 63))]) dX8_draw_8 rfl (fun _ _ _ => rfl) ?_
  refine zf_si (v := 12345) (pc' := 12) dX8_draw_9 rfl rfl ?_
  refine zf_in (pc' := 13) (S' := [.inl (((m.1 63 12) * 1103515245) + 12345), .inr (.inr (1, 63))]) dX8_draw_12 rfl (fun _ _ _ => rfl) ?_
  refine zf_pf (pc' := 16) dX8_draw_13 rfl rfl (by decide) rfl rfl rfl (fun m1 e2 => ?_)
  replace h := h m1 e2
  refine zf_ld (pc' := 17) (v := .inr (.inr (1, 63))) dX8_draw_16 rfl (fun _ _ _ => rfl) rfl rfl rfl ?_
  refine zf_gfi (pc' := 20) dX8_draw_17 rfl rfl (by decide) rfl rfl ?_
  refine zf_bi (v := 16) (pc' := 22) dX8_draw_20 rfl rfl ?_
  refine zf_in (pc' := 23) (S' := [.inl (((Int32.toUInt32 (m1.1 63 12)) >>> ((Int32.toUInt32 16) &&& Int32.toUInt32 31)).toInt32)]) dX8_draw_22 rfl (fun _ _ _ => rfl) ?_
  refine zf_ld (pc' := 24) (v := .inl v1) dX8_draw_23 rfl (fun _ _ _ => rfl) rfl rfl rfl ?_
  refine zf_rem (pc' := 25) dX8_draw_24 rfl (fun z => h.1 (congrArg Int32.toInt z)) ?_
  replace h := h.2
  exact zf_ri dX8_draw_25 rfl h
def zt_199 : zx_MT := (8, yX8_summer, cX8_summer, 8, (some FieldType.int), 1, 0)
theorem zm_199 : zx_m 199 = zt_199 := rfl
theorem dX8_summer_r0 : zdcP cX8_summer 0 [(.iload_n 1, 1), (.iconst 1, 1), (.if_icmp .lt 9, 3), (.iload_n 1, 1), (.bipush 60, 2), (.if_icmp .le 10, 3), (.aload_n 0, 1), (.bipush (-6), 2), (.invokevirtual 115, 3), (.ireturn, 1), (.aload_n 0, 1), (.getfield 207, 3), (.istore_n 2, 1), (.iconst 0, 1), (.istore_n 3, 1), (.iload_n 3, 1)] := zdcA_ok (by decide +kernel)
theorem dX8_summer_0 : decode cX8_summer 0 = .ok (.iload_n 1, 1) := dX8_summer_r0.1
theorem dX8_summer_1 : decode cX8_summer 1 = .ok (.iconst 1, 1) := dX8_summer_r0.2.1
theorem dX8_summer_2 : decode cX8_summer 2 = .ok (.if_icmp .lt 9, 3) := dX8_summer_r0.2.2.1
theorem dX8_summer_5 : decode cX8_summer 5 = .ok (.iload_n 1, 1) := dX8_summer_r0.2.2.2.1
theorem dX8_summer_6 : decode cX8_summer 6 = .ok (.bipush 60, 2) := dX8_summer_r0.2.2.2.2.1
theorem dX8_summer_8 : decode cX8_summer 8 = .ok (.if_icmp .le 10, 3) := dX8_summer_r0.2.2.2.2.2.1
theorem dX8_summer_11 : decode cX8_summer 11 = .ok (.aload_n 0, 1) := dX8_summer_r0.2.2.2.2.2.2.1
theorem dX8_summer_12 : decode cX8_summer 12 = .ok (.bipush (-6), 2) := dX8_summer_r0.2.2.2.2.2.2.2.1
theorem dX8_summer_14 : decode cX8_summer 14 = .ok (.invokevirtual 115, 3) := dX8_summer_r0.2.2.2.2.2.2.2.2.1
theorem dX8_summer_17 : decode cX8_summer 17 = .ok (.ireturn, 1) := dX8_summer_r0.2.2.2.2.2.2.2.2.2.1
theorem dX8_summer_18 : decode cX8_summer 18 = .ok (.aload_n 0, 1) := dX8_summer_r0.2.2.2.2.2.2.2.2.2.2.1
theorem dX8_summer_19 : decode cX8_summer 19 = .ok (.getfield 207, 3) := dX8_summer_r0.2.2.2.2.2.2.2.2.2.2.2.1
theorem dX8_summer_22 : decode cX8_summer 22 = .ok (.istore_n 2, 1) := dX8_summer_r0.2.2.2.2.2.2.2.2.2.2.2.2.1
theorem dX8_summer_23 : decode cX8_summer 23 = .ok (.iconst 0, 1) := dX8_summer_r0.2.2.2.2.2.2.2.2.2.2.2.2.2.1
theorem dX8_summer_24 : decode cX8_summer 24 = .ok (.istore_n 3, 1) := dX8_summer_r0.2.2.2.2.2.2.2.2.2.2.2.2.2.2.1
theorem dX8_summer_25 : decode cX8_summer 25 = .ok (.iload_n 3, 1) := dX8_summer_r0.2.2.2.2.2.2.2.2.2.2.2.2.2.2.2.1
theorem dX8_summer_r26 : zdcP cX8_summer 26 [(.iload_n 1, 1), (.if_icmp .ge 110, 3), (.aload_n 0, 1), (.invokevirtual 226, 3), (.istore 4, 2), (.iconst 0, 1), (.istore 5, 2), (.iconst 0, 1), (.istore 6, 2), (.iload 6, 2), (.bipush 9, 2), (.if_icmp .gt 21, 3), (.iload 5, 2), (.iload 4, 2), (.iload 6, 2), (.ishr, 1)] := zdcA_ok (by decide +kernel)
theorem dX8_summer_26 : decode cX8_summer 26 = .ok (.iload_n 1, 1) := dX8_summer_r26.1
theorem dX8_summer_27 : decode cX8_summer 27 = .ok (.if_icmp .ge 110, 3) := dX8_summer_r26.2.1
theorem dX8_summer_30 : decode cX8_summer 30 = .ok (.aload_n 0, 1) := dX8_summer_r26.2.2.1
theorem dX8_summer_31 : decode cX8_summer 31 = .ok (.invokevirtual 226, 3) := dX8_summer_r26.2.2.2.1
theorem dX8_summer_34 : decode cX8_summer 34 = .ok (.istore 4, 2) := dX8_summer_r26.2.2.2.2.1
theorem dX8_summer_36 : decode cX8_summer 36 = .ok (.iconst 0, 1) := dX8_summer_r26.2.2.2.2.2.1
theorem dX8_summer_37 : decode cX8_summer 37 = .ok (.istore 5, 2) := dX8_summer_r26.2.2.2.2.2.2.1
theorem dX8_summer_39 : decode cX8_summer 39 = .ok (.iconst 0, 1) := dX8_summer_r26.2.2.2.2.2.2.2.1
theorem dX8_summer_40 : decode cX8_summer 40 = .ok (.istore 6, 2) := dX8_summer_r26.2.2.2.2.2.2.2.2.1
theorem dX8_summer_42 : decode cX8_summer 42 = .ok (.iload 6, 2) := dX8_summer_r26.2.2.2.2.2.2.2.2.2.1
theorem dX8_summer_44 : decode cX8_summer 44 = .ok (.bipush 9, 2) := dX8_summer_r26.2.2.2.2.2.2.2.2.2.2.1
theorem dX8_summer_46 : decode cX8_summer 46 = .ok (.if_icmp .gt 21, 3) := dX8_summer_r26.2.2.2.2.2.2.2.2.2.2.2.1
theorem dX8_summer_49 : decode cX8_summer 49 = .ok (.iload 5, 2) := dX8_summer_r26.2.2.2.2.2.2.2.2.2.2.2.2.1
theorem dX8_summer_51 : decode cX8_summer 51 = .ok (.iload 4, 2) := dX8_summer_r26.2.2.2.2.2.2.2.2.2.2.2.2.2.1
theorem dX8_summer_53 : decode cX8_summer 53 = .ok (.iload 6, 2) := dX8_summer_r26.2.2.2.2.2.2.2.2.2.2.2.2.2.2.1
theorem dX8_summer_55 : decode cX8_summer 55 = .ok (.ishr, 1) := dX8_summer_r26.2.2.2.2.2.2.2.2.2.2.2.2.2.2.2.1
theorem dX8_summer_r56 : zdcP cX8_summer 56 [(.iconst 1, 1), (.iand, 1), (.iadd, 1), (.istore 5, 2), (.iinc 6 1, 3), (.goto (-22), 3), (.iload 5, 2), (.ifCond .ne 6, 3), (.goto 59, 3), (.aload_n 0, 1), (.iload 5, 2), (.invokevirtual 300, 3), (.istore 6, 2), (.iconst 0, 1), (.istore 7, 2), (.iload 7, 2)] := zdcA_ok (by decide +kernel)
theorem dX8_summer_56 : decode cX8_summer 56 = .ok (.iconst 1, 1) := dX8_summer_r56.1
theorem dX8_summer_57 : decode cX8_summer 57 = .ok (.iand, 1) := dX8_summer_r56.2.1
theorem dX8_summer_58 : decode cX8_summer 58 = .ok (.iadd, 1) := dX8_summer_r56.2.2.1
theorem dX8_summer_59 : decode cX8_summer 59 = .ok (.istore 5, 2) := dX8_summer_r56.2.2.2.1
theorem dX8_summer_61 : decode cX8_summer 61 = .ok (.iinc 6 1, 3) := dX8_summer_r56.2.2.2.2.1
theorem dX8_summer_64 : decode cX8_summer 64 = .ok (.goto (-22), 3) := dX8_summer_r56.2.2.2.2.2.1
theorem dX8_summer_67 : decode cX8_summer 67 = .ok (.iload 5, 2) := dX8_summer_r56.2.2.2.2.2.2.1
theorem dX8_summer_69 : decode cX8_summer 69 = .ok (.ifCond .ne 6, 3) := dX8_summer_r56.2.2.2.2.2.2.2.1
theorem dX8_summer_72 : decode cX8_summer 72 = .ok (.goto 59, 3) := dX8_summer_r56.2.2.2.2.2.2.2.2.1
theorem dX8_summer_75 : decode cX8_summer 75 = .ok (.aload_n 0, 1) := dX8_summer_r56.2.2.2.2.2.2.2.2.2.1
theorem dX8_summer_76 : decode cX8_summer 76 = .ok (.iload 5, 2) := dX8_summer_r56.2.2.2.2.2.2.2.2.2.2.1
theorem dX8_summer_78 : decode cX8_summer 78 = .ok (.invokevirtual 300, 3) := dX8_summer_r56.2.2.2.2.2.2.2.2.2.2.2.1
theorem dX8_summer_81 : decode cX8_summer 81 = .ok (.istore 6, 2) := dX8_summer_r56.2.2.2.2.2.2.2.2.2.2.2.2.1
theorem dX8_summer_83 : decode cX8_summer 83 = .ok (.iconst 0, 1) := dX8_summer_r56.2.2.2.2.2.2.2.2.2.2.2.2.2.1
theorem dX8_summer_84 : decode cX8_summer 84 = .ok (.istore 7, 2) := dX8_summer_r56.2.2.2.2.2.2.2.2.2.2.2.2.2.2.1
theorem dX8_summer_86 : decode cX8_summer 86 = .ok (.iload 7, 2) := dX8_summer_r56.2.2.2.2.2.2.2.2.2.2.2.2.2.2.2.1
theorem dX8_summer_r88 : zdcP cX8_summer 88 [(.bipush 9, 2), (.if_icmp .gt 41, 3), (.iload 6, 2), (.ifCond .lt 36, 3), (.iload 4, 2), (.iload 7, 2), (.ishr, 1), (.iconst 1, 1), (.iand, 1), (.ifCond .ne 6, 3), (.goto 17, 3), (.iload 6, 2), (.ifCond .ne 9, 3), (.aload_n 0, 1), (.iload 7, 2), (.invokevirtual 196, 3)] := zdcA_ok (by decide +kernel)
theorem dX8_summer_88 : decode cX8_summer 88 = .ok (.bipush 9, 2) := dX8_summer_r88.1
theorem dX8_summer_90 : decode cX8_summer 90 = .ok (.if_icmp .gt 41, 3) := dX8_summer_r88.2.1
theorem dX8_summer_93 : decode cX8_summer 93 = .ok (.iload 6, 2) := dX8_summer_r88.2.2.1
theorem dX8_summer_95 : decode cX8_summer 95 = .ok (.ifCond .lt 36, 3) := dX8_summer_r88.2.2.2.1
theorem dX8_summer_98 : decode cX8_summer 98 = .ok (.iload 4, 2) := dX8_summer_r88.2.2.2.2.1
theorem dX8_summer_100 : decode cX8_summer 100 = .ok (.iload 7, 2) := dX8_summer_r88.2.2.2.2.2.1
theorem dX8_summer_102 : decode cX8_summer 102 = .ok (.ishr, 1) := dX8_summer_r88.2.2.2.2.2.2.1
theorem dX8_summer_103 : decode cX8_summer 103 = .ok (.iconst 1, 1) := dX8_summer_r88.2.2.2.2.2.2.2.1
theorem dX8_summer_104 : decode cX8_summer 104 = .ok (.iand, 1) := dX8_summer_r88.2.2.2.2.2.2.2.2.1
theorem dX8_summer_105 : decode cX8_summer 105 = .ok (.ifCond .ne 6, 3) := dX8_summer_r88.2.2.2.2.2.2.2.2.2.1
theorem dX8_summer_108 : decode cX8_summer 108 = .ok (.goto 17, 3) := dX8_summer_r88.2.2.2.2.2.2.2.2.2.2.1
theorem dX8_summer_111 : decode cX8_summer 111 = .ok (.iload 6, 2) := dX8_summer_r88.2.2.2.2.2.2.2.2.2.2.2.1
theorem dX8_summer_113 : decode cX8_summer 113 = .ok (.ifCond .ne 9, 3) := dX8_summer_r88.2.2.2.2.2.2.2.2.2.2.2.2.1
theorem dX8_summer_116 : decode cX8_summer 116 = .ok (.aload_n 0, 1) := dX8_summer_r88.2.2.2.2.2.2.2.2.2.2.2.2.2.1
theorem dX8_summer_117 : decode cX8_summer 117 = .ok (.iload 7, 2) := dX8_summer_r88.2.2.2.2.2.2.2.2.2.2.2.2.2.2.1
theorem dX8_summer_119 : decode cX8_summer 119 = .ok (.invokevirtual 196, 3) := dX8_summer_r88.2.2.2.2.2.2.2.2.2.2.2.2.2.2.2.1
theorem dX8_summer_r122 : zdcP cX8_summer 122 [(.iinc 6 (-1), 3), (.iinc 7 1, 3), (.goto (-42), 3), (.iinc 3 1, 3), (.goto (-109), 3), (.aload_n 0, 1), (.getfield 207, 3), (.iload_n 2, 1), (.isub, 1), (.ireturn, 1)] := zdcA_ok (by decide +kernel)
theorem dX8_summer_122 : decode cX8_summer 122 = .ok (.iinc 6 (-1), 3) := dX8_summer_r122.1
theorem dX8_summer_125 : decode cX8_summer 125 = .ok (.iinc 7 1, 3) := dX8_summer_r122.2.1
theorem dX8_summer_128 : decode cX8_summer 128 = .ok (.goto (-42), 3) := dX8_summer_r122.2.2.1
theorem dX8_summer_131 : decode cX8_summer 131 = .ok (.iinc 3 1, 3) := dX8_summer_r122.2.2.2.1
theorem dX8_summer_134 : decode cX8_summer 134 = .ok (.goto (-109), 3) := dX8_summer_r122.2.2.2.2.1
theorem dX8_summer_137 : decode cX8_summer 137 = .ok (.aload_n 0, 1) := dX8_summer_r122.2.2.2.2.2.1
theorem dX8_summer_138 : decode cX8_summer 138 = .ok (.getfield 207, 3) := dX8_summer_r122.2.2.2.2.2.2.1
theorem dX8_summer_141 : decode cX8_summer 141 = .ok (.iload_n 2, 1) := dX8_summer_r122.2.2.2.2.2.2.2.1
theorem dX8_summer_142 : decode cX8_summer 142 = .ok (.isub, 1) := dX8_summer_r122.2.2.2.2.2.2.2.2.1
theorem dX8_summer_143 : decode cX8_summer 143 = .ok (.ireturn, 1) := dX8_summer_r122.2.2.2.2.2.2.2.2.2.1
def wq_199_86 (v1 : Int32) (F25 : Int32 → Int32 → zf_Me → Prop) (Q : Int32 → zf_Me → Prop) : Nat → Int32 → Int32 → Int32 → Int32 → Int32 → zf_Me → Prop
  | 0, _, _, _, _, _, _ => False
  | n + 1, v2, v3, v4, v6, v7, m => ((v7.toInt > 9 → F25 v2 (v3 + 1) m) ∧ (v7.toInt ≤ 9 → ((v6.toInt < 0 → F25 v2 (v3 + 1) m) ∧ (v6.toInt ≥ 0 → ((¬ (((v4 >>> (v7 &&& 31)) &&& 1)).toInt = 0 → ((¬ v6.toInt = 0 → wq_199_86 v1 F25 Q n v2 v3 v4 (v6 + (-1)) (v7 + 1) m) ∧ (v6.toInt = 0 → wp_169 v7 m (fun m8 => wq_199_86 v1 F25 Q n v2 v3 v4 (v6 + (-1)) (v7 + 1) m8)))) ∧ ((((v4 >>> (v7 &&& 31)) &&& 1)).toInt = 0 → wq_199_86 v1 F25 Q n v2 v3 v4 v6 (v7 + 1) m))))))
theorem zq_199_86 {d : Nat} (hd : 4 ≤ d) {v1 : Int32} {F25 : Int32 → Int32 → zf_Me → Prop} {Q : Int32 → zf_Me → Prop} (hF25 : ∀ (v2 : Int32) (v3 : Int32) (m : zf_Me), F25 v2 v3 m → zf_W none 0 0 d zt_199 25 [some (.inr (.inr (1, 63))), some (.inl v1), some (.inl v2), some (.inl v3), none, none, none, none] [] m (zf_I Q)) : ∀ (n : Nat) (v2 : Int32) (v3 : Int32) (v4 : Int32) (v6 : Int32) (v7 : Int32) (m : zf_Me), wq_199_86 v1 F25 Q n v2 v3 v4 v6 v7 m → zf_W none 0 0 d zt_199 86 [some (.inr (.inr (1, 63))), some (.inl v1), some (.inl v2), some (.inl v3), some (.inl v4), none, some (.inl v6), some (.inl v7)] [] m (zf_I Q) := by
  obtain ⟨e, rfl⟩ : ∃ z, d = z + 1 := ⟨d - 1, by omega⟩
  intro n
  induction n with
  | zero =>
    intro v2 v3 v4 v6 v7 m h
    exact h.elim
  | succ n ih =>
    intro v2 v3 v4 v6 v7 m h
    unfold wq_199_86 at h
    refine zf_ld (pc' := 88) (v := .inl v7) dX8_summer_86 rfl (fun _ _ _ => rfl) rfl rfl rfl ?_
    refine zf_bi (v := 9) (pc' := 90) dX8_summer_88 rfl rfl ?_
    refine zf_icmp_gt (tgt := 131) (pc' := 93) dX8_summer_90 rfl rfl (fun g => ?_) (fun g => ?_)
    · replace h := h.1 g
      refine zf_ii (y := (v3 + 1)) (L2 := [some (.inr (.inr (1, 63))), some (.inl v1), some (.inl v2), some (.inl (v3 + 1)), some (.inl v4), none, some (.inl v6), some (.inl v7)]) (pc' := 134) dX8_summer_131 rfl rfl rfl rfl rfl ?_
      refine zf_goto (tgt := 25) dX8_summer_134 rfl ?_
      exact zf_lo (hF25 _ _ _ h) ⟨rfl, rfl, rfl, rfl, trivial⟩
    · replace h := h.2 g
      refine zf_ld (pc' := 95) (v := .inl v6) dX8_summer_93 rfl (fun _ _ _ => rfl) rfl rfl rfl ?_
      refine zf_if_lt (tgt := 131) (pc' := 98) dX8_summer_95 rfl rfl (fun g => ?_) (fun g => ?_)
      · replace h := h.1 g
        refine zf_ii (y := (v3 + 1)) (L2 := [some (.inr (.inr (1, 63))), some (.inl v1), some (.inl v2), some (.inl (v3 + 1)), some (.inl v4), none, some (.inl v6), some (.inl v7)]) (pc' := 134) dX8_summer_131 rfl rfl rfl rfl rfl ?_
        refine zf_goto (tgt := 25) dX8_summer_134 rfl ?_
        exact zf_lo (hF25 _ _ _ h) ⟨rfl, rfl, rfl, rfl, trivial⟩
      · replace h := h.2 g
        refine zf_ld (pc' := 100) (v := .inl v4) dX8_summer_98 rfl (fun _ _ _ => rfl) rfl rfl rfl ?_
        refine zf_ld (pc' := 102) (v := .inl v7) dX8_summer_100 rfl (fun _ _ _ => rfl) rfl rfl rfl ?_
        refine zf_in (pc' := 103) (S' := [.inl (v4 >>> (v7 &&& 31))]) dX8_summer_102 rfl (fun _ _ _ => rfl) ?_
        refine zf_ic (v := 1) (pc' := 104) dX8_summer_103 rfl rfl ?_
        refine zf_in (pc' := 105) (S' := [.inl ((v4 >>> (v7 &&& 31)) &&& 1)]) dX8_summer_104 rfl (fun _ _ _ => rfl) ?_
        refine zf_if_ne (tgt := 111) (pc' := 108) dX8_summer_105 rfl rfl (fun g => ?_) (fun g => ?_)
        · replace h := h.1 g
          refine zf_ld (pc' := 113) (v := .inl v6) dX8_summer_111 rfl (fun _ _ _ => rfl) rfl rfl rfl ?_
          refine zf_if_ne (tgt := 122) (pc' := 116) dX8_summer_113 rfl rfl (fun g => ?_) (fun g => ?_)
          · replace h := h.1 g
            refine zf_ii (y := (v6 + (-1))) (L2 := [some (.inr (.inr (1, 63))), some (.inl v1), some (.inl v2), some (.inl v3), some (.inl v4), none, some (.inl (v6 + (-1))), some (.inl v7)]) (pc' := 125) dX8_summer_122 rfl rfl rfl rfl rfl ?_
            refine zf_ii (y := (v7 + 1)) (L2 := [some (.inr (.inr (1, 63))), some (.inl v1), some (.inl v2), some (.inl v3), some (.inl v4), none, some (.inl (v6 + (-1))), some (.inl (v7 + 1))]) (pc' := 128) dX8_summer_125 rfl rfl rfl rfl rfl ?_
            refine zf_goto (tgt := 86) dX8_summer_128 rfl ?_
            exact zf_lo (ih _ _ _ _ _ _ h) ⟨rfl, rfl, rfl, rfl, rfl, rfl, rfl, trivial⟩
          · replace h := h.2 g
            refine zf_ld (pc' := 117) (v := .inr (.inr (1, 63))) dX8_summer_116 rfl (fun _ _ _ => rfl) rfl rfl rfl ?_
            refine zf_ld (pc' := 119) (v := .inl v7) dX8_summer_117 rfl (fun _ _ _ => rfl) rfl rfl rfl ?_
            refine zf_iv (k := 169) (pc' := 122) (r := []) dX8_summer_119 rfl rfl rfl rfl (by decide) rfl rfl rfl (zr_169 (by omega) h) (zf_kO (fun m8 h => ?_))
            refine zf_ii (y := (v6 + (-1))) (L2 := [some (.inr (.inr (1, 63))), some (.inl v1), some (.inl v2), some (.inl v3), some (.inl v4), none, some (.inl (v6 + (-1))), some (.inl v7)]) (pc' := 125) dX8_summer_122 rfl rfl rfl rfl rfl ?_
            refine zf_ii (y := (v7 + 1)) (L2 := [some (.inr (.inr (1, 63))), some (.inl v1), some (.inl v2), some (.inl v3), some (.inl v4), none, some (.inl (v6 + (-1))), some (.inl (v7 + 1))]) (pc' := 128) dX8_summer_125 rfl rfl rfl rfl rfl ?_
            refine zf_goto (tgt := 86) dX8_summer_128 rfl ?_
            exact zf_lo (ih _ _ _ _ _ _ h) ⟨rfl, rfl, rfl, rfl, rfl, rfl, rfl, trivial⟩
        · replace h := h.2 g
          refine zf_goto (tgt := 125) dX8_summer_108 rfl ?_
          refine zf_ii (y := (v7 + 1)) (L2 := [some (.inr (.inr (1, 63))), some (.inl v1), some (.inl v2), some (.inl v3), some (.inl v4), none, some (.inl v6), some (.inl (v7 + 1))]) (pc' := 128) dX8_summer_125 rfl rfl rfl rfl rfl ?_
          refine zf_goto (tgt := 86) dX8_summer_128 rfl ?_
          exact zf_lo (ih _ _ _ _ _ _ h) ⟨rfl, rfl, rfl, rfl, rfl, rfl, rfl, trivial⟩
def wq_199_42 (v1 : Int32) (F25 : Int32 → Int32 → zf_Me → Prop) (Q : Int32 → zf_Me → Prop) : Nat → Int32 → Int32 → Int32 → Int32 → Int32 → zf_Me → Prop
  | 0, _, _, _, _, _, _ => False
  | n + 1, v2, v3, v4, v5, v6, m => ((v6.toInt > 9 → ((¬ v5.toInt = 0 → wp_198 v5 m (fun x5 m6 => (∃ n86, wq_199_86 v1 F25 Q n86 v2 v3 v4 x5 0 m6))) ∧ (v5.toInt = 0 → F25 v2 (v3 + 1) m))) ∧ (v6.toInt ≤ 9 → wq_199_42 v1 F25 Q n v2 v3 v4 (v5 + ((v4 >>> (v6 &&& 31)) &&& 1)) (v6 + 1) m))
theorem zq_199_42 {d : Nat} (hd : 4 ≤ d) {v1 : Int32} {F25 : Int32 → Int32 → zf_Me → Prop} {Q : Int32 → zf_Me → Prop} (hF25 : ∀ (v2 : Int32) (v3 : Int32) (m : zf_Me), F25 v2 v3 m → zf_W none 0 0 d zt_199 25 [some (.inr (.inr (1, 63))), some (.inl v1), some (.inl v2), some (.inl v3), none, none, none, none] [] m (zf_I Q)) : ∀ (n : Nat) (v2 : Int32) (v3 : Int32) (v4 : Int32) (v5 : Int32) (v6 : Int32) (m : zf_Me), wq_199_42 v1 F25 Q n v2 v3 v4 v5 v6 m → zf_W none 0 0 d zt_199 42 [some (.inr (.inr (1, 63))), some (.inl v1), some (.inl v2), some (.inl v3), some (.inl v4), some (.inl v5), some (.inl v6), none] [] m (zf_I Q) := by
  obtain ⟨e, rfl⟩ : ∃ z, d = z + 1 := ⟨d - 1, by omega⟩
  intro n
  induction n with
  | zero =>
    intro v2 v3 v4 v5 v6 m h
    exact h.elim
  | succ n ih =>
    intro v2 v3 v4 v5 v6 m h
    unfold wq_199_42 at h
    refine zf_ld (pc' := 44) (v := .inl v6) dX8_summer_42 rfl (fun _ _ _ => rfl) rfl rfl rfl ?_
    refine zf_bi (v := 9) (pc' := 46) dX8_summer_44 rfl rfl ?_
    refine zf_icmp_gt (tgt := 67) (pc' := 49) dX8_summer_46 rfl rfl (fun g => ?_) (fun g => ?_)
    · replace h := h.1 g
      refine zf_ld (pc' := 69) (v := .inl v5) dX8_summer_67 rfl (fun _ _ _ => rfl) rfl rfl rfl ?_
      refine zf_if_ne (tgt := 75) (pc' := 72) dX8_summer_69 rfl rfl (fun g => ?_) (fun g => ?_)
      · replace h := h.1 g
        refine zf_ld (pc' := 76) (v := .inr (.inr (1, 63))) dX8_summer_75 rfl (fun _ _ _ => rfl) rfl rfl rfl ?_
        refine zf_ld (pc' := 78) (v := .inl v5) dX8_summer_76 rfl (fun _ _ _ => rfl) rfl rfl rfl ?_
        refine zf_iv (k := 198) (pc' := 81) (r := []) dX8_summer_78 rfl rfl rfl rfl (by decide) rfl rfl rfl (zr_198 (by omega) h) (zf_kI (fun x5 m6 h => ?_))
        refine zf_st (pc' := 83) (L2 := [some (.inr (.inr (1, 63))), some (.inl v1), some (.inl v2), some (.inl v3), some (.inl v4), some (.inl v5), some (.inl x5), none]) dX8_summer_81 rfl (fun _ _ _ => rfl) rfl rfl rfl rfl rfl rfl ?_
        refine zf_ic (v := 0) (pc' := 84) dX8_summer_83 rfl rfl ?_
        refine zf_st (pc' := 86) (L2 := [some (.inr (.inr (1, 63))), some (.inl v1), some (.inl v2), some (.inl v3), some (.inl v4), some (.inl v5), some (.inl x5), some (.inl 0)]) dX8_summer_84 rfl (fun _ _ _ => rfl) rfl rfl rfl rfl rfl rfl ?_
        obtain ⟨n86, h⟩ := h
        exact zf_lo (zq_199_86 (by omega) hF25 n86 _ _ _ _ _ _ h) ⟨rfl, rfl, rfl, rfl, rfl, rfl, rfl, trivial⟩
      · replace h := h.2 g
        refine zf_goto (tgt := 131) dX8_summer_72 rfl ?_
        refine zf_ii (y := (v3 + 1)) (L2 := [some (.inr (.inr (1, 63))), some (.inl v1), some (.inl v2), some (.inl (v3 + 1)), some (.inl v4), some (.inl v5), some (.inl v6), none]) (pc' := 134) dX8_summer_131 rfl rfl rfl rfl rfl ?_
        refine zf_goto (tgt := 25) dX8_summer_134 rfl ?_
        exact zf_lo (hF25 _ _ _ h) ⟨rfl, rfl, rfl, rfl, trivial⟩
    · replace h := h.2 g
      refine zf_ld (pc' := 51) (v := .inl v5) dX8_summer_49 rfl (fun _ _ _ => rfl) rfl rfl rfl ?_
      refine zf_ld (pc' := 53) (v := .inl v4) dX8_summer_51 rfl (fun _ _ _ => rfl) rfl rfl rfl ?_
      refine zf_ld (pc' := 55) (v := .inl v6) dX8_summer_53 rfl (fun _ _ _ => rfl) rfl rfl rfl ?_
      refine zf_in (pc' := 56) (S' := [.inl (v4 >>> (v6 &&& 31)), .inl v5]) dX8_summer_55 rfl (fun _ _ _ => rfl) ?_
      refine zf_ic (v := 1) (pc' := 57) dX8_summer_56 rfl rfl ?_
      refine zf_in (pc' := 58) (S' := [.inl ((v4 >>> (v6 &&& 31)) &&& 1), .inl v5]) dX8_summer_57 rfl (fun _ _ _ => rfl) ?_
      refine zf_in (pc' := 59) (S' := [.inl (v5 + ((v4 >>> (v6 &&& 31)) &&& 1))]) dX8_summer_58 rfl (fun _ _ _ => rfl) ?_
      refine zf_st (pc' := 61) (L2 := [some (.inr (.inr (1, 63))), some (.inl v1), some (.inl v2), some (.inl v3), some (.inl v4), some (.inl (v5 + ((v4 >>> (v6 &&& 31)) &&& 1))), some (.inl v6), none]) dX8_summer_59 rfl (fun _ _ _ => rfl) rfl rfl rfl rfl rfl rfl ?_
      refine zf_ii (y := (v6 + 1)) (L2 := [some (.inr (.inr (1, 63))), some (.inl v1), some (.inl v2), some (.inl v3), some (.inl v4), some (.inl (v5 + ((v4 >>> (v6 &&& 31)) &&& 1))), some (.inl (v6 + 1)), none]) (pc' := 64) dX8_summer_61 rfl rfl rfl rfl rfl ?_
      refine zf_goto (tgt := 42) dX8_summer_64 rfl ?_
      exact zf_lo (ih _ _ _ _ _ _ h) ⟨rfl, rfl, rfl, rfl, rfl, rfl, rfl, trivial⟩
def wq_199_25 (v1 : Int32) (Q : Int32 → zf_Me → Prop) : Nat → Int32 → Int32 → zf_Me → Prop
  | 0, _, _, _ => False
  | n + 1, v2, v3, m => ((v3.toInt ≥ v1.toInt → Q ((m.1 63 10) - v2) m) ∧ (v3.toInt < v1.toInt → wp_173 m (fun x3 m4 => (∃ n42, wq_199_42 v1 (wq_199_25 v1 Q n) Q n42 v2 v3 x3 0 0 m4))))
theorem zq_199_25 {d : Nat} (hd : 4 ≤ d) {v1 : Int32} {Q : Int32 → zf_Me → Prop} : ∀ (n : Nat) (v2 : Int32) (v3 : Int32) (m : zf_Me), wq_199_25 v1 Q n v2 v3 m → zf_W none 0 0 d zt_199 25 [some (.inr (.inr (1, 63))), some (.inl v1), some (.inl v2), some (.inl v3), none, none, none, none] [] m (zf_I Q) := by
  obtain ⟨e, rfl⟩ : ∃ z, d = z + 1 := ⟨d - 1, by omega⟩
  intro n
  induction n with
  | zero =>
    intro v2 v3 m h
    exact h.elim
  | succ n ih =>
    intro v2 v3 m h
    unfold wq_199_25 at h
    refine zf_ld (pc' := 26) (v := .inl v3) dX8_summer_25 rfl (fun _ _ _ => rfl) rfl rfl rfl ?_
    refine zf_ld (pc' := 27) (v := .inl v1) dX8_summer_26 rfl (fun _ _ _ => rfl) rfl rfl rfl ?_
    refine zf_icmp_ge (tgt := 137) (pc' := 30) dX8_summer_27 rfl rfl (fun g => ?_) (fun g => ?_)
    · replace h := h.1 g
      refine zf_ld (pc' := 138) (v := .inr (.inr (1, 63))) dX8_summer_137 rfl (fun _ _ _ => rfl) rfl rfl rfl ?_
      refine zf_gfi (pc' := 141) dX8_summer_138 rfl rfl (by decide) rfl rfl ?_
      refine zf_ld (pc' := 142) (v := .inl v2) dX8_summer_141 rfl (fun _ _ _ => rfl) rfl rfl rfl ?_
      refine zf_in (pc' := 143) (S' := [.inl ((m.1 63 10) - v2)]) dX8_summer_142 rfl (fun _ _ _ => rfl) ?_
      exact zf_ri dX8_summer_143 rfl h
    · replace h := h.2 g
      refine zf_ld (pc' := 31) (v := .inr (.inr (1, 63))) dX8_summer_30 rfl (fun _ _ _ => rfl) rfl rfl rfl ?_
      refine zf_iv (k := 173) (pc' := 34) (r := []) dX8_summer_31 rfl rfl rfl rfl (by decide) rfl rfl rfl (zr_173 (by omega) h) (zf_kI (fun x3 m4 h => ?_))
      refine zf_st (pc' := 36) (L2 := [some (.inr (.inr (1, 63))), some (.inl v1), some (.inl v2), some (.inl v3), some (.inl x3), none, none, none]) dX8_summer_34 rfl (fun _ _ _ => rfl) rfl rfl rfl rfl rfl rfl ?_
      refine zf_ic (v := 0) (pc' := 37) dX8_summer_36 rfl rfl ?_
      refine zf_st (pc' := 39) (L2 := [some (.inr (.inr (1, 63))), some (.inl v1), some (.inl v2), some (.inl v3), some (.inl x3), some (.inl 0), none, none]) dX8_summer_37 rfl (fun _ _ _ => rfl) rfl rfl rfl rfl rfl rfl ?_
      refine zf_ic (v := 0) (pc' := 40) dX8_summer_39 rfl rfl ?_
      refine zf_st (pc' := 42) (L2 := [some (.inr (.inr (1, 63))), some (.inl v1), some (.inl v2), some (.inl v3), some (.inl x3), some (.inl 0), some (.inl 0), none]) dX8_summer_40 rfl (fun _ _ _ => rfl) rfl rfl rfl rfl rfl rfl ?_
      obtain ⟨n42, h⟩ := h
      exact zf_lo (zq_199_42 (by omega) ih n42 _ _ _ _ _ _ h) ⟨rfl, rfl, rfl, rfl, rfl, rfl, rfl, trivial⟩
def wp_199 (v1 : Int32) (m : zf_Me) (Q : Int32 → zf_Me → Prop) : Prop := ((v1.toInt < 1 → wp_125 (-6) m (fun x1 m2 => Q x1 m2)) ∧ (v1.toInt ≥ 1 → ((v1.toInt ≤ 60 → (∃ n25, wq_199_25 v1 Q n25 (m.1 63 10) 0 m)) ∧ (v1.toInt > 60 → wp_125 (-6) m (fun x9 m10 => Q x9 m10)))))
theorem zr_199 {d : Nat} (hd : 4 ≤ d) {v1 : Int32} {Q : Int32 → zf_Me → Prop} {m : zf_Me} (h : wp_199 v1 m Q) : zf_M d 199 [.inr (.inr (1, 63)), .inl v1] m (zf_I Q) := by
  obtain ⟨e, rfl⟩ : ∃ z, d = z + 1 := ⟨d - 1, by omega⟩
  unfold wp_199 at h
  refine zf_M_of (Nat.le_of_ble_eq_true rfl) zm_199 (L := [some (.inr (.inr (1, 63))), some (.inl v1), none, none, none, none, none, none]) rfl ?_
  refine zf_ld (pc' := 1) (v := .inl v1) dX8_summer_0 rfl (fun _ _ _ => rfl) rfl rfl rfl ?_
  refine zf_ic (v := 1) (pc' := 2) dX8_summer_1 rfl rfl ?_
  refine zf_icmp_lt (tgt := 11) (pc' := 5) dX8_summer_2 rfl rfl (fun g => ?_) (fun g => ?_)
  · replace h := h.1 g
    refine zf_ld (pc' := 12) (v := .inr (.inr (1, 63))) dX8_summer_11 rfl (fun _ _ _ => rfl) rfl rfl rfl ?_
    refine zf_bi (v := (-6)) (pc' := 14) dX8_summer_12 rfl rfl ?_
    refine zf_iv (k := 125) (pc' := 17) (r := []) dX8_summer_14 rfl rfl rfl rfl (by decide) rfl rfl rfl (zr_125 (by omega) h) (zf_kI (fun x1 m2 h => ?_))
    exact zf_ri dX8_summer_17 rfl h
  · replace h := h.2 g
    refine zf_ld (pc' := 6) (v := .inl v1) dX8_summer_5 rfl (fun _ _ _ => rfl) rfl rfl rfl ?_
    refine zf_bi (v := 60) (pc' := 8) dX8_summer_6 rfl rfl ?_
    refine zf_icmp_le (tgt := 18) (pc' := 11) dX8_summer_8 rfl rfl (fun g => ?_) (fun g => ?_)
    · replace h := h.1 g
      refine zf_ld (pc' := 19) (v := .inr (.inr (1, 63))) dX8_summer_18 rfl (fun _ _ _ => rfl) rfl rfl rfl ?_
      refine zf_gfi (pc' := 22) dX8_summer_19 rfl rfl (by decide) rfl rfl ?_
      refine zf_st (pc' := 23) (L2 := [some (.inr (.inr (1, 63))), some (.inl v1), some (.inl (m.1 63 10)), none, none, none, none, none]) dX8_summer_22 rfl (fun _ _ _ => rfl) rfl rfl rfl rfl rfl rfl ?_
      refine zf_ic (v := 0) (pc' := 24) dX8_summer_23 rfl rfl ?_
      refine zf_st (pc' := 25) (L2 := [some (.inr (.inr (1, 63))), some (.inl v1), some (.inl (m.1 63 10)), some (.inl 0), none, none, none, none]) dX8_summer_24 rfl (fun _ _ _ => rfl) rfl rfl rfl rfl rfl rfl ?_
      obtain ⟨n25, h⟩ := h
      exact zf_lo (zq_199_25 (by omega) n25 _ _ _ h) ⟨rfl, rfl, rfl, rfl, trivial⟩
    · replace h := h.2 g
      refine zf_ld (pc' := 12) (v := .inr (.inr (1, 63))) dX8_summer_11 rfl (fun _ _ _ => rfl) rfl rfl rfl ?_
      refine zf_bi (v := (-6)) (pc' := 14) dX8_summer_12 rfl rfl ?_
      refine zf_iv (k := 125) (pc' := 17) (r := []) dX8_summer_14 rfl rfl rfl rfl (by decide) rfl rfl rfl (zr_125 (by omega) h) (zf_kI (fun x9 m10 h => ?_))
      exact zf_ri dX8_summer_17 rfl h
def zt_200 : zx_MT := (8, yX8_day, cX8_day, 3, (some FieldType.int), 0, 0)
theorem zm_200 : zx_m 200 = zt_200 := rfl
theorem dX8_day_r0 : zdcP cX8_day 0 [(.aload_n 0, 1), (.getfield 207, 3), (.istore_n 1, 1), (.aload_n 0, 1), (.iconst 0, 1), (.putfield 207, 3), (.aload_n 0, 1), (.iconst 0, 1), (.putfield 210, 3), (.aload_n 0, 1), (.iconst 0, 1), (.putfield 204, 3), (.aload_n 0, 1), (.aload_n 0, 1), (.getfield 16, 3), (.putfield 13, 3)] := zdcA_ok (by decide +kernel)
theorem dX8_day_0 : decode cX8_day 0 = .ok (.aload_n 0, 1) := dX8_day_r0.1
theorem dX8_day_1 : decode cX8_day 1 = .ok (.getfield 207, 3) := dX8_day_r0.2.1
theorem dX8_day_4 : decode cX8_day 4 = .ok (.istore_n 1, 1) := dX8_day_r0.2.2.1
theorem dX8_day_5 : decode cX8_day 5 = .ok (.aload_n 0, 1) := dX8_day_r0.2.2.2.1
theorem dX8_day_6 : decode cX8_day 6 = .ok (.iconst 0, 1) := dX8_day_r0.2.2.2.2.1
theorem dX8_day_7 : decode cX8_day 7 = .ok (.putfield 207, 3) := dX8_day_r0.2.2.2.2.2.1
theorem dX8_day_10 : decode cX8_day 10 = .ok (.aload_n 0, 1) := dX8_day_r0.2.2.2.2.2.2.1
theorem dX8_day_11 : decode cX8_day 11 = .ok (.iconst 0, 1) := dX8_day_r0.2.2.2.2.2.2.2.1
theorem dX8_day_12 : decode cX8_day 12 = .ok (.putfield 210, 3) := dX8_day_r0.2.2.2.2.2.2.2.2.1
theorem dX8_day_15 : decode cX8_day 15 = .ok (.aload_n 0, 1) := dX8_day_r0.2.2.2.2.2.2.2.2.2.1
theorem dX8_day_16 : decode cX8_day 16 = .ok (.iconst 0, 1) := dX8_day_r0.2.2.2.2.2.2.2.2.2.2.1
theorem dX8_day_17 : decode cX8_day 17 = .ok (.putfield 204, 3) := dX8_day_r0.2.2.2.2.2.2.2.2.2.2.2.1
theorem dX8_day_20 : decode cX8_day 20 = .ok (.aload_n 0, 1) := dX8_day_r0.2.2.2.2.2.2.2.2.2.2.2.2.1
theorem dX8_day_21 : decode cX8_day 21 = .ok (.aload_n 0, 1) := dX8_day_r0.2.2.2.2.2.2.2.2.2.2.2.2.2.1
theorem dX8_day_22 : decode cX8_day 22 = .ok (.getfield 16, 3) := dX8_day_r0.2.2.2.2.2.2.2.2.2.2.2.2.2.2.1
theorem dX8_day_25 : decode cX8_day 25 = .ok (.putfield 13, 3) := dX8_day_r0.2.2.2.2.2.2.2.2.2.2.2.2.2.2.2.1
theorem dX8_day_r28 : zdcP cX8_day 28 [(.iconst 0, 1), (.istore_n 2, 1), (.iload_n 2, 1), (.aload_n 0, 1), (.getfield 105, 3), (.if_icmp .ge 16, 3), (.aload_n 0, 1), (.getfield 53, 3), (.iload_n 2, 1), (.iconst 0, 1), (.iastore, 1), (.iinc 2 1, 3), (.goto (-18), 3), (.iload_n 1, 1), (.ireturn, 1)] := zdcA_ok (by decide +kernel)
theorem dX8_day_28 : decode cX8_day 28 = .ok (.iconst 0, 1) := dX8_day_r28.1
theorem dX8_day_29 : decode cX8_day 29 = .ok (.istore_n 2, 1) := dX8_day_r28.2.1
theorem dX8_day_30 : decode cX8_day 30 = .ok (.iload_n 2, 1) := dX8_day_r28.2.2.1
theorem dX8_day_31 : decode cX8_day 31 = .ok (.aload_n 0, 1) := dX8_day_r28.2.2.2.1
theorem dX8_day_32 : decode cX8_day 32 = .ok (.getfield 105, 3) := dX8_day_r28.2.2.2.2.1
theorem dX8_day_35 : decode cX8_day 35 = .ok (.if_icmp .ge 16, 3) := dX8_day_r28.2.2.2.2.2.1
theorem dX8_day_38 : decode cX8_day 38 = .ok (.aload_n 0, 1) := dX8_day_r28.2.2.2.2.2.2.1
theorem dX8_day_39 : decode cX8_day 39 = .ok (.getfield 53, 3) := dX8_day_r28.2.2.2.2.2.2.2.1
theorem dX8_day_42 : decode cX8_day 42 = .ok (.iload_n 2, 1) := dX8_day_r28.2.2.2.2.2.2.2.2.1
theorem dX8_day_43 : decode cX8_day 43 = .ok (.iconst 0, 1) := dX8_day_r28.2.2.2.2.2.2.2.2.2.1
theorem dX8_day_44 : decode cX8_day 44 = .ok (.iastore, 1) := dX8_day_r28.2.2.2.2.2.2.2.2.2.2.1
theorem dX8_day_45 : decode cX8_day 45 = .ok (.iinc 2 1, 3) := dX8_day_r28.2.2.2.2.2.2.2.2.2.2.2.1
theorem dX8_day_48 : decode cX8_day 48 = .ok (.goto (-18), 3) := dX8_day_r28.2.2.2.2.2.2.2.2.2.2.2.2.1
theorem dX8_day_51 : decode cX8_day 51 = .ok (.iload_n 1, 1) := dX8_day_r28.2.2.2.2.2.2.2.2.2.2.2.2.2.1
theorem dX8_day_52 : decode cX8_day 52 = .ok (.ireturn, 1) := dX8_day_r28.2.2.2.2.2.2.2.2.2.2.2.2.2.2.1
def wq_200_30 (Q : Int32 → zf_Me → Prop) : Nat → Int32 → Int32 → zf_Me → Prop
  | 0, _, _, _ => False
  | n + 1, v1, v2, m => ((v2.toInt ≥ ((m.1 63 1)).toInt → Q v1 m) ∧ (v2.toInt < ((m.1 63 1)).toInt → ((0 ≤ (Int32.toInt v2) ∧ (Int32.toInt v2) < (6 : Int)) ∧ ∀ m9, m9 = zf_u m 69 (Int32.toInt v2).toNat 0 → wq_200_30 Q n v1 (v2 + 1) m9)))
theorem zq_200_30 {d : Nat} (hd : 0 ≤ d) {Q : Int32 → zf_Me → Prop} : ∀ (n : Nat) (v1 : Int32) (v2 : Int32) (m : zf_Me), wq_200_30 Q n v1 v2 m → zf_W none 0 0 d zt_200 30 [some (.inr (.inr (1, 63))), some (.inl v1), some (.inl v2)] [] m (zf_I Q) := by
  intro n
  induction n with
  | zero =>
    intro v1 v2 m h
    exact h.elim
  | succ n ih =>
    intro v1 v2 m h
    unfold wq_200_30 at h
    refine zf_ld (pc' := 31) (v := .inl v2) dX8_day_30 rfl (fun _ _ _ => rfl) rfl rfl rfl ?_
    refine zf_ld (pc' := 32) (v := .inr (.inr (1, 63))) dX8_day_31 rfl (fun _ _ _ => rfl) rfl rfl rfl ?_
    refine zf_gfi (pc' := 35) dX8_day_32 rfl rfl (by decide) rfl rfl ?_
    refine zf_icmp_ge (tgt := 51) (pc' := 38) dX8_day_35 rfl rfl (fun g => ?_) (fun g => ?_)
    · replace h := h.1 g
      refine zf_ld (pc' := 52) (v := .inl v1) dX8_day_51 rfl (fun _ _ _ => rfl) rfl rfl rfl ?_
      exact zf_ri dX8_day_52 rfl h
    · replace h := h.2 g
      refine zf_ld (pc' := 39) (v := .inr (.inr (1, 63))) dX8_day_38 rfl (fun _ _ _ => rfl) rfl rfl rfl ?_
      refine zf_gfr (pc' := 42) (b := 69) dX8_day_39 rfl rfl (by decide) rfl rfl ?_
      refine zf_ld (pc' := 43) (v := .inl v2) dX8_day_42 rfl (fun _ _ _ => rfl) rfl rfl rfl ?_
      refine zf_ic (v := 0) (pc' := 44) dX8_day_43 rfl rfl ?_
      refine zf_ias (pc' := 45) dX8_day_44 rfl (⟨by decide, rfl⟩ : zf_arr 69 6).1 (⟨by decide, rfl⟩ : zf_arr 69 6).2 h.1 rfl (fun m9 e10 => ?_)
      replace h := h.2 m9 e10
      refine zf_ii (y := (v2 + 1)) (L2 := [some (.inr (.inr (1, 63))), some (.inl v1), some (.inl (v2 + 1))]) (pc' := 48) dX8_day_45 rfl rfl rfl rfl rfl ?_
      refine zf_goto (tgt := 30) dX8_day_48 rfl ?_
      exact zf_lo (ih _ _ _ h) ⟨rfl, rfl, rfl, trivial⟩
def wp_200 (m : zf_Me) (Q : Int32 → zf_Me → Prop) : Prop := (∀ m1, m1 = zf_u m 63 10 0 → (∀ m3, m3 = zf_u m1 63 11 0 → (∀ m5, m5 = zf_u m3 63 6 0 → (∀ m7, m7 = zf_u m5 63 3 (m5.1 63 4) → (∃ n30, wq_200_30 Q n30 (m.1 63 10) 0 m7)))))
theorem zr_200 {d : Nat} (hd : 0 ≤ d) {Q : Int32 → zf_Me → Prop} {m : zf_Me} (h : wp_200 m Q) : zf_M d 200 [.inr (.inr (1, 63))] m (zf_I Q) := by
  unfold wp_200 at h
  refine zf_M_of (Nat.le_of_ble_eq_true rfl) zm_200 (L := [some (.inr (.inr (1, 63))), none, none]) rfl ?_
  refine zf_ld (pc' := 1) (v := .inr (.inr (1, 63))) dX8_day_0 rfl (fun _ _ _ => rfl) rfl rfl rfl ?_
  refine zf_gfi (pc' := 4) dX8_day_1 rfl rfl (by decide) rfl rfl ?_
  refine zf_st (pc' := 5) (L2 := [some (.inr (.inr (1, 63))), some (.inl (m.1 63 10)), none]) dX8_day_4 rfl (fun _ _ _ => rfl) rfl rfl rfl rfl rfl rfl ?_
  refine zf_ld (pc' := 6) (v := .inr (.inr (1, 63))) dX8_day_5 rfl (fun _ _ _ => rfl) rfl rfl rfl ?_
  refine zf_ic (v := 0) (pc' := 7) dX8_day_6 rfl rfl ?_
  refine zf_pf (pc' := 10) dX8_day_7 rfl rfl (by decide) rfl rfl rfl (fun m1 e2 => ?_)
  replace h := h m1 e2
  refine zf_ld (pc' := 11) (v := .inr (.inr (1, 63))) dX8_day_10 rfl (fun _ _ _ => rfl) rfl rfl rfl ?_
  refine zf_ic (v := 0) (pc' := 12) dX8_day_11 rfl rfl ?_
  refine zf_pf (pc' := 15) dX8_day_12 rfl rfl (by decide) rfl rfl rfl (fun m3 e4 => ?_)
  replace h := h m3 e4
  refine zf_ld (pc' := 16) (v := .inr (.inr (1, 63))) dX8_day_15 rfl (fun _ _ _ => rfl) rfl rfl rfl ?_
  refine zf_ic (v := 0) (pc' := 17) dX8_day_16 rfl rfl ?_
  refine zf_pf (pc' := 20) dX8_day_17 rfl rfl (by decide) rfl rfl rfl (fun m5 e6 => ?_)
  replace h := h m5 e6
  refine zf_ld (pc' := 21) (v := .inr (.inr (1, 63))) dX8_day_20 rfl (fun _ _ _ => rfl) rfl rfl rfl ?_
  refine zf_ld (pc' := 22) (v := .inr (.inr (1, 63))) dX8_day_21 rfl (fun _ _ _ => rfl) rfl rfl rfl ?_
  refine zf_gfi (pc' := 25) dX8_day_22 rfl rfl (by decide) rfl rfl ?_
  refine zf_pf (pc' := 28) dX8_day_25 rfl rfl (by decide) rfl rfl rfl (fun m7 e8 => ?_)
  replace h := h m7 e8
  refine zf_ic (v := 0) (pc' := 29) dX8_day_28 rfl rfl ?_
  refine zf_st (pc' := 30) (L2 := [some (.inr (.inr (1, 63))), some (.inl (m.1 63 10)), some (.inl 0)]) dX8_day_29 rfl (fun _ _ _ => rfl) rfl rfl rfl rfl rfl rfl ?_
  obtain ⟨n30, h⟩ := h
  exact zf_lo (zq_200_30 (by omega) n30 _ _ _ h) ⟨rfl, rfl, rfl, trivial⟩
end
section
/-! part 44: methods 201..: laid by wip/flat/dec.py -/
def zt_201 : zx_MT := (8, yX8_seed, cX8_seed, 3, (some FieldType.int), 1, 0)
theorem zm_201 : zx_m 201 = zt_201 := rfl
theorem dX8_seed_r0 : zdcP cX8_seed 0 [(.aload_n 0, 1), (.getfield 31, 3), (.istore_n 2, 1), (.aload_n 0, 1), (.iload_n 1, 1), (.putfield 31, 3), (.iload_n 2, 1), (.ireturn, 1)] := zdcA_ok (by decide +kernel)
theorem dX8_seed_0 : decode cX8_seed 0 = .ok (.aload_n 0, 1) := dX8_seed_r0.1
theorem dX8_seed_1 : decode cX8_seed 1 = .ok (.getfield 31, 3) := dX8_seed_r0.2.1
theorem dX8_seed_4 : decode cX8_seed 4 = .ok (.istore_n 2, 1) := dX8_seed_r0.2.2.1
theorem dX8_seed_5 : decode cX8_seed 5 = .ok (.aload_n 0, 1) := dX8_seed_r0.2.2.2.1
theorem dX8_seed_6 : decode cX8_seed 6 = .ok (.iload_n 1, 1) := dX8_seed_r0.2.2.2.2.1
theorem dX8_seed_7 : decode cX8_seed 7 = .ok (.putfield 31, 3) := dX8_seed_r0.2.2.2.2.2.1
theorem dX8_seed_10 : decode cX8_seed 10 = .ok (.iload_n 2, 1) := dX8_seed_r0.2.2.2.2.2.2.1
theorem dX8_seed_11 : decode cX8_seed 11 = .ok (.ireturn, 1) := dX8_seed_r0.2.2.2.2.2.2.2.1
def wp_201 (v1 : Int32) (m : zf_Me) (Q : Int32 → zf_Me → Prop) : Prop := (∀ m1, m1 = zf_u m 63 12 v1 → Q (m.1 63 12) m1)
theorem zr_201 {d : Nat} (hd : 0 ≤ d) {v1 : Int32} {Q : Int32 → zf_Me → Prop} {m : zf_Me} (h : wp_201 v1 m Q) : zf_M d 201 [.inr (.inr (1, 63)), .inl v1] m (zf_I Q) := by
  unfold wp_201 at h
  refine zf_M_of (Nat.le_of_ble_eq_true rfl) zm_201 (L := [some (.inr (.inr (1, 63))), some (.inl v1), none]) rfl ?_
  refine zf_ld (pc' := 1) (v := .inr (.inr (1, 63))) dX8_seed_0 rfl (fun _ _ _ => rfl) rfl rfl rfl ?_
  refine zf_gfi (pc' := 4) dX8_seed_1 rfl rfl (by decide) rfl rfl ?_
  refine zf_st (pc' := 5) (L2 := [some (.inr (.inr (1, 63))), some (.inl v1), some (.inl (m.1 63 12))]) dX8_seed_4 rfl (fun _ _ _ => rfl) rfl rfl rfl rfl rfl rfl ?_
  refine zf_ld (pc' := 6) (v := .inr (.inr (1, 63))) dX8_seed_5 rfl (fun _ _ _ => rfl) rfl rfl rfl ?_
  refine zf_ld (pc' := 7) (v := .inl v1) dX8_seed_6 rfl (fun _ _ _ => rfl) rfl rfl rfl ?_
  refine zf_pf (pc' := 10) dX8_seed_7 rfl rfl (by decide) rfl rfl rfl (fun m1 e2 => ?_)
  replace h := h m1 e2
  refine zf_ld (pc' := 11) (v := .inl (m.1 63 12)) dX8_seed_10 rfl (fun _ _ _ => rfl) rfl rfl rfl ?_
  exact zf_ri dX8_seed_11 rfl h
def zt_202 : zx_MT := (8, yX8_body, cX8_body, 2, none, 1, 0)
theorem zm_202 : zx_m 202 = zt_202 := rfl
theorem dX8_body_r0 : zdcP cX8_body 0 [(.aload_n 0, 1), (.getfield 303, 3), (.bipush 20, 2), (.if_icmp .ge 13, 3), (.aload_n 0, 1), (.getfield 102, 3), (.aload_n 0, 1), (.getfield 303, 3), (.iload_n 1, 1), (.iastore, 1), (.aload_n 0, 1), (.dup, 1), (.getfield 303, 3), (.iconst 1, 1), (.iadd, 1), (.putfield 303, 3)] := zdcA_ok (by decide +kernel)
theorem dX8_body_0 : decode cX8_body 0 = .ok (.aload_n 0, 1) := dX8_body_r0.1
theorem dX8_body_1 : decode cX8_body 1 = .ok (.getfield 303, 3) := dX8_body_r0.2.1
theorem dX8_body_4 : decode cX8_body 4 = .ok (.bipush 20, 2) := dX8_body_r0.2.2.1
theorem dX8_body_6 : decode cX8_body 6 = .ok (.if_icmp .ge 13, 3) := dX8_body_r0.2.2.2.1
theorem dX8_body_9 : decode cX8_body 9 = .ok (.aload_n 0, 1) := dX8_body_r0.2.2.2.2.1
theorem dX8_body_10 : decode cX8_body 10 = .ok (.getfield 102, 3) := dX8_body_r0.2.2.2.2.2.1
theorem dX8_body_13 : decode cX8_body 13 = .ok (.aload_n 0, 1) := dX8_body_r0.2.2.2.2.2.2.1
theorem dX8_body_14 : decode cX8_body 14 = .ok (.getfield 303, 3) := dX8_body_r0.2.2.2.2.2.2.2.1
theorem dX8_body_17 : decode cX8_body 17 = .ok (.iload_n 1, 1) := dX8_body_r0.2.2.2.2.2.2.2.2.1
theorem dX8_body_18 : decode cX8_body 18 = .ok (.iastore, 1) := dX8_body_r0.2.2.2.2.2.2.2.2.2.1
theorem dX8_body_19 : decode cX8_body 19 = .ok (.aload_n 0, 1) := dX8_body_r0.2.2.2.2.2.2.2.2.2.2.1
theorem dX8_body_20 : decode cX8_body 20 = .ok (.dup, 1) := dX8_body_r0.2.2.2.2.2.2.2.2.2.2.2.1
theorem dX8_body_21 : decode cX8_body 21 = .ok (.getfield 303, 3) := dX8_body_r0.2.2.2.2.2.2.2.2.2.2.2.2.1
theorem dX8_body_24 : decode cX8_body 24 = .ok (.iconst 1, 1) := dX8_body_r0.2.2.2.2.2.2.2.2.2.2.2.2.2.1
theorem dX8_body_25 : decode cX8_body 25 = .ok (.iadd, 1) := dX8_body_r0.2.2.2.2.2.2.2.2.2.2.2.2.2.2.1
theorem dX8_body_26 : decode cX8_body 26 = .ok (.putfield 303, 3) := dX8_body_r0.2.2.2.2.2.2.2.2.2.2.2.2.2.2.2.1
theorem dX8_body_29 : decode cX8_body 29 = .ok (.return_, 1) := zdc_ok (by decide +kernel)
def wq_202_19 (v1 : Int32) (m : zf_Me) (Q : zf_Me → Prop) : Prop := (∀ m1, m1 = zf_u m 63 51 ((m.1 63 51) + 1) → Q m1)
theorem zq_202_19 {d : Nat} (hd : 0 ≤ d) {v1 : Int32} {Q : zf_Me → Prop} {m : zf_Me} (h : wq_202_19 v1 m Q) : zf_W none 0 0 d zt_202 19 [some (.inr (.inr (1, 63))), none] [] m (zf_O Q) := by
  unfold wq_202_19 at h
  refine zf_ld (pc' := 20) (v := .inr (.inr (1, 63))) dX8_body_19 rfl (fun _ _ _ => rfl) rfl rfl rfl ?_
  refine zf_in (pc' := 21) (S' := [.inr (.inr (1, 63)), .inr (.inr (1, 63))]) dX8_body_20 rfl (fun _ _ _ => rfl) ?_
  refine zf_gfi (pc' := 24) dX8_body_21 rfl rfl (by decide) rfl rfl ?_
  refine zf_ic (v := 1) (pc' := 25) dX8_body_24 rfl rfl ?_
  refine zf_in (pc' := 26) (S' := [.inl ((m.1 63 51) + 1), .inr (.inr (1, 63))]) dX8_body_25 rfl (fun _ _ _ => rfl) ?_
  refine zf_pf (pc' := 29) dX8_body_26 rfl rfl (by decide) rfl rfl rfl (fun m1 e2 => ?_)
  replace h := h m1 e2
  exact zf_rv dX8_body_29 rfl h
def wp_202 (v1 : Int32) (m : zf_Me) (Q : zf_Me → Prop) : Prop := ((((m.1 63 51)).toInt ≥ 20 → wq_202_19 v1 m Q) ∧ (((m.1 63 51)).toInt < 20 → ((0 ≤ (Int32.toInt (m.1 63 51)) ∧ (Int32.toInt (m.1 63 51)) < (20 : Int)) ∧ ∀ m3, m3 = zf_u m 85 (Int32.toInt (m.1 63 51)).toNat v1 → wq_202_19 v1 m3 Q)))
theorem zr_202 {d : Nat} (hd : 0 ≤ d) {v1 : Int32} {Q : zf_Me → Prop} {m : zf_Me} (h : wp_202 v1 m Q) : zf_M d 202 [.inr (.inr (1, 63)), .inl v1] m (zf_O Q) := by
  unfold wp_202 at h
  refine zf_M_of (Nat.le_of_ble_eq_true rfl) zm_202 (L := [some (.inr (.inr (1, 63))), some (.inl v1)]) rfl ?_
  refine zf_ld (pc' := 1) (v := .inr (.inr (1, 63))) dX8_body_0 rfl (fun _ _ _ => rfl) rfl rfl rfl ?_
  refine zf_gfi (pc' := 4) dX8_body_1 rfl rfl (by decide) rfl rfl ?_
  refine zf_bi (v := 20) (pc' := 6) dX8_body_4 rfl rfl ?_
  refine zf_icmp_ge (tgt := 19) (pc' := 9) dX8_body_6 rfl rfl (fun g => ?_) (fun g => ?_)
  · replace h := h.1 g
    exact zf_lo (zq_202_19 (by omega) h) ⟨rfl, trivial⟩
  · replace h := h.2 g
    refine zf_ld (pc' := 10) (v := .inr (.inr (1, 63))) dX8_body_9 rfl (fun _ _ _ => rfl) rfl rfl rfl ?_
    refine zf_gfr (pc' := 13) (b := 85) dX8_body_10 rfl rfl (by decide) rfl rfl ?_
    refine zf_ld (pc' := 14) (v := .inr (.inr (1, 63))) dX8_body_13 rfl (fun _ _ _ => rfl) rfl rfl rfl ?_
    refine zf_gfi (pc' := 17) dX8_body_14 rfl rfl (by decide) rfl rfl ?_
    refine zf_ld (pc' := 18) (v := .inl v1) dX8_body_17 rfl (fun _ _ _ => rfl) rfl rfl rfl ?_
    refine zf_ias (pc' := 19) dX8_body_18 rfl (⟨by decide, rfl⟩ : zf_arr 85 20).1 (⟨by decide, rfl⟩ : zf_arr 85 20).2 h.1 rfl (fun m3 e4 => ?_)
    replace h := h.2 m3 e4
    exact zf_lo (zq_202_19 (by omega) h) ⟨rfl, trivial⟩
def zt_203 : zx_MT := (8, yX8_lifting, cX8_lifting, 5, (some FieldType.int), 2, 0)
theorem zm_203 : zx_m 203 = zt_203 := rfl
theorem dX8_lifting_r0 : zdcP cX8_lifting 0 [(.aload_n 0, 1), (.getfield 47, 3), (.iload_n 1, 1), (.iaload, 1), (.istore_n 3, 1), (.iload_n 3, 1), (.bipush 6, 2), (.if_icmp .ne 9, 3), (.aload_n 0, 1), (.bipush 70, 2), (.invokevirtual 306, 3), (.iload_n 3, 1), (.iconst 4, 1), (.if_icmp .eq 9, 3), (.iload_n 3, 1), (.bipush 6, 2)] := zdcA_ok (by decide +kernel)
theorem dX8_lifting_0 : decode cX8_lifting 0 = .ok (.aload_n 0, 1) := dX8_lifting_r0.1
theorem dX8_lifting_1 : decode cX8_lifting 1 = .ok (.getfield 47, 3) := dX8_lifting_r0.2.1
theorem dX8_lifting_4 : decode cX8_lifting 4 = .ok (.iload_n 1, 1) := dX8_lifting_r0.2.2.1
theorem dX8_lifting_5 : decode cX8_lifting 5 = .ok (.iaload, 1) := dX8_lifting_r0.2.2.2.1
theorem dX8_lifting_6 : decode cX8_lifting 6 = .ok (.istore_n 3, 1) := dX8_lifting_r0.2.2.2.2.1
theorem dX8_lifting_7 : decode cX8_lifting 7 = .ok (.iload_n 3, 1) := dX8_lifting_r0.2.2.2.2.2.1
theorem dX8_lifting_8 : decode cX8_lifting 8 = .ok (.bipush 6, 2) := dX8_lifting_r0.2.2.2.2.2.2.1
theorem dX8_lifting_10 : decode cX8_lifting 10 = .ok (.if_icmp .ne 9, 3) := dX8_lifting_r0.2.2.2.2.2.2.2.1
theorem dX8_lifting_13 : decode cX8_lifting 13 = .ok (.aload_n 0, 1) := dX8_lifting_r0.2.2.2.2.2.2.2.2.1
theorem dX8_lifting_14 : decode cX8_lifting 14 = .ok (.bipush 70, 2) := dX8_lifting_r0.2.2.2.2.2.2.2.2.2.1
theorem dX8_lifting_16 : decode cX8_lifting 16 = .ok (.invokevirtual 306, 3) := dX8_lifting_r0.2.2.2.2.2.2.2.2.2.2.1
theorem dX8_lifting_19 : decode cX8_lifting 19 = .ok (.iload_n 3, 1) := dX8_lifting_r0.2.2.2.2.2.2.2.2.2.2.2.1
theorem dX8_lifting_20 : decode cX8_lifting 20 = .ok (.iconst 4, 1) := dX8_lifting_r0.2.2.2.2.2.2.2.2.2.2.2.2.1
theorem dX8_lifting_21 : decode cX8_lifting 21 = .ok (.if_icmp .eq 9, 3) := dX8_lifting_r0.2.2.2.2.2.2.2.2.2.2.2.2.2.1
theorem dX8_lifting_24 : decode cX8_lifting 24 = .ok (.iload_n 3, 1) := dX8_lifting_r0.2.2.2.2.2.2.2.2.2.2.2.2.2.2.1
theorem dX8_lifting_25 : decode cX8_lifting 25 = .ok (.bipush 6, 2) := dX8_lifting_r0.2.2.2.2.2.2.2.2.2.2.2.2.2.2.2.1
theorem dX8_lifting_r27 : zdcP cX8_lifting 27 [(.if_icmp .ne 9, 3), (.aload_n 0, 1), (.bipush 51, 2), (.invokevirtual 306, 3), (.iload_n 3, 1), (.iconst 1, 1), (.if_icmp .eq 8, 3), (.iload_n 3, 1), (.iconst 3, 1), (.if_icmp .ne 9, 3), (.aload_n 0, 1), (.bipush 20, 2), (.invokevirtual 306, 3), (.aload_n 0, 1), (.bipush 10, 2), (.invokevirtual 306, 3)] := zdcA_ok (by decide +kernel)
theorem dX8_lifting_27 : decode cX8_lifting 27 = .ok (.if_icmp .ne 9, 3) := dX8_lifting_r27.1
theorem dX8_lifting_30 : decode cX8_lifting 30 = .ok (.aload_n 0, 1) := dX8_lifting_r27.2.1
theorem dX8_lifting_31 : decode cX8_lifting 31 = .ok (.bipush 51, 2) := dX8_lifting_r27.2.2.1
theorem dX8_lifting_33 : decode cX8_lifting 33 = .ok (.invokevirtual 306, 3) := dX8_lifting_r27.2.2.2.1
theorem dX8_lifting_36 : decode cX8_lifting 36 = .ok (.iload_n 3, 1) := dX8_lifting_r27.2.2.2.2.1
theorem dX8_lifting_37 : decode cX8_lifting 37 = .ok (.iconst 1, 1) := dX8_lifting_r27.2.2.2.2.2.1
theorem dX8_lifting_38 : decode cX8_lifting 38 = .ok (.if_icmp .eq 8, 3) := dX8_lifting_r27.2.2.2.2.2.2.1
theorem dX8_lifting_41 : decode cX8_lifting 41 = .ok (.iload_n 3, 1) := dX8_lifting_r27.2.2.2.2.2.2.2.1
theorem dX8_lifting_42 : decode cX8_lifting 42 = .ok (.iconst 3, 1) := dX8_lifting_r27.2.2.2.2.2.2.2.2.1
theorem dX8_lifting_43 : decode cX8_lifting 43 = .ok (.if_icmp .ne 9, 3) := dX8_lifting_r27.2.2.2.2.2.2.2.2.2.1
theorem dX8_lifting_46 : decode cX8_lifting 46 = .ok (.aload_n 0, 1) := dX8_lifting_r27.2.2.2.2.2.2.2.2.2.2.1
theorem dX8_lifting_47 : decode cX8_lifting 47 = .ok (.bipush 20, 2) := dX8_lifting_r27.2.2.2.2.2.2.2.2.2.2.2.1
theorem dX8_lifting_49 : decode cX8_lifting 49 = .ok (.invokevirtual 306, 3) := dX8_lifting_r27.2.2.2.2.2.2.2.2.2.2.2.2.1
theorem dX8_lifting_52 : decode cX8_lifting 52 = .ok (.aload_n 0, 1) := dX8_lifting_r27.2.2.2.2.2.2.2.2.2.2.2.2.2.1
theorem dX8_lifting_53 : decode cX8_lifting 53 = .ok (.bipush 10, 2) := dX8_lifting_r27.2.2.2.2.2.2.2.2.2.2.2.2.2.2.1
theorem dX8_lifting_55 : decode cX8_lifting 55 = .ok (.invokevirtual 306, 3) := dX8_lifting_r27.2.2.2.2.2.2.2.2.2.2.2.2.2.2.2.1
theorem dX8_lifting_r58 : zdcP cX8_lifting 58 [(.iload_n 2, 1), (.iload_n 1, 1), (.iadd, 1), (.istore 4, 2), (.iload_n 3, 1), (.iconst 1, 1), (.if_icmp .eq 8, 3), (.iload_n 3, 1), (.iconst 3, 1), (.if_icmp .ne 14, 3), (.iload 4, 2), (.aload_n 0, 1), (.getfield 50, 3), (.iload_n 1, 1), (.iaload, 1), (.iadd, 1)] := zdcA_ok (by decide +kernel)
theorem dX8_lifting_58 : decode cX8_lifting 58 = .ok (.iload_n 2, 1) := dX8_lifting_r58.1
theorem dX8_lifting_59 : decode cX8_lifting 59 = .ok (.iload_n 1, 1) := dX8_lifting_r58.2.1
theorem dX8_lifting_60 : decode cX8_lifting 60 = .ok (.iadd, 1) := dX8_lifting_r58.2.2.1
theorem dX8_lifting_61 : decode cX8_lifting 61 = .ok (.istore 4, 2) := dX8_lifting_r58.2.2.2.1
theorem dX8_lifting_63 : decode cX8_lifting 63 = .ok (.iload_n 3, 1) := dX8_lifting_r58.2.2.2.2.1
theorem dX8_lifting_64 : decode cX8_lifting 64 = .ok (.iconst 1, 1) := dX8_lifting_r58.2.2.2.2.2.1
theorem dX8_lifting_65 : decode cX8_lifting 65 = .ok (.if_icmp .eq 8, 3) := dX8_lifting_r58.2.2.2.2.2.2.1
theorem dX8_lifting_68 : decode cX8_lifting 68 = .ok (.iload_n 3, 1) := dX8_lifting_r58.2.2.2.2.2.2.2.1
theorem dX8_lifting_69 : decode cX8_lifting 69 = .ok (.iconst 3, 1) := dX8_lifting_r58.2.2.2.2.2.2.2.2.1
theorem dX8_lifting_70 : decode cX8_lifting 70 = .ok (.if_icmp .ne 14, 3) := dX8_lifting_r58.2.2.2.2.2.2.2.2.2.1
theorem dX8_lifting_73 : decode cX8_lifting 73 = .ok (.iload 4, 2) := dX8_lifting_r58.2.2.2.2.2.2.2.2.2.2.1
theorem dX8_lifting_75 : decode cX8_lifting 75 = .ok (.aload_n 0, 1) := dX8_lifting_r58.2.2.2.2.2.2.2.2.2.2.2.1
theorem dX8_lifting_76 : decode cX8_lifting 76 = .ok (.getfield 50, 3) := dX8_lifting_r58.2.2.2.2.2.2.2.2.2.2.2.2.1
theorem dX8_lifting_79 : decode cX8_lifting 79 = .ok (.iload_n 1, 1) := dX8_lifting_r58.2.2.2.2.2.2.2.2.2.2.2.2.2.1
theorem dX8_lifting_80 : decode cX8_lifting 80 = .ok (.iaload, 1) := dX8_lifting_r58.2.2.2.2.2.2.2.2.2.2.2.2.2.2.1
theorem dX8_lifting_81 : decode cX8_lifting 81 = .ok (.iadd, 1) := dX8_lifting_r58.2.2.2.2.2.2.2.2.2.2.2.2.2.2.2.1
theorem dX8_lifting_r82 : zdcP cX8_lifting 82 [(.istore 4, 2), (.iload_n 3, 1), (.iconst 4, 1), (.if_icmp .eq 9, 3), (.iload_n 3, 1), (.bipush 6, 2), (.if_icmp .ne 9, 3), (.iload 4, 2), (.iload_n 1, 1), (.isub, 1), (.istore 4, 2), (.iload_n 3, 1), (.bipush 6, 2), (.if_icmp .ne 10, 3), (.iload 4, 2), (.iconst 2, 1)] := zdcA_ok (by decide +kernel)
theorem dX8_lifting_82 : decode cX8_lifting 82 = .ok (.istore 4, 2) := dX8_lifting_r82.1
theorem dX8_lifting_84 : decode cX8_lifting 84 = .ok (.iload_n 3, 1) := dX8_lifting_r82.2.1
theorem dX8_lifting_85 : decode cX8_lifting 85 = .ok (.iconst 4, 1) := dX8_lifting_r82.2.2.1
theorem dX8_lifting_86 : decode cX8_lifting 86 = .ok (.if_icmp .eq 9, 3) := dX8_lifting_r82.2.2.2.1
theorem dX8_lifting_89 : decode cX8_lifting 89 = .ok (.iload_n 3, 1) := dX8_lifting_r82.2.2.2.2.1
theorem dX8_lifting_90 : decode cX8_lifting 90 = .ok (.bipush 6, 2) := dX8_lifting_r82.2.2.2.2.2.1
theorem dX8_lifting_92 : decode cX8_lifting 92 = .ok (.if_icmp .ne 9, 3) := dX8_lifting_r82.2.2.2.2.2.2.1
theorem dX8_lifting_95 : decode cX8_lifting 95 = .ok (.iload 4, 2) := dX8_lifting_r82.2.2.2.2.2.2.2.1
theorem dX8_lifting_97 : decode cX8_lifting 97 = .ok (.iload_n 1, 1) := dX8_lifting_r82.2.2.2.2.2.2.2.2.1
theorem dX8_lifting_98 : decode cX8_lifting 98 = .ok (.isub, 1) := dX8_lifting_r82.2.2.2.2.2.2.2.2.2.1
theorem dX8_lifting_99 : decode cX8_lifting 99 = .ok (.istore 4, 2) := dX8_lifting_r82.2.2.2.2.2.2.2.2.2.2.1
theorem dX8_lifting_101 : decode cX8_lifting 101 = .ok (.iload_n 3, 1) := dX8_lifting_r82.2.2.2.2.2.2.2.2.2.2.2.1
theorem dX8_lifting_102 : decode cX8_lifting 102 = .ok (.bipush 6, 2) := dX8_lifting_r82.2.2.2.2.2.2.2.2.2.2.2.2.1
theorem dX8_lifting_104 : decode cX8_lifting 104 = .ok (.if_icmp .ne 10, 3) := dX8_lifting_r82.2.2.2.2.2.2.2.2.2.2.2.2.2.1
theorem dX8_lifting_107 : decode cX8_lifting 107 = .ok (.iload 4, 2) := dX8_lifting_r82.2.2.2.2.2.2.2.2.2.2.2.2.2.2.1
theorem dX8_lifting_109 : decode cX8_lifting 109 = .ok (.iconst 2, 1) := dX8_lifting_r82.2.2.2.2.2.2.2.2.2.2.2.2.2.2.2.1
theorem dX8_lifting_r110 : zdcP cX8_lifting 110 [(.imul, 1), (.goto 5, 3), (.iload 4, 2), (.ireturn, 1)] := zdcA_ok (by decide +kernel)
theorem dX8_lifting_110 : decode cX8_lifting 110 = .ok (.imul, 1) := dX8_lifting_r110.1
theorem dX8_lifting_111 : decode cX8_lifting 111 = .ok (.goto 5, 3) := dX8_lifting_r110.2.1
theorem dX8_lifting_114 : decode cX8_lifting 114 = .ok (.iload 4, 2) := dX8_lifting_r110.2.2.1
theorem dX8_lifting_116 : decode cX8_lifting 116 = .ok (.ireturn, 1) := dX8_lifting_r110.2.2.2.1
def wq_203_101 (v1 : Int32) (v2 : Int32) (v3 : Int32) (v4 : Int32) (m : zf_Me) (Q : Int32 → zf_Me → Prop) : Prop := ((¬ v3.toInt = 6 → Q v4 m) ∧ (v3.toInt = 6 → Q (v4 * 2) m))
theorem zq_203_101 {d : Nat} (hd : 1 ≤ d) {v1 : Int32} {v2 : Int32} {Q : Int32 → zf_Me → Prop} {v3 : Int32} {v4 : Int32} {m : zf_Me} (h : wq_203_101 v1 v2 v3 v4 m Q) : zf_W none 0 0 d zt_203 101 [none, none, none, some (.inl v3), some (.inl v4)] [] m (zf_I Q) := by
  unfold wq_203_101 at h
  refine zf_ld (pc' := 102) (v := .inl v3) dX8_lifting_101 rfl (fun _ _ _ => rfl) rfl rfl rfl ?_
  refine zf_bi (v := 6) (pc' := 104) dX8_lifting_102 rfl rfl ?_
  refine zf_icmp_ne (tgt := 114) (pc' := 107) dX8_lifting_104 rfl rfl (fun g => ?_) (fun g => ?_)
  · replace h := h.1 g
    refine zf_ld (pc' := 116) (v := .inl v4) dX8_lifting_114 rfl (fun _ _ _ => rfl) rfl rfl rfl ?_
    exact zf_ri dX8_lifting_116 rfl h
  · replace h := h.2 g
    refine zf_ld (pc' := 109) (v := .inl v4) dX8_lifting_107 rfl (fun _ _ _ => rfl) rfl rfl rfl ?_
    refine zf_ic (v := 2) (pc' := 110) dX8_lifting_109 rfl rfl ?_
    refine zf_in (pc' := 111) (S' := [.inl (v4 * 2)]) dX8_lifting_110 rfl (fun _ _ _ => rfl) ?_
    refine zf_goto (tgt := 116) dX8_lifting_111 rfl ?_
    exact zf_ri dX8_lifting_116 rfl h
def wq_203_95 (v1 : Int32) (v2 : Int32) (v3 : Int32) (v4 : Int32) (m : zf_Me) (Q : Int32 → zf_Me → Prop) : Prop := wq_203_101 v1 v2 v3 (v4 - v1) m Q
theorem zq_203_95 {d : Nat} (hd : 1 ≤ d) {v1 : Int32} {v2 : Int32} {Q : Int32 → zf_Me → Prop} {v3 : Int32} {v4 : Int32} {m : zf_Me} (h : wq_203_95 v1 v2 v3 v4 m Q) : zf_W none 0 0 d zt_203 95 [none, some (.inl v1), none, some (.inl v3), some (.inl v4)] [] m (zf_I Q) := by
  unfold wq_203_95 at h
  refine zf_ld (pc' := 97) (v := .inl v4) dX8_lifting_95 rfl (fun _ _ _ => rfl) rfl rfl rfl ?_
  refine zf_ld (pc' := 98) (v := .inl v1) dX8_lifting_97 rfl (fun _ _ _ => rfl) rfl rfl rfl ?_
  refine zf_in (pc' := 99) (S' := [.inl (v4 - v1)]) dX8_lifting_98 rfl (fun _ _ _ => rfl) ?_
  refine zf_st (pc' := 101) (L2 := [none, some (.inl v1), none, some (.inl v3), some (.inl (v4 - v1))]) dX8_lifting_99 rfl (fun _ _ _ => rfl) rfl rfl rfl rfl rfl rfl ?_
  exact zf_lo (zq_203_101 (by omega) h) ⟨rfl, rfl, trivial⟩
def wq_203_84 (v1 : Int32) (v2 : Int32) (v3 : Int32) (v4 : Int32) (m : zf_Me) (Q : Int32 → zf_Me → Prop) : Prop := ((v3.toInt = 4 → wq_203_95 v1 v2 v3 v4 m Q) ∧ (¬ v3.toInt = 4 → ((¬ v3.toInt = 6 → wq_203_101 v1 v2 v3 v4 m Q) ∧ (v3.toInt = 6 → wq_203_95 v1 v2 v3 v4 m Q))))
theorem zq_203_84 {d : Nat} (hd : 1 ≤ d) {v1 : Int32} {v2 : Int32} {Q : Int32 → zf_Me → Prop} {v3 : Int32} {v4 : Int32} {m : zf_Me} (h : wq_203_84 v1 v2 v3 v4 m Q) : zf_W none 0 0 d zt_203 84 [none, some (.inl v1), none, some (.inl v3), some (.inl v4)] [] m (zf_I Q) := by
  unfold wq_203_84 at h
  refine zf_ld (pc' := 85) (v := .inl v3) dX8_lifting_84 rfl (fun _ _ _ => rfl) rfl rfl rfl ?_
  refine zf_ic (v := 4) (pc' := 86) dX8_lifting_85 rfl rfl ?_
  refine zf_icmp_eq (tgt := 95) (pc' := 89) dX8_lifting_86 rfl rfl (fun g => ?_) (fun g => ?_)
  · replace h := h.1 g
    exact zf_lo (zq_203_95 (by omega) h) ⟨rfl, rfl, rfl, trivial⟩
  · replace h := h.2 g
    refine zf_ld (pc' := 90) (v := .inl v3) dX8_lifting_89 rfl (fun _ _ _ => rfl) rfl rfl rfl ?_
    refine zf_bi (v := 6) (pc' := 92) dX8_lifting_90 rfl rfl ?_
    refine zf_icmp_ne (tgt := 101) (pc' := 95) dX8_lifting_92 rfl rfl (fun g => ?_) (fun g => ?_)
    · replace h := h.1 g
      exact zf_lo (zq_203_101 (by omega) h) ⟨rfl, rfl, trivial⟩
    · replace h := h.2 g
      exact zf_lo (zq_203_95 (by omega) h) ⟨rfl, rfl, rfl, trivial⟩
def wq_203_73 (v1 : Int32) (v2 : Int32) (v3 : Int32) (v4 : Int32) (m : zf_Me) (Q : Int32 → zf_Me → Prop) : Prop := ((0 ≤ (Int32.toInt v1) ∧ (Int32.toInt v1) < (6 : Int)) ∧ wq_203_84 v1 v2 v3 (v4 + (m.1 68 (Int32.toInt v1).toNat)) m Q)
theorem zq_203_73 {d : Nat} (hd : 1 ≤ d) {v1 : Int32} {v2 : Int32} {Q : Int32 → zf_Me → Prop} {v3 : Int32} {v4 : Int32} {m : zf_Me} (h : wq_203_73 v1 v2 v3 v4 m Q) : zf_W none 0 0 d zt_203 73 [some (.inr (.inr (1, 63))), some (.inl v1), none, some (.inl v3), some (.inl v4)] [] m (zf_I Q) := by
  unfold wq_203_73 at h
  refine zf_ld (pc' := 75) (v := .inl v4) dX8_lifting_73 rfl (fun _ _ _ => rfl) rfl rfl rfl ?_
  refine zf_ld (pc' := 76) (v := .inr (.inr (1, 63))) dX8_lifting_75 rfl (fun _ _ _ => rfl) rfl rfl rfl ?_
  refine zf_gfr (pc' := 79) (b := 68) dX8_lifting_76 rfl rfl (by decide) rfl rfl ?_
  refine zf_ld (pc' := 80) (v := .inl v1) dX8_lifting_79 rfl (fun _ _ _ => rfl) rfl rfl rfl ?_
  refine zf_ial (pc' := 81) dX8_lifting_80 rfl (⟨by decide, rfl⟩ : zf_arr 68 6).1 (⟨by decide, rfl⟩ : zf_arr 68 6).2 h.1 rfl ?_
  replace h := h.2
  refine zf_in (pc' := 82) (S' := [.inl (v4 + (m.1 68 (Int32.toInt v1).toNat))]) dX8_lifting_81 rfl (fun _ _ _ => rfl) ?_
  refine zf_st (pc' := 84) (L2 := [some (.inr (.inr (1, 63))), some (.inl v1), none, some (.inl v3), some (.inl (v4 + (m.1 68 (Int32.toInt v1).toNat)))]) dX8_lifting_82 rfl (fun _ _ _ => rfl) rfl rfl rfl rfl rfl rfl ?_
  exact zf_lo (zq_203_84 (by omega) h) ⟨rfl, rfl, rfl, trivial⟩
def wq_203_52 (v1 : Int32) (v2 : Int32) (v3 : Int32) (m : zf_Me) (Q : Int32 → zf_Me → Prop) : Prop := wp_202 10 m (fun m6 => ((v3.toInt = 1 → wq_203_73 v1 v2 v3 (v2 + v1) m6 Q) ∧ (¬ v3.toInt = 1 → ((¬ v3.toInt = 3 → wq_203_84 v1 v2 v3 (v2 + v1) m6 Q) ∧ (v3.toInt = 3 → wq_203_73 v1 v2 v3 (v2 + v1) m6 Q)))))
theorem zq_203_52 {d : Nat} (hd : 1 ≤ d) {v1 : Int32} {v2 : Int32} {Q : Int32 → zf_Me → Prop} {v3 : Int32} {m : zf_Me} (h : wq_203_52 v1 v2 v3 m Q) : zf_W none 0 0 d zt_203 52 [some (.inr (.inr (1, 63))), some (.inl v1), some (.inl v2), some (.inl v3), none] [] m (zf_I Q) := by
  obtain ⟨e, rfl⟩ : ∃ z, d = z + 1 := ⟨d - 1, by omega⟩
  unfold wq_203_52 at h
  refine zf_ld (pc' := 53) (v := .inr (.inr (1, 63))) dX8_lifting_52 rfl (fun _ _ _ => rfl) rfl rfl rfl ?_
  refine zf_bi (v := 10) (pc' := 55) dX8_lifting_53 rfl rfl ?_
  refine zf_iv (k := 202) (pc' := 58) (r := []) dX8_lifting_55 rfl rfl rfl rfl (by decide) rfl rfl rfl (zr_202 (by omega) h) (zf_kO (fun m6 h => ?_))
  refine zf_ld (pc' := 59) (v := .inl v2) dX8_lifting_58 rfl (fun _ _ _ => rfl) rfl rfl rfl ?_
  refine zf_ld (pc' := 60) (v := .inl v1) dX8_lifting_59 rfl (fun _ _ _ => rfl) rfl rfl rfl ?_
  refine zf_in (pc' := 61) (S' := [.inl (v2 + v1)]) dX8_lifting_60 rfl (fun _ _ _ => rfl) ?_
  refine zf_st (pc' := 63) (L2 := [some (.inr (.inr (1, 63))), some (.inl v1), some (.inl v2), some (.inl v3), some (.inl (v2 + v1))]) dX8_lifting_61 rfl (fun _ _ _ => rfl) rfl rfl rfl rfl rfl rfl ?_
  refine zf_ld (pc' := 64) (v := .inl v3) dX8_lifting_63 rfl (fun _ _ _ => rfl) rfl rfl rfl ?_
  refine zf_ic (v := 1) (pc' := 65) dX8_lifting_64 rfl rfl ?_
  refine zf_icmp_eq (tgt := 73) (pc' := 68) dX8_lifting_65 rfl rfl (fun g => ?_) (fun g => ?_)
  · replace h := h.1 g
    exact zf_lo (zq_203_73 (by omega) h) ⟨rfl, rfl, rfl, rfl, trivial⟩
  · replace h := h.2 g
    refine zf_ld (pc' := 69) (v := .inl v3) dX8_lifting_68 rfl (fun _ _ _ => rfl) rfl rfl rfl ?_
    refine zf_ic (v := 3) (pc' := 70) dX8_lifting_69 rfl rfl ?_
    refine zf_icmp_ne (tgt := 84) (pc' := 73) dX8_lifting_70 rfl rfl (fun g => ?_) (fun g => ?_)
    · replace h := h.1 g
      exact zf_lo (zq_203_84 (by omega) h) ⟨rfl, rfl, rfl, trivial⟩
    · replace h := h.2 g
      exact zf_lo (zq_203_73 (by omega) h) ⟨rfl, rfl, rfl, rfl, trivial⟩
def wq_203_46 (v1 : Int32) (v2 : Int32) (v3 : Int32) (m : zf_Me) (Q : Int32 → zf_Me → Prop) : Prop := wp_202 20 m (fun m4 => wq_203_52 v1 v2 v3 m4 Q)
theorem zq_203_46 {d : Nat} (hd : 1 ≤ d) {v1 : Int32} {v2 : Int32} {Q : Int32 → zf_Me → Prop} {v3 : Int32} {m : zf_Me} (h : wq_203_46 v1 v2 v3 m Q) : zf_W none 0 0 d zt_203 46 [some (.inr (.inr (1, 63))), some (.inl v1), some (.inl v2), some (.inl v3), none] [] m (zf_I Q) := by
  obtain ⟨e, rfl⟩ : ∃ z, d = z + 1 := ⟨d - 1, by omega⟩
  unfold wq_203_46 at h
  refine zf_ld (pc' := 47) (v := .inr (.inr (1, 63))) dX8_lifting_46 rfl (fun _ _ _ => rfl) rfl rfl rfl ?_
  refine zf_bi (v := 20) (pc' := 49) dX8_lifting_47 rfl rfl ?_
  refine zf_iv (k := 202) (pc' := 52) (r := []) dX8_lifting_49 rfl rfl rfl rfl (by decide) rfl rfl rfl (zr_202 (by omega) h) (zf_kO (fun m4 h => ?_))
  exact zf_lo (zq_203_52 (by omega) h) ⟨rfl, rfl, rfl, rfl, trivial⟩
def wq_203_36 (v1 : Int32) (v2 : Int32) (v3 : Int32) (m : zf_Me) (Q : Int32 → zf_Me → Prop) : Prop := ((v3.toInt = 1 → wq_203_46 v1 v2 v3 m Q) ∧ (¬ v3.toInt = 1 → ((¬ v3.toInt = 3 → wq_203_52 v1 v2 v3 m Q) ∧ (v3.toInt = 3 → wq_203_46 v1 v2 v3 m Q))))
theorem zq_203_36 {d : Nat} (hd : 1 ≤ d) {v1 : Int32} {v2 : Int32} {Q : Int32 → zf_Me → Prop} {v3 : Int32} {m : zf_Me} (h : wq_203_36 v1 v2 v3 m Q) : zf_W none 0 0 d zt_203 36 [some (.inr (.inr (1, 63))), some (.inl v1), some (.inl v2), some (.inl v3), none] [] m (zf_I Q) := by
  unfold wq_203_36 at h
  refine zf_ld (pc' := 37) (v := .inl v3) dX8_lifting_36 rfl (fun _ _ _ => rfl) rfl rfl rfl ?_
  refine zf_ic (v := 1) (pc' := 38) dX8_lifting_37 rfl rfl ?_
  refine zf_icmp_eq (tgt := 46) (pc' := 41) dX8_lifting_38 rfl rfl (fun g => ?_) (fun g => ?_)
  · replace h := h.1 g
    exact zf_lo (zq_203_46 (by omega) h) ⟨rfl, rfl, rfl, rfl, trivial⟩
  · replace h := h.2 g
    refine zf_ld (pc' := 42) (v := .inl v3) dX8_lifting_41 rfl (fun _ _ _ => rfl) rfl rfl rfl ?_
    refine zf_ic (v := 3) (pc' := 43) dX8_lifting_42 rfl rfl ?_
    refine zf_icmp_ne (tgt := 52) (pc' := 46) dX8_lifting_43 rfl rfl (fun g => ?_) (fun g => ?_)
    · replace h := h.1 g
      exact zf_lo (zq_203_52 (by omega) h) ⟨rfl, rfl, rfl, rfl, trivial⟩
    · replace h := h.2 g
      exact zf_lo (zq_203_46 (by omega) h) ⟨rfl, rfl, rfl, rfl, trivial⟩
def wq_203_30 (v1 : Int32) (v2 : Int32) (v3 : Int32) (m : zf_Me) (Q : Int32 → zf_Me → Prop) : Prop := wp_202 51 m (fun m2 => wq_203_36 v1 v2 v3 m2 Q)
theorem zq_203_30 {d : Nat} (hd : 1 ≤ d) {v1 : Int32} {v2 : Int32} {Q : Int32 → zf_Me → Prop} {v3 : Int32} {m : zf_Me} (h : wq_203_30 v1 v2 v3 m Q) : zf_W none 0 0 d zt_203 30 [some (.inr (.inr (1, 63))), some (.inl v1), some (.inl v2), some (.inl v3), none] [] m (zf_I Q) := by
  obtain ⟨e, rfl⟩ : ∃ z, d = z + 1 := ⟨d - 1, by omega⟩
  unfold wq_203_30 at h
  refine zf_ld (pc' := 31) (v := .inr (.inr (1, 63))) dX8_lifting_30 rfl (fun _ _ _ => rfl) rfl rfl rfl ?_
  refine zf_bi (v := 51) (pc' := 33) dX8_lifting_31 rfl rfl ?_
  refine zf_iv (k := 202) (pc' := 36) (r := []) dX8_lifting_33 rfl rfl rfl rfl (by decide) rfl rfl rfl (zr_202 (by omega) h) (zf_kO (fun m2 h => ?_))
  exact zf_lo (zq_203_36 (by omega) h) ⟨rfl, rfl, rfl, rfl, trivial⟩
def wq_203_19 (v1 : Int32) (v2 : Int32) (v3 : Int32) (m : zf_Me) (Q : Int32 → zf_Me → Prop) : Prop := ((v3.toInt = 4 → wq_203_30 v1 v2 v3 m Q) ∧ (¬ v3.toInt = 4 → ((¬ v3.toInt = 6 → wq_203_36 v1 v2 v3 m Q) ∧ (v3.toInt = 6 → wq_203_30 v1 v2 v3 m Q))))
theorem zq_203_19 {d : Nat} (hd : 1 ≤ d) {v1 : Int32} {v2 : Int32} {Q : Int32 → zf_Me → Prop} {v3 : Int32} {m : zf_Me} (h : wq_203_19 v1 v2 v3 m Q) : zf_W none 0 0 d zt_203 19 [some (.inr (.inr (1, 63))), some (.inl v1), some (.inl v2), some (.inl v3), none] [] m (zf_I Q) := by
  unfold wq_203_19 at h
  refine zf_ld (pc' := 20) (v := .inl v3) dX8_lifting_19 rfl (fun _ _ _ => rfl) rfl rfl rfl ?_
  refine zf_ic (v := 4) (pc' := 21) dX8_lifting_20 rfl rfl ?_
  refine zf_icmp_eq (tgt := 30) (pc' := 24) dX8_lifting_21 rfl rfl (fun g => ?_) (fun g => ?_)
  · replace h := h.1 g
    exact zf_lo (zq_203_30 (by omega) h) ⟨rfl, rfl, rfl, rfl, trivial⟩
  · replace h := h.2 g
    refine zf_ld (pc' := 25) (v := .inl v3) dX8_lifting_24 rfl (fun _ _ _ => rfl) rfl rfl rfl ?_
    refine zf_bi (v := 6) (pc' := 27) dX8_lifting_25 rfl rfl ?_
    refine zf_icmp_ne (tgt := 36) (pc' := 30) dX8_lifting_27 rfl rfl (fun g => ?_) (fun g => ?_)
    · replace h := h.1 g
      exact zf_lo (zq_203_36 (by omega) h) ⟨rfl, rfl, rfl, rfl, trivial⟩
    · replace h := h.2 g
      exact zf_lo (zq_203_30 (by omega) h) ⟨rfl, rfl, rfl, rfl, trivial⟩
def wp_203 (v1 : Int32) (v2 : Int32) (m : zf_Me) (Q : Int32 → zf_Me → Prop) : Prop := ((0 ≤ (Int32.toInt v1) ∧ (Int32.toInt v1) < (6 : Int)) ∧ ((¬ ((m.1 67 (Int32.toInt v1).toNat)).toInt = 6 → wq_203_19 v1 v2 (m.1 67 (Int32.toInt v1).toNat) m Q) ∧ (((m.1 67 (Int32.toInt v1).toNat)).toInt = 6 → wp_202 70 m (fun m8 => wq_203_19 v1 v2 (m.1 67 (Int32.toInt v1).toNat) m8 Q))))
theorem zr_203 {d : Nat} (hd : 1 ≤ d) {v1 : Int32} {v2 : Int32} {Q : Int32 → zf_Me → Prop} {m : zf_Me} (h : wp_203 v1 v2 m Q) : zf_M d 203 [.inr (.inr (1, 63)), .inl v1, .inl v2] m (zf_I Q) := by
  obtain ⟨e, rfl⟩ : ∃ z, d = z + 1 := ⟨d - 1, by omega⟩
  unfold wp_203 at h
  refine zf_M_of (Nat.le_of_ble_eq_true rfl) zm_203 (L := [some (.inr (.inr (1, 63))), some (.inl v1), some (.inl v2), none, none]) rfl ?_
  refine zf_ld (pc' := 1) (v := .inr (.inr (1, 63))) dX8_lifting_0 rfl (fun _ _ _ => rfl) rfl rfl rfl ?_
  refine zf_gfr (pc' := 4) (b := 67) dX8_lifting_1 rfl rfl (by decide) rfl rfl ?_
  refine zf_ld (pc' := 5) (v := .inl v1) dX8_lifting_4 rfl (fun _ _ _ => rfl) rfl rfl rfl ?_
  refine zf_ial (pc' := 6) dX8_lifting_5 rfl (⟨by decide, rfl⟩ : zf_arr 67 6).1 (⟨by decide, rfl⟩ : zf_arr 67 6).2 h.1 rfl ?_
  replace h := h.2
  refine zf_st (pc' := 7) (L2 := [some (.inr (.inr (1, 63))), some (.inl v1), some (.inl v2), some (.inl (m.1 67 (Int32.toInt v1).toNat)), none]) dX8_lifting_6 rfl (fun _ _ _ => rfl) rfl rfl rfl rfl rfl rfl ?_
  refine zf_ld (pc' := 8) (v := .inl (m.1 67 (Int32.toInt v1).toNat)) dX8_lifting_7 rfl (fun _ _ _ => rfl) rfl rfl rfl ?_
  refine zf_bi (v := 6) (pc' := 10) dX8_lifting_8 rfl rfl ?_
  refine zf_icmp_ne (tgt := 19) (pc' := 13) dX8_lifting_10 rfl rfl (fun g => ?_) (fun g => ?_)
  · replace h := h.1 g
    exact zf_lo (zq_203_19 (by omega) h) ⟨rfl, rfl, rfl, rfl, trivial⟩
  · replace h := h.2 g
    refine zf_ld (pc' := 14) (v := .inr (.inr (1, 63))) dX8_lifting_13 rfl (fun _ _ _ => rfl) rfl rfl rfl ?_
    refine zf_bi (v := 70) (pc' := 16) dX8_lifting_14 rfl rfl ?_
    refine zf_iv (k := 202) (pc' := 19) (r := []) dX8_lifting_16 rfl rfl rfl rfl (by decide) rfl rfl rfl (zr_202 (by omega) h) (zf_kO (fun m8 h => ?_))
    exact zf_lo (zq_203_19 (by omega) h) ⟨rfl, rfl, rfl, rfl, trivial⟩
def zt_204 : zx_MT := (8, yX8_stepping, cX8_stepping, 7, (some FieldType.int), 2, 0)
theorem zm_204 : zx_m 204 = zt_204 := rfl
theorem dX8_stepping_r0 : zdcP cX8_stepping 0 [(.aload_n 0, 1), (.getfield 47, 3), (.iload_n 1, 1), (.iaload, 1), (.istore_n 3, 1), (.iload_n 2, 1), (.istore 4, 2), (.iload_n 3, 1), (.bipush 6, 2), (.if_icmp .ne 19, 3), (.aload_n 0, 1), (.bipush 71, 2), (.invokevirtual 306, 3), (.iload_n 2, 1), (.aload_n 0, 1), (.getfield 50, 3)] := zdcA_ok (by decide +kernel)
theorem dX8_stepping_0 : decode cX8_stepping 0 = .ok (.aload_n 0, 1) := dX8_stepping_r0.1
theorem dX8_stepping_1 : decode cX8_stepping 1 = .ok (.getfield 47, 3) := dX8_stepping_r0.2.1
theorem dX8_stepping_4 : decode cX8_stepping 4 = .ok (.iload_n 1, 1) := dX8_stepping_r0.2.2.1
theorem dX8_stepping_5 : decode cX8_stepping 5 = .ok (.iaload, 1) := dX8_stepping_r0.2.2.2.1
theorem dX8_stepping_6 : decode cX8_stepping 6 = .ok (.istore_n 3, 1) := dX8_stepping_r0.2.2.2.2.1
theorem dX8_stepping_7 : decode cX8_stepping 7 = .ok (.iload_n 2, 1) := dX8_stepping_r0.2.2.2.2.2.1
theorem dX8_stepping_8 : decode cX8_stepping 8 = .ok (.istore 4, 2) := dX8_stepping_r0.2.2.2.2.2.2.1
theorem dX8_stepping_10 : decode cX8_stepping 10 = .ok (.iload_n 3, 1) := dX8_stepping_r0.2.2.2.2.2.2.2.1
theorem dX8_stepping_11 : decode cX8_stepping 11 = .ok (.bipush 6, 2) := dX8_stepping_r0.2.2.2.2.2.2.2.2.1
theorem dX8_stepping_13 : decode cX8_stepping 13 = .ok (.if_icmp .ne 19, 3) := dX8_stepping_r0.2.2.2.2.2.2.2.2.2.1
theorem dX8_stepping_16 : decode cX8_stepping 16 = .ok (.aload_n 0, 1) := dX8_stepping_r0.2.2.2.2.2.2.2.2.2.2.1
theorem dX8_stepping_17 : decode cX8_stepping 17 = .ok (.bipush 71, 2) := dX8_stepping_r0.2.2.2.2.2.2.2.2.2.2.2.1
theorem dX8_stepping_19 : decode cX8_stepping 19 = .ok (.invokevirtual 306, 3) := dX8_stepping_r0.2.2.2.2.2.2.2.2.2.2.2.2.1
theorem dX8_stepping_22 : decode cX8_stepping 22 = .ok (.iload_n 2, 1) := dX8_stepping_r0.2.2.2.2.2.2.2.2.2.2.2.2.2.1
theorem dX8_stepping_23 : decode cX8_stepping 23 = .ok (.aload_n 0, 1) := dX8_stepping_r0.2.2.2.2.2.2.2.2.2.2.2.2.2.2.1
theorem dX8_stepping_24 : decode cX8_stepping 24 = .ok (.getfield 50, 3) := dX8_stepping_r0.2.2.2.2.2.2.2.2.2.2.2.2.2.2.2.1
theorem dX8_stepping_r27 : zdcP cX8_stepping 27 [(.iload_n 1, 1), (.iaload, 1), (.isub, 1), (.istore 4, 2), (.iload_n 3, 1), (.iconst 3, 1), (.if_icmp .ne 14, 3), (.aload_n 0, 1), (.bipush 40, 2), (.invokevirtual 306, 3), (.iload_n 2, 1), (.iconst 1, 1), (.iadd, 1), (.istore 4, 2), (.iload_n 3, 1), (.iconst 2, 1)] := zdcA_ok (by decide +kernel)
theorem dX8_stepping_27 : decode cX8_stepping 27 = .ok (.iload_n 1, 1) := dX8_stepping_r27.1
theorem dX8_stepping_28 : decode cX8_stepping 28 = .ok (.iaload, 1) := dX8_stepping_r27.2.1
theorem dX8_stepping_29 : decode cX8_stepping 29 = .ok (.isub, 1) := dX8_stepping_r27.2.2.1
theorem dX8_stepping_30 : decode cX8_stepping 30 = .ok (.istore 4, 2) := dX8_stepping_r27.2.2.2.1
theorem dX8_stepping_32 : decode cX8_stepping 32 = .ok (.iload_n 3, 1) := dX8_stepping_r27.2.2.2.2.1
theorem dX8_stepping_33 : decode cX8_stepping 33 = .ok (.iconst 3, 1) := dX8_stepping_r27.2.2.2.2.2.1
theorem dX8_stepping_34 : decode cX8_stepping 34 = .ok (.if_icmp .ne 14, 3) := dX8_stepping_r27.2.2.2.2.2.2.1
theorem dX8_stepping_37 : decode cX8_stepping 37 = .ok (.aload_n 0, 1) := dX8_stepping_r27.2.2.2.2.2.2.2.1
theorem dX8_stepping_38 : decode cX8_stepping 38 = .ok (.bipush 40, 2) := dX8_stepping_r27.2.2.2.2.2.2.2.2.1
theorem dX8_stepping_40 : decode cX8_stepping 40 = .ok (.invokevirtual 306, 3) := dX8_stepping_r27.2.2.2.2.2.2.2.2.2.1
theorem dX8_stepping_43 : decode cX8_stepping 43 = .ok (.iload_n 2, 1) := dX8_stepping_r27.2.2.2.2.2.2.2.2.2.2.1
theorem dX8_stepping_44 : decode cX8_stepping 44 = .ok (.iconst 1, 1) := dX8_stepping_r27.2.2.2.2.2.2.2.2.2.2.2.1
theorem dX8_stepping_45 : decode cX8_stepping 45 = .ok (.iadd, 1) := dX8_stepping_r27.2.2.2.2.2.2.2.2.2.2.2.2.1
theorem dX8_stepping_46 : decode cX8_stepping 46 = .ok (.istore 4, 2) := dX8_stepping_r27.2.2.2.2.2.2.2.2.2.2.2.2.2.1
theorem dX8_stepping_48 : decode cX8_stepping 48 = .ok (.iload_n 3, 1) := dX8_stepping_r27.2.2.2.2.2.2.2.2.2.2.2.2.2.2.1
theorem dX8_stepping_49 : decode cX8_stepping 49 = .ok (.iconst 2, 1) := dX8_stepping_r27.2.2.2.2.2.2.2.2.2.2.2.2.2.2.2.1
theorem dX8_stepping_r50 : zdcP cX8_stepping 50 [(.if_icmp .eq 8, 3), (.iload_n 3, 1), (.iconst 5, 1), (.if_icmp .ne 7, 3), (.iconst 1, 1), (.goto 4, 3), (.iconst 0, 1), (.istore 5, 2), (.iload 5, 2), (.ifCond .eq 9, 3), (.aload_n 0, 1), (.bipush 30, 2), (.invokevirtual 306, 3), (.aload_n 0, 1), (.bipush 11, 2), (.invokevirtual 306, 3)] := zdcA_ok (by decide +kernel)
theorem dX8_stepping_50 : decode cX8_stepping 50 = .ok (.if_icmp .eq 8, 3) := dX8_stepping_r50.1
theorem dX8_stepping_53 : decode cX8_stepping 53 = .ok (.iload_n 3, 1) := dX8_stepping_r50.2.1
theorem dX8_stepping_54 : decode cX8_stepping 54 = .ok (.iconst 5, 1) := dX8_stepping_r50.2.2.1
theorem dX8_stepping_55 : decode cX8_stepping 55 = .ok (.if_icmp .ne 7, 3) := dX8_stepping_r50.2.2.2.1
theorem dX8_stepping_58 : decode cX8_stepping 58 = .ok (.iconst 1, 1) := dX8_stepping_r50.2.2.2.2.1
theorem dX8_stepping_59 : decode cX8_stepping 59 = .ok (.goto 4, 3) := dX8_stepping_r50.2.2.2.2.2.1
theorem dX8_stepping_62 : decode cX8_stepping 62 = .ok (.iconst 0, 1) := dX8_stepping_r50.2.2.2.2.2.2.1
theorem dX8_stepping_63 : decode cX8_stepping 63 = .ok (.istore 5, 2) := dX8_stepping_r50.2.2.2.2.2.2.2.1
theorem dX8_stepping_65 : decode cX8_stepping 65 = .ok (.iload 5, 2) := dX8_stepping_r50.2.2.2.2.2.2.2.2.1
theorem dX8_stepping_67 : decode cX8_stepping 67 = .ok (.ifCond .eq 9, 3) := dX8_stepping_r50.2.2.2.2.2.2.2.2.2.1
theorem dX8_stepping_70 : decode cX8_stepping 70 = .ok (.aload_n 0, 1) := dX8_stepping_r50.2.2.2.2.2.2.2.2.2.2.1
theorem dX8_stepping_71 : decode cX8_stepping 71 = .ok (.bipush 30, 2) := dX8_stepping_r50.2.2.2.2.2.2.2.2.2.2.2.1
theorem dX8_stepping_73 : decode cX8_stepping 73 = .ok (.invokevirtual 306, 3) := dX8_stepping_r50.2.2.2.2.2.2.2.2.2.2.2.2.1
theorem dX8_stepping_76 : decode cX8_stepping 76 = .ok (.aload_n 0, 1) := dX8_stepping_r50.2.2.2.2.2.2.2.2.2.2.2.2.2.1
theorem dX8_stepping_77 : decode cX8_stepping 77 = .ok (.bipush 11, 2) := dX8_stepping_r50.2.2.2.2.2.2.2.2.2.2.2.2.2.2.1
theorem dX8_stepping_79 : decode cX8_stepping 79 = .ok (.invokevirtual 306, 3) := dX8_stepping_r50.2.2.2.2.2.2.2.2.2.2.2.2.2.2.2.1
theorem dX8_stepping_r82 : zdcP cX8_stepping 82 [(.aload_n 0, 1), (.iload_n 1, 1), (.iload 4, 2), (.invokevirtual 309, 3), (.iconst 2, 1), (.imul, 1), (.istore 6, 2), (.iload 5, 2), (.ifCond .eq 10, 3), (.iload 6, 2), (.iconst 3, 1), (.imul, 1), (.goto 5, 3), (.iload 6, 2), (.ireturn, 1)] := zdcA_ok (by decide +kernel)
theorem dX8_stepping_82 : decode cX8_stepping 82 = .ok (.aload_n 0, 1) := dX8_stepping_r82.1
theorem dX8_stepping_83 : decode cX8_stepping 83 = .ok (.iload_n 1, 1) := dX8_stepping_r82.2.1
theorem dX8_stepping_84 : decode cX8_stepping 84 = .ok (.iload 4, 2) := dX8_stepping_r82.2.2.1
theorem dX8_stepping_86 : decode cX8_stepping 86 = .ok (.invokevirtual 309, 3) := dX8_stepping_r82.2.2.2.1
theorem dX8_stepping_89 : decode cX8_stepping 89 = .ok (.iconst 2, 1) := dX8_stepping_r82.2.2.2.2.1
theorem dX8_stepping_90 : decode cX8_stepping 90 = .ok (.imul, 1) := dX8_stepping_r82.2.2.2.2.2.1
theorem dX8_stepping_91 : decode cX8_stepping 91 = .ok (.istore 6, 2) := dX8_stepping_r82.2.2.2.2.2.2.1
theorem dX8_stepping_93 : decode cX8_stepping 93 = .ok (.iload 5, 2) := dX8_stepping_r82.2.2.2.2.2.2.2.1
theorem dX8_stepping_95 : decode cX8_stepping 95 = .ok (.ifCond .eq 10, 3) := dX8_stepping_r82.2.2.2.2.2.2.2.2.1
theorem dX8_stepping_98 : decode cX8_stepping 98 = .ok (.iload 6, 2) := dX8_stepping_r82.2.2.2.2.2.2.2.2.2.1
theorem dX8_stepping_100 : decode cX8_stepping 100 = .ok (.iconst 3, 1) := dX8_stepping_r82.2.2.2.2.2.2.2.2.2.2.1
theorem dX8_stepping_101 : decode cX8_stepping 101 = .ok (.imul, 1) := dX8_stepping_r82.2.2.2.2.2.2.2.2.2.2.2.1
theorem dX8_stepping_102 : decode cX8_stepping 102 = .ok (.goto 5, 3) := dX8_stepping_r82.2.2.2.2.2.2.2.2.2.2.2.2.1
theorem dX8_stepping_105 : decode cX8_stepping 105 = .ok (.iload 6, 2) := dX8_stepping_r82.2.2.2.2.2.2.2.2.2.2.2.2.2.1
theorem dX8_stepping_107 : decode cX8_stepping 107 = .ok (.ireturn, 1) := dX8_stepping_r82.2.2.2.2.2.2.2.2.2.2.2.2.2.2.1
def wq_204_76 (v1 : Int32) (v2 : Int32) (v4 : Int32) (v5 : Int32) (m : zf_Me) (Q : Int32 → zf_Me → Prop) : Prop := wp_202 11 m (fun m2 => wp_203 v1 v4 m2 (fun x3 m4 => ((v5.toInt = 0 → Q (x3 * 2) m4) ∧ (¬ v5.toInt = 0 → Q ((x3 * 2) * 3) m4))))
theorem zq_204_76 {d : Nat} (hd : 2 ≤ d) {v1 : Int32} {v2 : Int32} {Q : Int32 → zf_Me → Prop} {v4 : Int32} {v5 : Int32} {m : zf_Me} (h : wq_204_76 v1 v2 v4 v5 m Q) : zf_W none 0 0 d zt_204 76 [some (.inr (.inr (1, 63))), some (.inl v1), none, none, some (.inl v4), some (.inl v5), none] [] m (zf_I Q) := by
  obtain ⟨e, rfl⟩ : ∃ z, d = z + 1 := ⟨d - 1, by omega⟩
  unfold wq_204_76 at h
  refine zf_ld (pc' := 77) (v := .inr (.inr (1, 63))) dX8_stepping_76 rfl (fun _ _ _ => rfl) rfl rfl rfl ?_
  refine zf_bi (v := 11) (pc' := 79) dX8_stepping_77 rfl rfl ?_
  refine zf_iv (k := 202) (pc' := 82) (r := []) dX8_stepping_79 rfl rfl rfl rfl (by decide) rfl rfl rfl (zr_202 (by omega) h) (zf_kO (fun m2 h => ?_))
  refine zf_ld (pc' := 83) (v := .inr (.inr (1, 63))) dX8_stepping_82 rfl (fun _ _ _ => rfl) rfl rfl rfl ?_
  refine zf_ld (pc' := 84) (v := .inl v1) dX8_stepping_83 rfl (fun _ _ _ => rfl) rfl rfl rfl ?_
  refine zf_ld (pc' := 86) (v := .inl v4) dX8_stepping_84 rfl (fun _ _ _ => rfl) rfl rfl rfl ?_
  refine zf_iv (k := 203) (pc' := 89) (r := []) dX8_stepping_86 rfl rfl rfl rfl (by decide) rfl rfl rfl (zr_203 (by omega) h) (zf_kI (fun x3 m4 h => ?_))
  refine zf_ic (v := 2) (pc' := 90) dX8_stepping_89 rfl rfl ?_
  refine zf_in (pc' := 91) (S' := [.inl (x3 * 2)]) dX8_stepping_90 rfl (fun _ _ _ => rfl) ?_
  refine zf_st (pc' := 93) (L2 := [some (.inr (.inr (1, 63))), some (.inl v1), none, none, some (.inl v4), some (.inl v5), some (.inl (x3 * 2))]) dX8_stepping_91 rfl (fun _ _ _ => rfl) rfl rfl rfl rfl rfl rfl ?_
  refine zf_ld (pc' := 95) (v := .inl v5) dX8_stepping_93 rfl (fun _ _ _ => rfl) rfl rfl rfl ?_
  refine zf_if_eq (tgt := 105) (pc' := 98) dX8_stepping_95 rfl rfl (fun g => ?_) (fun g => ?_)
  · replace h := h.1 g
    refine zf_ld (pc' := 107) (v := .inl (x3 * 2)) dX8_stepping_105 rfl (fun _ _ _ => rfl) rfl rfl rfl ?_
    exact zf_ri dX8_stepping_107 rfl h
  · replace h := h.2 g
    refine zf_ld (pc' := 100) (v := .inl (x3 * 2)) dX8_stepping_98 rfl (fun _ _ _ => rfl) rfl rfl rfl ?_
    refine zf_ic (v := 3) (pc' := 101) dX8_stepping_100 rfl rfl ?_
    refine zf_in (pc' := 102) (S' := [.inl ((x3 * 2) * 3)]) dX8_stepping_101 rfl (fun _ _ _ => rfl) ?_
    refine zf_goto (tgt := 107) dX8_stepping_102 rfl ?_
    exact zf_ri dX8_stepping_107 rfl h
def wq_204_63 (v1 : Int32) (v2 : Int32) (v4 : Int32) (u0 : Int32) (m : zf_Me) (Q : Int32 → zf_Me → Prop) : Prop := ((u0.toInt = 0 → wq_204_76 v1 v2 v4 u0 m Q) ∧ (¬ u0.toInt = 0 → wp_202 30 m (fun m6 => wq_204_76 v1 v2 v4 u0 m6 Q)))
theorem zq_204_63 {d : Nat} (hd : 2 ≤ d) {v1 : Int32} {v2 : Int32} {Q : Int32 → zf_Me → Prop} {v4 : Int32} {u0 : Int32} {m : zf_Me} (h : wq_204_63 v1 v2 v4 u0 m Q) : zf_W none 0 0 d zt_204 63 [some (.inr (.inr (1, 63))), some (.inl v1), none, none, some (.inl v4), none, none] [.inl u0] m (zf_I Q) := by
  obtain ⟨e, rfl⟩ : ∃ z, d = z + 1 := ⟨d - 1, by omega⟩
  unfold wq_204_63 at h
  refine zf_st (pc' := 65) (L2 := [some (.inr (.inr (1, 63))), some (.inl v1), none, none, some (.inl v4), some (.inl u0), none]) dX8_stepping_63 rfl (fun _ _ _ => rfl) rfl rfl rfl rfl rfl rfl ?_
  refine zf_ld (pc' := 67) (v := .inl u0) dX8_stepping_65 rfl (fun _ _ _ => rfl) rfl rfl rfl ?_
  refine zf_if_eq (tgt := 76) (pc' := 70) dX8_stepping_67 rfl rfl (fun g => ?_) (fun g => ?_)
  · replace h := h.1 g
    exact zf_lo (zq_204_76 (by omega) h) ⟨rfl, rfl, rfl, rfl, trivial⟩
  · replace h := h.2 g
    refine zf_ld (pc' := 71) (v := .inr (.inr (1, 63))) dX8_stepping_70 rfl (fun _ _ _ => rfl) rfl rfl rfl ?_
    refine zf_bi (v := 30) (pc' := 73) dX8_stepping_71 rfl rfl ?_
    refine zf_iv (k := 202) (pc' := 76) (r := []) dX8_stepping_73 rfl rfl rfl rfl (by decide) rfl rfl rfl (zr_202 (by omega) h) (zf_kO (fun m6 h => ?_))
    exact zf_lo (zq_204_76 (by omega) h) ⟨rfl, rfl, rfl, rfl, trivial⟩
def wq_204_58 (v1 : Int32) (v2 : Int32) (v4 : Int32) (m : zf_Me) (Q : Int32 → zf_Me → Prop) : Prop := wq_204_63 v1 v2 v4 1 m Q
theorem zq_204_58 {d : Nat} (hd : 2 ≤ d) {v1 : Int32} {v2 : Int32} {Q : Int32 → zf_Me → Prop} {v4 : Int32} {m : zf_Me} (h : wq_204_58 v1 v2 v4 m Q) : zf_W none 0 0 d zt_204 58 [some (.inr (.inr (1, 63))), some (.inl v1), none, none, some (.inl v4), none, none] [] m (zf_I Q) := by
  unfold wq_204_58 at h
  refine zf_ic (v := 1) (pc' := 59) dX8_stepping_58 rfl rfl ?_
  refine zf_goto (tgt := 63) dX8_stepping_59 rfl ?_
  exact zf_lo (zq_204_63 (by omega) h) ⟨rfl, rfl, rfl, trivial⟩
def wq_204_48 (v1 : Int32) (v2 : Int32) (v3 : Int32) (v4 : Int32) (m : zf_Me) (Q : Int32 → zf_Me → Prop) : Prop := ((v3.toInt = 2 → wq_204_58 v1 v2 v4 m Q) ∧ (¬ v3.toInt = 2 → ((¬ v3.toInt = 5 → wq_204_63 v1 v2 v4 0 m Q) ∧ (v3.toInt = 5 → wq_204_58 v1 v2 v4 m Q))))
theorem zq_204_48 {d : Nat} (hd : 2 ≤ d) {v1 : Int32} {v2 : Int32} {Q : Int32 → zf_Me → Prop} {v3 : Int32} {v4 : Int32} {m : zf_Me} (h : wq_204_48 v1 v2 v3 v4 m Q) : zf_W none 0 0 d zt_204 48 [some (.inr (.inr (1, 63))), some (.inl v1), none, some (.inl v3), some (.inl v4), none, none] [] m (zf_I Q) := by
  unfold wq_204_48 at h
  refine zf_ld (pc' := 49) (v := .inl v3) dX8_stepping_48 rfl (fun _ _ _ => rfl) rfl rfl rfl ?_
  refine zf_ic (v := 2) (pc' := 50) dX8_stepping_49 rfl rfl ?_
  refine zf_icmp_eq (tgt := 58) (pc' := 53) dX8_stepping_50 rfl rfl (fun g => ?_) (fun g => ?_)
  · replace h := h.1 g
    exact zf_lo (zq_204_58 (by omega) h) ⟨rfl, rfl, rfl, trivial⟩
  · replace h := h.2 g
    refine zf_ld (pc' := 54) (v := .inl v3) dX8_stepping_53 rfl (fun _ _ _ => rfl) rfl rfl rfl ?_
    refine zf_ic (v := 5) (pc' := 55) dX8_stepping_54 rfl rfl ?_
    refine zf_icmp_ne (tgt := 62) (pc' := 58) dX8_stepping_55 rfl rfl (fun g => ?_) (fun g => ?_)
    · replace h := h.1 g
      refine zf_ic (v := 0) (pc' := 63) dX8_stepping_62 rfl rfl ?_
      exact zf_lo (zq_204_63 (by omega) h) ⟨rfl, rfl, rfl, trivial⟩
    · replace h := h.2 g
      exact zf_lo (zq_204_58 (by omega) h) ⟨rfl, rfl, rfl, trivial⟩
def wq_204_32 (v1 : Int32) (v2 : Int32) (v3 : Int32) (v4 : Int32) (m : zf_Me) (Q : Int32 → zf_Me → Prop) : Prop := ((¬ v3.toInt = 3 → wq_204_48 v1 v2 v3 v4 m Q) ∧ (v3.toInt = 3 → wp_202 40 m (fun m8 => wq_204_48 v1 v2 v3 (v2 + 1) m8 Q)))
theorem zq_204_32 {d : Nat} (hd : 2 ≤ d) {v1 : Int32} {v2 : Int32} {Q : Int32 → zf_Me → Prop} {v3 : Int32} {v4 : Int32} {m : zf_Me} (h : wq_204_32 v1 v2 v3 v4 m Q) : zf_W none 0 0 d zt_204 32 [some (.inr (.inr (1, 63))), some (.inl v1), some (.inl v2), some (.inl v3), some (.inl v4), none, none] [] m (zf_I Q) := by
  obtain ⟨e, rfl⟩ : ∃ z, d = z + 1 := ⟨d - 1, by omega⟩
  unfold wq_204_32 at h
  refine zf_ld (pc' := 33) (v := .inl v3) dX8_stepping_32 rfl (fun _ _ _ => rfl) rfl rfl rfl ?_
  refine zf_ic (v := 3) (pc' := 34) dX8_stepping_33 rfl rfl ?_
  refine zf_icmp_ne (tgt := 48) (pc' := 37) dX8_stepping_34 rfl rfl (fun g => ?_) (fun g => ?_)
  · replace h := h.1 g
    exact zf_lo (zq_204_48 (by omega) h) ⟨rfl, rfl, rfl, rfl, trivial⟩
  · replace h := h.2 g
    refine zf_ld (pc' := 38) (v := .inr (.inr (1, 63))) dX8_stepping_37 rfl (fun _ _ _ => rfl) rfl rfl rfl ?_
    refine zf_bi (v := 40) (pc' := 40) dX8_stepping_38 rfl rfl ?_
    refine zf_iv (k := 202) (pc' := 43) (r := []) dX8_stepping_40 rfl rfl rfl rfl (by decide) rfl rfl rfl (zr_202 (by omega) h) (zf_kO (fun m8 h => ?_))
    refine zf_ld (pc' := 44) (v := .inl v2) dX8_stepping_43 rfl (fun _ _ _ => rfl) rfl rfl rfl ?_
    refine zf_ic (v := 1) (pc' := 45) dX8_stepping_44 rfl rfl ?_
    refine zf_in (pc' := 46) (S' := [.inl (v2 + 1)]) dX8_stepping_45 rfl (fun _ _ _ => rfl) ?_
    refine zf_st (pc' := 48) (L2 := [some (.inr (.inr (1, 63))), some (.inl v1), some (.inl v2), some (.inl v3), some (.inl (v2 + 1)), none, none]) dX8_stepping_46 rfl (fun _ _ _ => rfl) rfl rfl rfl rfl rfl rfl ?_
    exact zf_lo (zq_204_48 (by omega) h) ⟨rfl, rfl, rfl, rfl, trivial⟩
def wp_204 (v1 : Int32) (v2 : Int32) (m : zf_Me) (Q : Int32 → zf_Me → Prop) : Prop := ((0 ≤ (Int32.toInt v1) ∧ (Int32.toInt v1) < (6 : Int)) ∧ ((¬ ((m.1 67 (Int32.toInt v1).toNat)).toInt = 6 → wq_204_32 v1 v2 (m.1 67 (Int32.toInt v1).toNat) v2 m Q) ∧ (((m.1 67 (Int32.toInt v1).toNat)).toInt = 6 → wp_202 71 m (fun m10 => ((0 ≤ (Int32.toInt v1) ∧ (Int32.toInt v1) < (6 : Int)) ∧ wq_204_32 v1 v2 (m.1 67 (Int32.toInt v1).toNat) (v2 - (m10.1 68 (Int32.toInt v1).toNat)) m10 Q)))))
theorem zr_204 {d : Nat} (hd : 2 ≤ d) {v1 : Int32} {v2 : Int32} {Q : Int32 → zf_Me → Prop} {m : zf_Me} (h : wp_204 v1 v2 m Q) : zf_M d 204 [.inr (.inr (1, 63)), .inl v1, .inl v2] m (zf_I Q) := by
  obtain ⟨e, rfl⟩ : ∃ z, d = z + 1 := ⟨d - 1, by omega⟩
  unfold wp_204 at h
  refine zf_M_of (Nat.le_of_ble_eq_true rfl) zm_204 (L := [some (.inr (.inr (1, 63))), some (.inl v1), some (.inl v2), none, none, none, none]) rfl ?_
  refine zf_ld (pc' := 1) (v := .inr (.inr (1, 63))) dX8_stepping_0 rfl (fun _ _ _ => rfl) rfl rfl rfl ?_
  refine zf_gfr (pc' := 4) (b := 67) dX8_stepping_1 rfl rfl (by decide) rfl rfl ?_
  refine zf_ld (pc' := 5) (v := .inl v1) dX8_stepping_4 rfl (fun _ _ _ => rfl) rfl rfl rfl ?_
  refine zf_ial (pc' := 6) dX8_stepping_5 rfl (⟨by decide, rfl⟩ : zf_arr 67 6).1 (⟨by decide, rfl⟩ : zf_arr 67 6).2 h.1 rfl ?_
  replace h := h.2
  refine zf_st (pc' := 7) (L2 := [some (.inr (.inr (1, 63))), some (.inl v1), some (.inl v2), some (.inl (m.1 67 (Int32.toInt v1).toNat)), none, none, none]) dX8_stepping_6 rfl (fun _ _ _ => rfl) rfl rfl rfl rfl rfl rfl ?_
  refine zf_ld (pc' := 8) (v := .inl v2) dX8_stepping_7 rfl (fun _ _ _ => rfl) rfl rfl rfl ?_
  refine zf_st (pc' := 10) (L2 := [some (.inr (.inr (1, 63))), some (.inl v1), some (.inl v2), some (.inl (m.1 67 (Int32.toInt v1).toNat)), some (.inl v2), none, none]) dX8_stepping_8 rfl (fun _ _ _ => rfl) rfl rfl rfl rfl rfl rfl ?_
  refine zf_ld (pc' := 11) (v := .inl (m.1 67 (Int32.toInt v1).toNat)) dX8_stepping_10 rfl (fun _ _ _ => rfl) rfl rfl rfl ?_
  refine zf_bi (v := 6) (pc' := 13) dX8_stepping_11 rfl rfl ?_
  refine zf_icmp_ne (tgt := 32) (pc' := 16) dX8_stepping_13 rfl rfl (fun g => ?_) (fun g => ?_)
  · replace h := h.1 g
    exact zf_lo (zq_204_32 (by omega) h) ⟨rfl, rfl, rfl, rfl, rfl, trivial⟩
  · replace h := h.2 g
    refine zf_ld (pc' := 17) (v := .inr (.inr (1, 63))) dX8_stepping_16 rfl (fun _ _ _ => rfl) rfl rfl rfl ?_
    refine zf_bi (v := 71) (pc' := 19) dX8_stepping_17 rfl rfl ?_
    refine zf_iv (k := 202) (pc' := 22) (r := []) dX8_stepping_19 rfl rfl rfl rfl (by decide) rfl rfl rfl (zr_202 (by omega) h) (zf_kO (fun m10 h => ?_))
    refine zf_ld (pc' := 23) (v := .inl v2) dX8_stepping_22 rfl (fun _ _ _ => rfl) rfl rfl rfl ?_
    refine zf_ld (pc' := 24) (v := .inr (.inr (1, 63))) dX8_stepping_23 rfl (fun _ _ _ => rfl) rfl rfl rfl ?_
    refine zf_gfr (pc' := 27) (b := 68) dX8_stepping_24 rfl rfl (by decide) rfl rfl ?_
    refine zf_ld (pc' := 28) (v := .inl v1) dX8_stepping_27 rfl (fun _ _ _ => rfl) rfl rfl rfl ?_
    refine zf_ial (pc' := 29) dX8_stepping_28 rfl (⟨by decide, rfl⟩ : zf_arr 68 6).1 (⟨by decide, rfl⟩ : zf_arr 68 6).2 h.1 rfl ?_
    replace h := h.2
    refine zf_in (pc' := 30) (S' := [.inl (v2 - (m10.1 68 (Int32.toInt v1).toNat))]) dX8_stepping_29 rfl (fun _ _ _ => rfl) ?_
    refine zf_st (pc' := 32) (L2 := [some (.inr (.inr (1, 63))), some (.inl v1), some (.inl v2), some (.inl (m.1 67 (Int32.toInt v1).toNat)), some (.inl (v2 - (m10.1 68 (Int32.toInt v1).toNat))), none, none]) dX8_stepping_30 rfl (fun _ _ _ => rfl) rfl rfl rfl rfl rfl rfl ?_
    exact zf_lo (zq_204_32 (by omega) h) ⟨rfl, rfl, rfl, rfl, rfl, trivial⟩
def zt_205 : zx_MT := (8, yX8_resting, cX8_resting, 5, (some FieldType.int), 2, 0)
theorem zm_205 : zx_m 205 = zt_205 := rfl
theorem dX8_resting_r0 : zdcP cX8_resting 0 [(.aload_n 0, 1), (.getfield 47, 3), (.iload_n 1, 1), (.iaload, 1), (.istore_n 3, 1), (.iload_n 3, 1), (.iconst 4, 1), (.if_icmp .eq 9, 3), (.iload_n 3, 1), (.bipush 6, 2), (.if_icmp .ne 9, 3), (.aload_n 0, 1), (.bipush 50, 2), (.invokevirtual 306, 3), (.iload_n 3, 1), (.iconst 5, 1)] := zdcA_ok (by decide +kernel)
theorem dX8_resting_0 : decode cX8_resting 0 = .ok (.aload_n 0, 1) := dX8_resting_r0.1
theorem dX8_resting_1 : decode cX8_resting 1 = .ok (.getfield 47, 3) := dX8_resting_r0.2.1
theorem dX8_resting_4 : decode cX8_resting 4 = .ok (.iload_n 1, 1) := dX8_resting_r0.2.2.1
theorem dX8_resting_5 : decode cX8_resting 5 = .ok (.iaload, 1) := dX8_resting_r0.2.2.2.1
theorem dX8_resting_6 : decode cX8_resting 6 = .ok (.istore_n 3, 1) := dX8_resting_r0.2.2.2.2.1
theorem dX8_resting_7 : decode cX8_resting 7 = .ok (.iload_n 3, 1) := dX8_resting_r0.2.2.2.2.2.1
theorem dX8_resting_8 : decode cX8_resting 8 = .ok (.iconst 4, 1) := dX8_resting_r0.2.2.2.2.2.2.1
theorem dX8_resting_9 : decode cX8_resting 9 = .ok (.if_icmp .eq 9, 3) := dX8_resting_r0.2.2.2.2.2.2.2.1
theorem dX8_resting_12 : decode cX8_resting 12 = .ok (.iload_n 3, 1) := dX8_resting_r0.2.2.2.2.2.2.2.2.1
theorem dX8_resting_13 : decode cX8_resting 13 = .ok (.bipush 6, 2) := dX8_resting_r0.2.2.2.2.2.2.2.2.2.1
theorem dX8_resting_15 : decode cX8_resting 15 = .ok (.if_icmp .ne 9, 3) := dX8_resting_r0.2.2.2.2.2.2.2.2.2.2.1
theorem dX8_resting_18 : decode cX8_resting 18 = .ok (.aload_n 0, 1) := dX8_resting_r0.2.2.2.2.2.2.2.2.2.2.2.1
theorem dX8_resting_19 : decode cX8_resting 19 = .ok (.bipush 50, 2) := dX8_resting_r0.2.2.2.2.2.2.2.2.2.2.2.2.1
theorem dX8_resting_21 : decode cX8_resting 21 = .ok (.invokevirtual 306, 3) := dX8_resting_r0.2.2.2.2.2.2.2.2.2.2.2.2.2.1
theorem dX8_resting_24 : decode cX8_resting 24 = .ok (.iload_n 3, 1) := dX8_resting_r0.2.2.2.2.2.2.2.2.2.2.2.2.2.2.1
theorem dX8_resting_25 : decode cX8_resting 25 = .ok (.iconst 5, 1) := dX8_resting_r0.2.2.2.2.2.2.2.2.2.2.2.2.2.2.2.1
theorem dX8_resting_r26 : zdcP cX8_resting 26 [(.if_icmp .ne 9, 3), (.aload_n 0, 1), (.bipush 60, 2), (.invokevirtual 306, 3), (.aload_n 0, 1), (.bipush 12, 2), (.invokevirtual 306, 3), (.aload_n 0, 1), (.iload_n 1, 1), (.iload_n 2, 1), (.invokevirtual 312, 3), (.istore 4, 2), (.iload 4, 2), (.aload_n 0, 1), (.iload_n 1, 1), (.iload_n 2, 1)] := zdcA_ok (by decide +kernel)
theorem dX8_resting_26 : decode cX8_resting 26 = .ok (.if_icmp .ne 9, 3) := dX8_resting_r26.1
theorem dX8_resting_29 : decode cX8_resting 29 = .ok (.aload_n 0, 1) := dX8_resting_r26.2.1
theorem dX8_resting_30 : decode cX8_resting 30 = .ok (.bipush 60, 2) := dX8_resting_r26.2.2.1
theorem dX8_resting_32 : decode cX8_resting 32 = .ok (.invokevirtual 306, 3) := dX8_resting_r26.2.2.2.1
theorem dX8_resting_35 : decode cX8_resting 35 = .ok (.aload_n 0, 1) := dX8_resting_r26.2.2.2.2.1
theorem dX8_resting_36 : decode cX8_resting 36 = .ok (.bipush 12, 2) := dX8_resting_r26.2.2.2.2.2.1
theorem dX8_resting_38 : decode cX8_resting 38 = .ok (.invokevirtual 306, 3) := dX8_resting_r26.2.2.2.2.2.2.1
theorem dX8_resting_41 : decode cX8_resting 41 = .ok (.aload_n 0, 1) := dX8_resting_r26.2.2.2.2.2.2.2.1
theorem dX8_resting_42 : decode cX8_resting 42 = .ok (.iload_n 1, 1) := dX8_resting_r26.2.2.2.2.2.2.2.2.1
theorem dX8_resting_43 : decode cX8_resting 43 = .ok (.iload_n 2, 1) := dX8_resting_r26.2.2.2.2.2.2.2.2.2.1
theorem dX8_resting_44 : decode cX8_resting 44 = .ok (.invokevirtual 312, 3) := dX8_resting_r26.2.2.2.2.2.2.2.2.2.2.1
theorem dX8_resting_47 : decode cX8_resting 47 = .ok (.istore 4, 2) := dX8_resting_r26.2.2.2.2.2.2.2.2.2.2.2.1
theorem dX8_resting_49 : decode cX8_resting 49 = .ok (.iload 4, 2) := dX8_resting_r26.2.2.2.2.2.2.2.2.2.2.2.2.1
theorem dX8_resting_51 : decode cX8_resting 51 = .ok (.aload_n 0, 1) := dX8_resting_r26.2.2.2.2.2.2.2.2.2.2.2.2.2.1
theorem dX8_resting_52 : decode cX8_resting 52 = .ok (.iload_n 1, 1) := dX8_resting_r26.2.2.2.2.2.2.2.2.2.2.2.2.2.2.1
theorem dX8_resting_53 : decode cX8_resting 53 = .ok (.iload_n 2, 1) := dX8_resting_r26.2.2.2.2.2.2.2.2.2.2.2.2.2.2.2.1
theorem dX8_resting_r54 : zdcP cX8_resting 54 [(.aload_n 0, 1), (.getfield 50, 3), (.iload_n 1, 1), (.iaload, 1), (.isub, 1), (.invokevirtual 309, 3), (.ixor, 1), (.istore 4, 2), (.iload_n 3, 1), (.iconst 4, 1), (.if_icmp .eq 9, 3), (.iload_n 3, 1), (.bipush 6, 2), (.if_icmp .ne 9, 3), (.iload 4, 2), (.ineg, 1)] := zdcA_ok (by decide +kernel)
theorem dX8_resting_54 : decode cX8_resting 54 = .ok (.aload_n 0, 1) := dX8_resting_r54.1
theorem dX8_resting_55 : decode cX8_resting 55 = .ok (.getfield 50, 3) := dX8_resting_r54.2.1
theorem dX8_resting_58 : decode cX8_resting 58 = .ok (.iload_n 1, 1) := dX8_resting_r54.2.2.1
theorem dX8_resting_59 : decode cX8_resting 59 = .ok (.iaload, 1) := dX8_resting_r54.2.2.2.1
theorem dX8_resting_60 : decode cX8_resting 60 = .ok (.isub, 1) := dX8_resting_r54.2.2.2.2.1
theorem dX8_resting_61 : decode cX8_resting 61 = .ok (.invokevirtual 309, 3) := dX8_resting_r54.2.2.2.2.2.1
theorem dX8_resting_64 : decode cX8_resting 64 = .ok (.ixor, 1) := dX8_resting_r54.2.2.2.2.2.2.1
theorem dX8_resting_65 : decode cX8_resting 65 = .ok (.istore 4, 2) := dX8_resting_r54.2.2.2.2.2.2.2.1
theorem dX8_resting_67 : decode cX8_resting 67 = .ok (.iload_n 3, 1) := dX8_resting_r54.2.2.2.2.2.2.2.2.1
theorem dX8_resting_68 : decode cX8_resting 68 = .ok (.iconst 4, 1) := dX8_resting_r54.2.2.2.2.2.2.2.2.2.1
theorem dX8_resting_69 : decode cX8_resting 69 = .ok (.if_icmp .eq 9, 3) := dX8_resting_r54.2.2.2.2.2.2.2.2.2.2.1
theorem dX8_resting_72 : decode cX8_resting 72 = .ok (.iload_n 3, 1) := dX8_resting_r54.2.2.2.2.2.2.2.2.2.2.2.1
theorem dX8_resting_73 : decode cX8_resting 73 = .ok (.bipush 6, 2) := dX8_resting_r54.2.2.2.2.2.2.2.2.2.2.2.2.1
theorem dX8_resting_75 : decode cX8_resting 75 = .ok (.if_icmp .ne 9, 3) := dX8_resting_r54.2.2.2.2.2.2.2.2.2.2.2.2.2.1
theorem dX8_resting_78 : decode cX8_resting 78 = .ok (.iload 4, 2) := dX8_resting_r54.2.2.2.2.2.2.2.2.2.2.2.2.2.2.1
theorem dX8_resting_80 : decode cX8_resting 80 = .ok (.ineg, 1) := dX8_resting_r54.2.2.2.2.2.2.2.2.2.2.2.2.2.2.2.1
theorem dX8_resting_r81 : zdcP cX8_resting 81 [(.goto 17, 3), (.iload_n 3, 1), (.iconst 5, 1), (.if_icmp .ne 10, 3), (.iload 4, 2), (.iconst 5, 1), (.ixor, 1), (.goto 5, 3), (.iload 4, 2), (.ireturn, 1)] := zdcA_ok (by decide +kernel)
theorem dX8_resting_81 : decode cX8_resting 81 = .ok (.goto 17, 3) := dX8_resting_r81.1
theorem dX8_resting_84 : decode cX8_resting 84 = .ok (.iload_n 3, 1) := dX8_resting_r81.2.1
theorem dX8_resting_85 : decode cX8_resting 85 = .ok (.iconst 5, 1) := dX8_resting_r81.2.2.1
theorem dX8_resting_86 : decode cX8_resting 86 = .ok (.if_icmp .ne 10, 3) := dX8_resting_r81.2.2.2.1
theorem dX8_resting_89 : decode cX8_resting 89 = .ok (.iload 4, 2) := dX8_resting_r81.2.2.2.2.1
theorem dX8_resting_91 : decode cX8_resting 91 = .ok (.iconst 5, 1) := dX8_resting_r81.2.2.2.2.2.1
theorem dX8_resting_92 : decode cX8_resting 92 = .ok (.ixor, 1) := dX8_resting_r81.2.2.2.2.2.2.1
theorem dX8_resting_93 : decode cX8_resting 93 = .ok (.goto 5, 3) := dX8_resting_r81.2.2.2.2.2.2.2.1
theorem dX8_resting_96 : decode cX8_resting 96 = .ok (.iload 4, 2) := dX8_resting_r81.2.2.2.2.2.2.2.2.1
theorem dX8_resting_98 : decode cX8_resting 98 = .ok (.ireturn, 1) := dX8_resting_r81.2.2.2.2.2.2.2.2.2.1
def wq_205_35 (v1 : Int32) (v2 : Int32) (v3 : Int32) (m : zf_Me) (Q : Int32 → zf_Me → Prop) : Prop := wp_202 12 m (fun m4 => wp_204 v1 v2 m4 (fun x5 m6 => ((0 ≤ (Int32.toInt v1) ∧ (Int32.toInt v1) < (6 : Int)) ∧ wp_203 v1 (v2 - (m6.1 68 (Int32.toInt v1).toNat)) m6 (fun x7 m8 => ((v3.toInt = 4 → Q (-(x5 ^^^ x7)) m8) ∧ (¬ v3.toInt = 4 → ((¬ v3.toInt = 6 → ((¬ v3.toInt = 5 → Q (x5 ^^^ x7) m8) ∧ (v3.toInt = 5 → Q ((x5 ^^^ x7) ^^^ 5) m8))) ∧ (v3.toInt = 6 → Q (-(x5 ^^^ x7)) m8))))))))
theorem zq_205_35 {d : Nat} (hd : 3 ≤ d) {v1 : Int32} {v2 : Int32} {Q : Int32 → zf_Me → Prop} {v3 : Int32} {m : zf_Me} (h : wq_205_35 v1 v2 v3 m Q) : zf_W none 0 0 d zt_205 35 [some (.inr (.inr (1, 63))), some (.inl v1), some (.inl v2), some (.inl v3), none] [] m (zf_I Q) := by
  obtain ⟨e, rfl⟩ : ∃ z, d = z + 1 := ⟨d - 1, by omega⟩
  unfold wq_205_35 at h
  refine zf_ld (pc' := 36) (v := .inr (.inr (1, 63))) dX8_resting_35 rfl (fun _ _ _ => rfl) rfl rfl rfl ?_
  refine zf_bi (v := 12) (pc' := 38) dX8_resting_36 rfl rfl ?_
  refine zf_iv (k := 202) (pc' := 41) (r := []) dX8_resting_38 rfl rfl rfl rfl (by decide) rfl rfl rfl (zr_202 (by omega) h) (zf_kO (fun m4 h => ?_))
  refine zf_ld (pc' := 42) (v := .inr (.inr (1, 63))) dX8_resting_41 rfl (fun _ _ _ => rfl) rfl rfl rfl ?_
  refine zf_ld (pc' := 43) (v := .inl v1) dX8_resting_42 rfl (fun _ _ _ => rfl) rfl rfl rfl ?_
  refine zf_ld (pc' := 44) (v := .inl v2) dX8_resting_43 rfl (fun _ _ _ => rfl) rfl rfl rfl ?_
  refine zf_iv (k := 204) (pc' := 47) (r := []) dX8_resting_44 rfl rfl rfl rfl (by decide) rfl rfl rfl (zr_204 (by omega) h) (zf_kI (fun x5 m6 h => ?_))
  refine zf_st (pc' := 49) (L2 := [some (.inr (.inr (1, 63))), some (.inl v1), some (.inl v2), some (.inl v3), some (.inl x5)]) dX8_resting_47 rfl (fun _ _ _ => rfl) rfl rfl rfl rfl rfl rfl ?_
  refine zf_ld (pc' := 51) (v := .inl x5) dX8_resting_49 rfl (fun _ _ _ => rfl) rfl rfl rfl ?_
  refine zf_ld (pc' := 52) (v := .inr (.inr (1, 63))) dX8_resting_51 rfl (fun _ _ _ => rfl) rfl rfl rfl ?_
  refine zf_ld (pc' := 53) (v := .inl v1) dX8_resting_52 rfl (fun _ _ _ => rfl) rfl rfl rfl ?_
  refine zf_ld (pc' := 54) (v := .inl v2) dX8_resting_53 rfl (fun _ _ _ => rfl) rfl rfl rfl ?_
  refine zf_ld (pc' := 55) (v := .inr (.inr (1, 63))) dX8_resting_54 rfl (fun _ _ _ => rfl) rfl rfl rfl ?_
  refine zf_gfr (pc' := 58) (b := 68) dX8_resting_55 rfl rfl (by decide) rfl rfl ?_
  refine zf_ld (pc' := 59) (v := .inl v1) dX8_resting_58 rfl (fun _ _ _ => rfl) rfl rfl rfl ?_
  refine zf_ial (pc' := 60) dX8_resting_59 rfl (⟨by decide, rfl⟩ : zf_arr 68 6).1 (⟨by decide, rfl⟩ : zf_arr 68 6).2 h.1 rfl ?_
  replace h := h.2
  refine zf_in (pc' := 61) (S' := [.inl (v2 - (m6.1 68 (Int32.toInt v1).toNat)), .inl v1, .inr (.inr (1, 63)), .inl x5]) dX8_resting_60 rfl (fun _ _ _ => rfl) ?_
  refine zf_iv (k := 203) (pc' := 64) (r := [.inl x5]) dX8_resting_61 rfl rfl rfl rfl (by decide) rfl rfl rfl (zr_203 (by omega) h) (zf_kI (fun x7 m8 h => ?_))
  refine zf_in (pc' := 65) (S' := [.inl (x5 ^^^ x7)]) dX8_resting_64 rfl (fun _ _ _ => rfl) ?_
  refine zf_st (pc' := 67) (L2 := [some (.inr (.inr (1, 63))), some (.inl v1), some (.inl v2), some (.inl v3), some (.inl (x5 ^^^ x7))]) dX8_resting_65 rfl (fun _ _ _ => rfl) rfl rfl rfl rfl rfl rfl ?_
  refine zf_ld (pc' := 68) (v := .inl v3) dX8_resting_67 rfl (fun _ _ _ => rfl) rfl rfl rfl ?_
  refine zf_ic (v := 4) (pc' := 69) dX8_resting_68 rfl rfl ?_
  refine zf_icmp_eq (tgt := 78) (pc' := 72) dX8_resting_69 rfl rfl (fun g => ?_) (fun g => ?_)
  · replace h := h.1 g
    refine zf_ld (pc' := 80) (v := .inl (x5 ^^^ x7)) dX8_resting_78 rfl (fun _ _ _ => rfl) rfl rfl rfl ?_
    refine zf_in (pc' := 81) (S' := [.inl (-(x5 ^^^ x7))]) dX8_resting_80 rfl (fun _ _ _ => rfl) ?_
    refine zf_goto (tgt := 98) dX8_resting_81 rfl ?_
    exact zf_ri dX8_resting_98 rfl h
  · replace h := h.2 g
    refine zf_ld (pc' := 73) (v := .inl v3) dX8_resting_72 rfl (fun _ _ _ => rfl) rfl rfl rfl ?_
    refine zf_bi (v := 6) (pc' := 75) dX8_resting_73 rfl rfl ?_
    refine zf_icmp_ne (tgt := 84) (pc' := 78) dX8_resting_75 rfl rfl (fun g => ?_) (fun g => ?_)
    · replace h := h.1 g
      refine zf_ld (pc' := 85) (v := .inl v3) dX8_resting_84 rfl (fun _ _ _ => rfl) rfl rfl rfl ?_
      refine zf_ic (v := 5) (pc' := 86) dX8_resting_85 rfl rfl ?_
      refine zf_icmp_ne (tgt := 96) (pc' := 89) dX8_resting_86 rfl rfl (fun g => ?_) (fun g => ?_)
      · replace h := h.1 g
        refine zf_ld (pc' := 98) (v := .inl (x5 ^^^ x7)) dX8_resting_96 rfl (fun _ _ _ => rfl) rfl rfl rfl ?_
        exact zf_ri dX8_resting_98 rfl h
      · replace h := h.2 g
        refine zf_ld (pc' := 91) (v := .inl (x5 ^^^ x7)) dX8_resting_89 rfl (fun _ _ _ => rfl) rfl rfl rfl ?_
        refine zf_ic (v := 5) (pc' := 92) dX8_resting_91 rfl rfl ?_
        refine zf_in (pc' := 93) (S' := [.inl ((x5 ^^^ x7) ^^^ 5)]) dX8_resting_92 rfl (fun _ _ _ => rfl) ?_
        refine zf_goto (tgt := 98) dX8_resting_93 rfl ?_
        exact zf_ri dX8_resting_98 rfl h
    · replace h := h.2 g
      refine zf_ld (pc' := 80) (v := .inl (x5 ^^^ x7)) dX8_resting_78 rfl (fun _ _ _ => rfl) rfl rfl rfl ?_
      refine zf_in (pc' := 81) (S' := [.inl (-(x5 ^^^ x7))]) dX8_resting_80 rfl (fun _ _ _ => rfl) ?_
      refine zf_goto (tgt := 98) dX8_resting_81 rfl ?_
      exact zf_ri dX8_resting_98 rfl h
def wq_205_24 (v1 : Int32) (v2 : Int32) (v3 : Int32) (m : zf_Me) (Q : Int32 → zf_Me → Prop) : Prop := ((¬ v3.toInt = 5 → wq_205_35 v1 v2 v3 m Q) ∧ (v3.toInt = 5 → wp_202 60 m (fun m10 => wq_205_35 v1 v2 v3 m10 Q)))
theorem zq_205_24 {d : Nat} (hd : 3 ≤ d) {v1 : Int32} {v2 : Int32} {Q : Int32 → zf_Me → Prop} {v3 : Int32} {m : zf_Me} (h : wq_205_24 v1 v2 v3 m Q) : zf_W none 0 0 d zt_205 24 [some (.inr (.inr (1, 63))), some (.inl v1), some (.inl v2), some (.inl v3), none] [] m (zf_I Q) := by
  obtain ⟨e, rfl⟩ : ∃ z, d = z + 1 := ⟨d - 1, by omega⟩
  unfold wq_205_24 at h
  refine zf_ld (pc' := 25) (v := .inl v3) dX8_resting_24 rfl (fun _ _ _ => rfl) rfl rfl rfl ?_
  refine zf_ic (v := 5) (pc' := 26) dX8_resting_25 rfl rfl ?_
  refine zf_icmp_ne (tgt := 35) (pc' := 29) dX8_resting_26 rfl rfl (fun g => ?_) (fun g => ?_)
  · replace h := h.1 g
    exact zf_lo (zq_205_35 (by omega) h) ⟨rfl, rfl, rfl, rfl, trivial⟩
  · replace h := h.2 g
    refine zf_ld (pc' := 30) (v := .inr (.inr (1, 63))) dX8_resting_29 rfl (fun _ _ _ => rfl) rfl rfl rfl ?_
    refine zf_bi (v := 60) (pc' := 32) dX8_resting_30 rfl rfl ?_
    refine zf_iv (k := 202) (pc' := 35) (r := []) dX8_resting_32 rfl rfl rfl rfl (by decide) rfl rfl rfl (zr_202 (by omega) h) (zf_kO (fun m10 h => ?_))
    exact zf_lo (zq_205_35 (by omega) h) ⟨rfl, rfl, rfl, rfl, trivial⟩
def wq_205_18 (v1 : Int32) (v2 : Int32) (v3 : Int32) (m : zf_Me) (Q : Int32 → zf_Me → Prop) : Prop := wp_202 50 m (fun m2 => wq_205_24 v1 v2 v3 m2 Q)
theorem zq_205_18 {d : Nat} (hd : 3 ≤ d) {v1 : Int32} {v2 : Int32} {Q : Int32 → zf_Me → Prop} {v3 : Int32} {m : zf_Me} (h : wq_205_18 v1 v2 v3 m Q) : zf_W none 0 0 d zt_205 18 [some (.inr (.inr (1, 63))), some (.inl v1), some (.inl v2), some (.inl v3), none] [] m (zf_I Q) := by
  obtain ⟨e, rfl⟩ : ∃ z, d = z + 1 := ⟨d - 1, by omega⟩
  unfold wq_205_18 at h
  refine zf_ld (pc' := 19) (v := .inr (.inr (1, 63))) dX8_resting_18 rfl (fun _ _ _ => rfl) rfl rfl rfl ?_
  refine zf_bi (v := 50) (pc' := 21) dX8_resting_19 rfl rfl ?_
  refine zf_iv (k := 202) (pc' := 24) (r := []) dX8_resting_21 rfl rfl rfl rfl (by decide) rfl rfl rfl (zr_202 (by omega) h) (zf_kO (fun m2 h => ?_))
  exact zf_lo (zq_205_24 (by omega) h) ⟨rfl, rfl, rfl, rfl, trivial⟩
def wp_205 (v1 : Int32) (v2 : Int32) (m : zf_Me) (Q : Int32 → zf_Me → Prop) : Prop := ((0 ≤ (Int32.toInt v1) ∧ (Int32.toInt v1) < (6 : Int)) ∧ ((((m.1 67 (Int32.toInt v1).toNat)).toInt = 4 → wq_205_18 v1 v2 (m.1 67 (Int32.toInt v1).toNat) m Q) ∧ (¬ ((m.1 67 (Int32.toInt v1).toNat)).toInt = 4 → ((¬ ((m.1 67 (Int32.toInt v1).toNat)).toInt = 6 → wq_205_24 v1 v2 (m.1 67 (Int32.toInt v1).toNat) m Q) ∧ (((m.1 67 (Int32.toInt v1).toNat)).toInt = 6 → wq_205_18 v1 v2 (m.1 67 (Int32.toInt v1).toNat) m Q)))))
theorem zr_205 {d : Nat} (hd : 3 ≤ d) {v1 : Int32} {v2 : Int32} {Q : Int32 → zf_Me → Prop} {m : zf_Me} (h : wp_205 v1 v2 m Q) : zf_M d 205 [.inr (.inr (1, 63)), .inl v1, .inl v2] m (zf_I Q) := by
  unfold wp_205 at h
  refine zf_M_of (Nat.le_of_ble_eq_true rfl) zm_205 (L := [some (.inr (.inr (1, 63))), some (.inl v1), some (.inl v2), none, none]) rfl ?_
  refine zf_ld (pc' := 1) (v := .inr (.inr (1, 63))) dX8_resting_0 rfl (fun _ _ _ => rfl) rfl rfl rfl ?_
  refine zf_gfr (pc' := 4) (b := 67) dX8_resting_1 rfl rfl (by decide) rfl rfl ?_
  refine zf_ld (pc' := 5) (v := .inl v1) dX8_resting_4 rfl (fun _ _ _ => rfl) rfl rfl rfl ?_
  refine zf_ial (pc' := 6) dX8_resting_5 rfl (⟨by decide, rfl⟩ : zf_arr 67 6).1 (⟨by decide, rfl⟩ : zf_arr 67 6).2 h.1 rfl ?_
  replace h := h.2
  refine zf_st (pc' := 7) (L2 := [some (.inr (.inr (1, 63))), some (.inl v1), some (.inl v2), some (.inl (m.1 67 (Int32.toInt v1).toNat)), none]) dX8_resting_6 rfl (fun _ _ _ => rfl) rfl rfl rfl rfl rfl rfl ?_
  refine zf_ld (pc' := 8) (v := .inl (m.1 67 (Int32.toInt v1).toNat)) dX8_resting_7 rfl (fun _ _ _ => rfl) rfl rfl rfl ?_
  refine zf_ic (v := 4) (pc' := 9) dX8_resting_8 rfl rfl ?_
  refine zf_icmp_eq (tgt := 18) (pc' := 12) dX8_resting_9 rfl rfl (fun g => ?_) (fun g => ?_)
  · replace h := h.1 g
    exact zf_lo (zq_205_18 (by omega) h) ⟨rfl, rfl, rfl, rfl, trivial⟩
  · replace h := h.2 g
    refine zf_ld (pc' := 13) (v := .inl (m.1 67 (Int32.toInt v1).toNat)) dX8_resting_12 rfl (fun _ _ _ => rfl) rfl rfl rfl ?_
    refine zf_bi (v := 6) (pc' := 15) dX8_resting_13 rfl rfl ?_
    refine zf_icmp_ne (tgt := 24) (pc' := 18) dX8_resting_15 rfl rfl (fun g => ?_) (fun g => ?_)
    · replace h := h.1 g
      exact zf_lo (zq_205_24 (by omega) h) ⟨rfl, rfl, rfl, rfl, trivial⟩
    · replace h := h.2 g
      exact zf_lo (zq_205_18 (by omega) h) ⟨rfl, rfl, rfl, rfl, trivial⟩
def zt_206 : zx_MT := (8, yX8_act, cX8_act, 4, (some FieldType.int), 3, 0)
theorem zm_206 : zx_m 206 = zt_206 := rfl
theorem dX8_act_r0 : zdcP cX8_act 0 [(.aload_n 0, 1), (.iconst 0, 1), (.putfield 303, 3), (.aload_n 0, 1), (.iload_n 1, 1), (.invokevirtual 119, 3), (.ifCond .eq 12, 3), (.iload_n 2, 1), (.ifCond .lt 8, 3), (.iload_n 2, 1), (.iconst 2, 1), (.if_icmp .le 5, 3), (.iconst 0, 1), (.ireturn, 1), (.iload_n 2, 1), (.ifCond .ne 12, 3)] := zdcA_ok (by decide +kernel)
theorem dX8_act_0 : decode cX8_act 0 = .ok (.aload_n 0, 1) := dX8_act_r0.1
theorem dX8_act_1 : decode cX8_act 1 = .ok (.iconst 0, 1) := dX8_act_r0.2.1
theorem dX8_act_2 : decode cX8_act 2 = .ok (.putfield 303, 3) := dX8_act_r0.2.2.1
theorem dX8_act_5 : decode cX8_act 5 = .ok (.aload_n 0, 1) := dX8_act_r0.2.2.2.1
theorem dX8_act_6 : decode cX8_act 6 = .ok (.iload_n 1, 1) := dX8_act_r0.2.2.2.2.1
theorem dX8_act_7 : decode cX8_act 7 = .ok (.invokevirtual 119, 3) := dX8_act_r0.2.2.2.2.2.1
theorem dX8_act_10 : decode cX8_act 10 = .ok (.ifCond .eq 12, 3) := dX8_act_r0.2.2.2.2.2.2.1
theorem dX8_act_13 : decode cX8_act 13 = .ok (.iload_n 2, 1) := dX8_act_r0.2.2.2.2.2.2.2.1
theorem dX8_act_14 : decode cX8_act 14 = .ok (.ifCond .lt 8, 3) := dX8_act_r0.2.2.2.2.2.2.2.2.1
theorem dX8_act_17 : decode cX8_act 17 = .ok (.iload_n 2, 1) := dX8_act_r0.2.2.2.2.2.2.2.2.2.1
theorem dX8_act_18 : decode cX8_act 18 = .ok (.iconst 2, 1) := dX8_act_r0.2.2.2.2.2.2.2.2.2.2.1
theorem dX8_act_19 : decode cX8_act 19 = .ok (.if_icmp .le 5, 3) := dX8_act_r0.2.2.2.2.2.2.2.2.2.2.2.1
theorem dX8_act_22 : decode cX8_act 22 = .ok (.iconst 0, 1) := dX8_act_r0.2.2.2.2.2.2.2.2.2.2.2.2.1
theorem dX8_act_23 : decode cX8_act 23 = .ok (.ireturn, 1) := dX8_act_r0.2.2.2.2.2.2.2.2.2.2.2.2.2.1
theorem dX8_act_24 : decode cX8_act 24 = .ok (.iload_n 2, 1) := dX8_act_r0.2.2.2.2.2.2.2.2.2.2.2.2.2.2.1
theorem dX8_act_25 : decode cX8_act 25 = .ok (.ifCond .ne 12, 3) := dX8_act_r0.2.2.2.2.2.2.2.2.2.2.2.2.2.2.2.1
theorem dX8_act_r28 : zdcP cX8_act 28 [(.aload_n 0, 1), (.iload_n 1, 1), (.iload_n 3, 1), (.invokevirtual 309, 3), (.goto 23, 3), (.iload_n 2, 1), (.iconst 1, 1), (.if_icmp .ne 12, 3), (.aload_n 0, 1), (.iload_n 1, 1), (.iload_n 3, 1), (.invokevirtual 312, 3), (.goto 9, 3), (.aload_n 0, 1), (.iload_n 1, 1), (.iload_n 3, 1)] := zdcA_ok (by decide +kernel)
theorem dX8_act_28 : decode cX8_act 28 = .ok (.aload_n 0, 1) := dX8_act_r28.1
theorem dX8_act_29 : decode cX8_act 29 = .ok (.iload_n 1, 1) := dX8_act_r28.2.1
theorem dX8_act_30 : decode cX8_act 30 = .ok (.iload_n 3, 1) := dX8_act_r28.2.2.1
theorem dX8_act_31 : decode cX8_act 31 = .ok (.invokevirtual 309, 3) := dX8_act_r28.2.2.2.1
theorem dX8_act_34 : decode cX8_act 34 = .ok (.goto 23, 3) := dX8_act_r28.2.2.2.2.1
theorem dX8_act_37 : decode cX8_act 37 = .ok (.iload_n 2, 1) := dX8_act_r28.2.2.2.2.2.1
theorem dX8_act_38 : decode cX8_act 38 = .ok (.iconst 1, 1) := dX8_act_r28.2.2.2.2.2.2.1
theorem dX8_act_39 : decode cX8_act 39 = .ok (.if_icmp .ne 12, 3) := dX8_act_r28.2.2.2.2.2.2.2.1
theorem dX8_act_42 : decode cX8_act 42 = .ok (.aload_n 0, 1) := dX8_act_r28.2.2.2.2.2.2.2.2.1
theorem dX8_act_43 : decode cX8_act 43 = .ok (.iload_n 1, 1) := dX8_act_r28.2.2.2.2.2.2.2.2.2.1
theorem dX8_act_44 : decode cX8_act 44 = .ok (.iload_n 3, 1) := dX8_act_r28.2.2.2.2.2.2.2.2.2.2.1
theorem dX8_act_45 : decode cX8_act 45 = .ok (.invokevirtual 312, 3) := dX8_act_r28.2.2.2.2.2.2.2.2.2.2.2.1
theorem dX8_act_48 : decode cX8_act 48 = .ok (.goto 9, 3) := dX8_act_r28.2.2.2.2.2.2.2.2.2.2.2.2.1
theorem dX8_act_51 : decode cX8_act 51 = .ok (.aload_n 0, 1) := dX8_act_r28.2.2.2.2.2.2.2.2.2.2.2.2.2.1
theorem dX8_act_52 : decode cX8_act 52 = .ok (.iload_n 1, 1) := dX8_act_r28.2.2.2.2.2.2.2.2.2.2.2.2.2.2.1
theorem dX8_act_53 : decode cX8_act 53 = .ok (.iload_n 3, 1) := dX8_act_r28.2.2.2.2.2.2.2.2.2.2.2.2.2.2.2.1
theorem dX8_act_r54 : zdcP cX8_act 54 [(.invokevirtual 315, 3), (.ireturn, 1)] := zdcA_ok (by decide +kernel)
theorem dX8_act_54 : decode cX8_act 54 = .ok (.invokevirtual 315, 3) := dX8_act_r54.1
theorem dX8_act_57 : decode cX8_act 57 = .ok (.ireturn, 1) := dX8_act_r54.2.1
def wp_206 (v1 : Int32) (v2 : Int32) (v3 : Int32) (m : zf_Me) (Q : Int32 → zf_Me → Prop) : Prop := (∀ m1, m1 = zf_u m 63 51 0 → wp_128 v1 m1 (fun b3 m4 => ((b3 = false → Q 0 m4) ∧ (b3 = true → ((v2.toInt < 0 → Q 0 m4) ∧ (v2.toInt ≥ 0 → ((v2.toInt ≤ 2 → ((¬ v2.toInt = 0 → ((¬ v2.toInt = 1 → wp_205 v1 v3 m4 (fun x5 m6 => Q x5 m6)) ∧ (v2.toInt = 1 → wp_204 v1 v3 m4 (fun x7 m8 => Q x7 m8)))) ∧ (v2.toInt = 0 → wp_203 v1 v3 m4 (fun x9 m10 => Q x9 m10)))) ∧ (v2.toInt > 2 → Q 0 m4))))))))
theorem zr_206 {d : Nat} (hd : 4 ≤ d) {v1 : Int32} {v2 : Int32} {v3 : Int32} {Q : Int32 → zf_Me → Prop} {m : zf_Me} (h : wp_206 v1 v2 v3 m Q) : zf_M d 206 [.inr (.inr (1, 63)), .inl v1, .inl v2, .inl v3] m (zf_I Q) := by
  obtain ⟨e, rfl⟩ : ∃ z, d = z + 1 := ⟨d - 1, by omega⟩
  unfold wp_206 at h
  refine zf_M_of (Nat.le_of_ble_eq_true rfl) zm_206 (L := [some (.inr (.inr (1, 63))), some (.inl v1), some (.inl v2), some (.inl v3)]) rfl ?_
  refine zf_ld (pc' := 1) (v := .inr (.inr (1, 63))) dX8_act_0 rfl (fun _ _ _ => rfl) rfl rfl rfl ?_
  refine zf_ic (v := 0) (pc' := 2) dX8_act_1 rfl rfl ?_
  refine zf_pf (pc' := 5) dX8_act_2 rfl rfl (by decide) rfl rfl rfl (fun m1 e2 => ?_)
  replace h := h m1 e2
  refine zf_ld (pc' := 6) (v := .inr (.inr (1, 63))) dX8_act_5 rfl (fun _ _ _ => rfl) rfl rfl rfl ?_
  refine zf_ld (pc' := 7) (v := .inl v1) dX8_act_6 rfl (fun _ _ _ => rfl) rfl rfl rfl ?_
  refine zf_iv (k := 128) (pc' := 10) (r := []) dX8_act_7 rfl rfl rfl rfl (by decide) rfl rfl rfl (zr_128 (by omega) h) (zf_kB (fun b3 m4 h => ?_))
  refine zf_ib_eq (tgt := 22) (pc' := 13) dX8_act_10 rfl rfl (fun g => ?_) (fun g => ?_)
  · replace h := h.1 g
    refine zf_ic (v := 0) (pc' := 23) dX8_act_22 rfl rfl ?_
    exact zf_ri dX8_act_23 rfl h
  · replace h := h.2 g
    refine zf_ld (pc' := 14) (v := .inl v2) dX8_act_13 rfl (fun _ _ _ => rfl) rfl rfl rfl ?_
    refine zf_if_lt (tgt := 22) (pc' := 17) dX8_act_14 rfl rfl (fun g => ?_) (fun g => ?_)
    · replace h := h.1 g
      refine zf_ic (v := 0) (pc' := 23) dX8_act_22 rfl rfl ?_
      exact zf_ri dX8_act_23 rfl h
    · replace h := h.2 g
      refine zf_ld (pc' := 18) (v := .inl v2) dX8_act_17 rfl (fun _ _ _ => rfl) rfl rfl rfl ?_
      refine zf_ic (v := 2) (pc' := 19) dX8_act_18 rfl rfl ?_
      refine zf_icmp_le (tgt := 24) (pc' := 22) dX8_act_19 rfl rfl (fun g => ?_) (fun g => ?_)
      · replace h := h.1 g
        refine zf_ld (pc' := 25) (v := .inl v2) dX8_act_24 rfl (fun _ _ _ => rfl) rfl rfl rfl ?_
        refine zf_if_ne (tgt := 37) (pc' := 28) dX8_act_25 rfl rfl (fun g => ?_) (fun g => ?_)
        · replace h := h.1 g
          refine zf_ld (pc' := 38) (v := .inl v2) dX8_act_37 rfl (fun _ _ _ => rfl) rfl rfl rfl ?_
          refine zf_ic (v := 1) (pc' := 39) dX8_act_38 rfl rfl ?_
          refine zf_icmp_ne (tgt := 51) (pc' := 42) dX8_act_39 rfl rfl (fun g => ?_) (fun g => ?_)
          · replace h := h.1 g
            refine zf_ld (pc' := 52) (v := .inr (.inr (1, 63))) dX8_act_51 rfl (fun _ _ _ => rfl) rfl rfl rfl ?_
            refine zf_ld (pc' := 53) (v := .inl v1) dX8_act_52 rfl (fun _ _ _ => rfl) rfl rfl rfl ?_
            refine zf_ld (pc' := 54) (v := .inl v3) dX8_act_53 rfl (fun _ _ _ => rfl) rfl rfl rfl ?_
            refine zf_iv (k := 205) (pc' := 57) (r := []) dX8_act_54 rfl rfl rfl rfl (by decide) rfl rfl rfl (zr_205 (by omega) h) (zf_kI (fun x5 m6 h => ?_))
            exact zf_ri dX8_act_57 rfl h
          · replace h := h.2 g
            refine zf_ld (pc' := 43) (v := .inr (.inr (1, 63))) dX8_act_42 rfl (fun _ _ _ => rfl) rfl rfl rfl ?_
            refine zf_ld (pc' := 44) (v := .inl v1) dX8_act_43 rfl (fun _ _ _ => rfl) rfl rfl rfl ?_
            refine zf_ld (pc' := 45) (v := .inl v3) dX8_act_44 rfl (fun _ _ _ => rfl) rfl rfl rfl ?_
            refine zf_iv (k := 204) (pc' := 48) (r := []) dX8_act_45 rfl rfl rfl rfl (by decide) rfl rfl rfl (zr_204 (by omega) h) (zf_kI (fun x7 m8 h => ?_))
            refine zf_goto (tgt := 57) dX8_act_48 rfl ?_
            exact zf_ri dX8_act_57 rfl h
        · replace h := h.2 g
          refine zf_ld (pc' := 29) (v := .inr (.inr (1, 63))) dX8_act_28 rfl (fun _ _ _ => rfl) rfl rfl rfl ?_
          refine zf_ld (pc' := 30) (v := .inl v1) dX8_act_29 rfl (fun _ _ _ => rfl) rfl rfl rfl ?_
          refine zf_ld (pc' := 31) (v := .inl v3) dX8_act_30 rfl (fun _ _ _ => rfl) rfl rfl rfl ?_
          refine zf_iv (k := 203) (pc' := 34) (r := []) dX8_act_31 rfl rfl rfl rfl (by decide) rfl rfl rfl (zr_203 (by omega) h) (zf_kI (fun x9 m10 h => ?_))
          refine zf_goto (tgt := 57) dX8_act_34 rfl ?_
          exact zf_ri dX8_act_57 rfl h
      · replace h := h.2 g
        refine zf_ic (v := 0) (pc' := 23) dX8_act_22 rfl rfl ?_
        exact zf_ri dX8_act_23 rfl h
def zt_207 : zx_MT := (8, yX8_trace, cX8_trace, 2, (some FieldType.int), 1, 0)
theorem zm_207 : zx_m 207 = zt_207 := rfl
theorem dX8_trace_r0 : zdcP cX8_trace 0 [(.iload_n 1, 1), (.ifCond .lt 26, 3), (.iload_n 1, 1), (.bipush 20, 2), (.if_icmp .ge 20, 3), (.iload_n 1, 1), (.aload_n 0, 1), (.getfield 303, 3), (.if_icmp .ge 12, 3), (.aload_n 0, 1), (.getfield 102, 3), (.iload_n 1, 1), (.iaload, 1), (.goto 4, 3), (.iconst (-1), 1), (.ireturn, 1)] := zdcA_ok (by decide +kernel)
theorem dX8_trace_0 : decode cX8_trace 0 = .ok (.iload_n 1, 1) := dX8_trace_r0.1
theorem dX8_trace_1 : decode cX8_trace 1 = .ok (.ifCond .lt 26, 3) := dX8_trace_r0.2.1
theorem dX8_trace_4 : decode cX8_trace 4 = .ok (.iload_n 1, 1) := dX8_trace_r0.2.2.1
theorem dX8_trace_5 : decode cX8_trace 5 = .ok (.bipush 20, 2) := dX8_trace_r0.2.2.2.1
theorem dX8_trace_7 : decode cX8_trace 7 = .ok (.if_icmp .ge 20, 3) := dX8_trace_r0.2.2.2.2.1
theorem dX8_trace_10 : decode cX8_trace 10 = .ok (.iload_n 1, 1) := dX8_trace_r0.2.2.2.2.2.1
theorem dX8_trace_11 : decode cX8_trace 11 = .ok (.aload_n 0, 1) := dX8_trace_r0.2.2.2.2.2.2.1
theorem dX8_trace_12 : decode cX8_trace 12 = .ok (.getfield 303, 3) := dX8_trace_r0.2.2.2.2.2.2.2.1
theorem dX8_trace_15 : decode cX8_trace 15 = .ok (.if_icmp .ge 12, 3) := dX8_trace_r0.2.2.2.2.2.2.2.2.1
theorem dX8_trace_18 : decode cX8_trace 18 = .ok (.aload_n 0, 1) := dX8_trace_r0.2.2.2.2.2.2.2.2.2.1
theorem dX8_trace_19 : decode cX8_trace 19 = .ok (.getfield 102, 3) := dX8_trace_r0.2.2.2.2.2.2.2.2.2.2.1
theorem dX8_trace_22 : decode cX8_trace 22 = .ok (.iload_n 1, 1) := dX8_trace_r0.2.2.2.2.2.2.2.2.2.2.2.1
theorem dX8_trace_23 : decode cX8_trace 23 = .ok (.iaload, 1) := dX8_trace_r0.2.2.2.2.2.2.2.2.2.2.2.2.1
theorem dX8_trace_24 : decode cX8_trace 24 = .ok (.goto 4, 3) := dX8_trace_r0.2.2.2.2.2.2.2.2.2.2.2.2.2.1
theorem dX8_trace_27 : decode cX8_trace 27 = .ok (.iconst (-1), 1) := dX8_trace_r0.2.2.2.2.2.2.2.2.2.2.2.2.2.2.1
theorem dX8_trace_28 : decode cX8_trace 28 = .ok (.ireturn, 1) := dX8_trace_r0.2.2.2.2.2.2.2.2.2.2.2.2.2.2.2.1
def wp_207 (v1 : Int32) (m : zf_Me) (Q : Int32 → zf_Me → Prop) : Prop := ((v1.toInt < 0 → Q (-1) m) ∧ (v1.toInt ≥ 0 → ((v1.toInt ≥ 20 → Q (-1) m) ∧ (v1.toInt < 20 → ((v1.toInt ≥ ((m.1 63 51)).toInt → Q (-1) m) ∧ (v1.toInt < ((m.1 63 51)).toInt → ((0 ≤ (Int32.toInt v1) ∧ (Int32.toInt v1) < (20 : Int)) ∧ Q (m.1 85 (Int32.toInt v1).toNat) m)))))))
theorem zr_207 {d : Nat} (hd : 0 ≤ d) {v1 : Int32} {Q : Int32 → zf_Me → Prop} {m : zf_Me} (h : wp_207 v1 m Q) : zf_M d 207 [.inr (.inr (1, 63)), .inl v1] m (zf_I Q) := by
  unfold wp_207 at h
  refine zf_M_of (Nat.le_of_ble_eq_true rfl) zm_207 (L := [some (.inr (.inr (1, 63))), some (.inl v1)]) rfl ?_
  refine zf_ld (pc' := 1) (v := .inl v1) dX8_trace_0 rfl (fun _ _ _ => rfl) rfl rfl rfl ?_
  refine zf_if_lt (tgt := 27) (pc' := 4) dX8_trace_1 rfl rfl (fun g => ?_) (fun g => ?_)
  · replace h := h.1 g
    refine zf_ic (v := (-1)) (pc' := 28) dX8_trace_27 rfl rfl ?_
    exact zf_ri dX8_trace_28 rfl h
  · replace h := h.2 g
    refine zf_ld (pc' := 5) (v := .inl v1) dX8_trace_4 rfl (fun _ _ _ => rfl) rfl rfl rfl ?_
    refine zf_bi (v := 20) (pc' := 7) dX8_trace_5 rfl rfl ?_
    refine zf_icmp_ge (tgt := 27) (pc' := 10) dX8_trace_7 rfl rfl (fun g => ?_) (fun g => ?_)
    · replace h := h.1 g
      refine zf_ic (v := (-1)) (pc' := 28) dX8_trace_27 rfl rfl ?_
      exact zf_ri dX8_trace_28 rfl h
    · replace h := h.2 g
      refine zf_ld (pc' := 11) (v := .inl v1) dX8_trace_10 rfl (fun _ _ _ => rfl) rfl rfl rfl ?_
      refine zf_ld (pc' := 12) (v := .inr (.inr (1, 63))) dX8_trace_11 rfl (fun _ _ _ => rfl) rfl rfl rfl ?_
      refine zf_gfi (pc' := 15) dX8_trace_12 rfl rfl (by decide) rfl rfl ?_
      refine zf_icmp_ge (tgt := 27) (pc' := 18) dX8_trace_15 rfl rfl (fun g => ?_) (fun g => ?_)
      · replace h := h.1 g
        refine zf_ic (v := (-1)) (pc' := 28) dX8_trace_27 rfl rfl ?_
        exact zf_ri dX8_trace_28 rfl h
      · replace h := h.2 g
        refine zf_ld (pc' := 19) (v := .inr (.inr (1, 63))) dX8_trace_18 rfl (fun _ _ _ => rfl) rfl rfl rfl ?_
        refine zf_gfr (pc' := 22) (b := 85) dX8_trace_19 rfl rfl (by decide) rfl rfl ?_
        refine zf_ld (pc' := 23) (v := .inl v1) dX8_trace_22 rfl (fun _ _ _ => rfl) rfl rfl rfl ?_
        refine zf_ial (pc' := 24) dX8_trace_23 rfl (⟨by decide, rfl⟩ : zf_arr 85 20).1 (⟨by decide, rfl⟩ : zf_arr 85 20).2 h.1 rfl ?_
        replace h := h.2
        refine zf_goto (tgt := 28) dX8_trace_24 rfl ?_
        exact zf_ri dX8_trace_28 rfl h
def zt_208 : zx_MT := (8, yX8_image, cX8_image, 1, (some FieldType.int), 0, 0)
theorem zm_208 : zx_m 208 = zt_208 := rfl
theorem dX8_image_r0 : zdcP cX8_image 0 [(.aload_n 0, 1), (.iconst 1, 1), (.putfield 318, 3), (.aload_n 0, 1), (.aload_n 0, 1), (.getfield 87, 3), (.iconst 0, 1), (.iconst 0, 1), (.invokevirtual 213, 3), (.aload_n 0, 1), (.getfield 105, 3), (.ireturn, 1)] := zdcA_ok (by decide +kernel)
theorem dX8_image_0 : decode cX8_image 0 = .ok (.aload_n 0, 1) := dX8_image_r0.1
theorem dX8_image_1 : decode cX8_image 1 = .ok (.iconst 1, 1) := dX8_image_r0.2.1
theorem dX8_image_2 : decode cX8_image 2 = .ok (.putfield 318, 3) := dX8_image_r0.2.2.1
theorem dX8_image_5 : decode cX8_image 5 = .ok (.aload_n 0, 1) := dX8_image_r0.2.2.2.1
theorem dX8_image_6 : decode cX8_image 6 = .ok (.aload_n 0, 1) := dX8_image_r0.2.2.2.2.1
theorem dX8_image_7 : decode cX8_image 7 = .ok (.getfield 87, 3) := dX8_image_r0.2.2.2.2.2.1
theorem dX8_image_10 : decode cX8_image 10 = .ok (.iconst 0, 1) := dX8_image_r0.2.2.2.2.2.2.1
theorem dX8_image_11 : decode cX8_image 11 = .ok (.iconst 0, 1) := dX8_image_r0.2.2.2.2.2.2.2.1
theorem dX8_image_12 : decode cX8_image 12 = .ok (.invokevirtual 213, 3) := dX8_image_r0.2.2.2.2.2.2.2.2.1
theorem dX8_image_15 : decode cX8_image 15 = .ok (.aload_n 0, 1) := dX8_image_r0.2.2.2.2.2.2.2.2.2.1
theorem dX8_image_16 : decode cX8_image 16 = .ok (.getfield 105, 3) := dX8_image_r0.2.2.2.2.2.2.2.2.2.2.1
theorem dX8_image_19 : decode cX8_image 19 = .ok (.ireturn, 1) := dX8_image_r0.2.2.2.2.2.2.2.2.2.2.2.1
def wp_208 (m : zf_Me) (Q : Int32 → zf_Me → Prop) : Prop := (∀ m1, m1 = zf_u m 63 52 1 → wp_161 80 90 0 0 m1 (fun m4 => Q (m4.1 63 1) m4))
theorem zr_208 {d : Nat} (hd : 2 ≤ d) {Q : Int32 → zf_Me → Prop} {m : zf_Me} (h : wp_208 m Q) : zf_M d 208 [.inr (.inr (1, 63))] m (zf_I Q) := by
  obtain ⟨e, rfl⟩ : ∃ z, d = z + 1 := ⟨d - 1, by omega⟩
  unfold wp_208 at h
  refine zf_M_of (Nat.le_of_ble_eq_true rfl) zm_208 (L := [some (.inr (.inr (1, 63)))]) rfl ?_
  refine zf_ld (pc' := 1) (v := .inr (.inr (1, 63))) dX8_image_0 rfl (fun _ _ _ => rfl) rfl rfl rfl ?_
  refine zf_ic (v := 1) (pc' := 2) dX8_image_1 rfl rfl ?_
  refine zf_pf (pc' := 5) dX8_image_2 rfl rfl (by decide) rfl rfl rfl (fun m1 e2 => ?_)
  replace h := h m1 e2
  refine zf_ld (pc' := 6) (v := .inr (.inr (1, 63))) dX8_image_5 rfl (fun _ _ _ => rfl) rfl rfl rfl ?_
  refine zf_ld (pc' := 7) (v := .inr (.inr (1, 63))) dX8_image_6 rfl (fun _ _ _ => rfl) rfl rfl rfl ?_
  refine zf_gfr (pc' := 10) (b := 80) dX8_image_7 rfl rfl (by decide) rfl rfl ?_
  refine zf_ic (v := 0) (pc' := 11) dX8_image_10 rfl rfl ?_
  refine zf_ic (v := 0) (pc' := 12) dX8_image_11 rfl rfl ?_
  refine zf_iv (k := 161) (pc' := 15) (r := []) dX8_image_12 rfl rfl rfl rfl (by decide) rfl rfl rfl (zr_161 (by omega) (⟨by decide, rfl⟩ : zf_arr 80 90) h) (zf_kO (fun m4 h => ?_))
  refine zf_ld (pc' := 16) (v := .inr (.inr (1, 63))) dX8_image_15 rfl (fun _ _ _ => rfl) rfl rfl rfl ?_
  refine zf_gfi (pc' := 19) dX8_image_16 rfl rfl (by decide) rfl rfl ?_
  exact zf_ri dX8_image_19 rfl h
def zt_209 : zx_MT := (8, yX8_restore, cX8_restore, 2, (some FieldType.int), 0, 0)
theorem zm_209 : zx_m 209 = zt_209 := rfl
theorem dX8_restore_r0 : zdcP cX8_restore 0 [(.aload_n 0, 1), (.getfield 318, 3), (.ifCond .ne 10, 3), (.aload_n 0, 1), (.bipush (-6), 2), (.invokevirtual 115, 3), (.ireturn, 1), (.aload_n 0, 1), (.aload_n 0, 1), (.getfield 87, 3), (.iconst 0, 1), (.iconst 1, 1), (.invokevirtual 213, 3), (.iconst 0, 1), (.istore_n 1, 1), (.iload_n 1, 1)] := zdcA_ok (by decide +kernel)
theorem dX8_restore_0 : decode cX8_restore 0 = .ok (.aload_n 0, 1) := dX8_restore_r0.1
theorem dX8_restore_1 : decode cX8_restore 1 = .ok (.getfield 318, 3) := dX8_restore_r0.2.1
theorem dX8_restore_4 : decode cX8_restore 4 = .ok (.ifCond .ne 10, 3) := dX8_restore_r0.2.2.1
theorem dX8_restore_7 : decode cX8_restore 7 = .ok (.aload_n 0, 1) := dX8_restore_r0.2.2.2.1
theorem dX8_restore_8 : decode cX8_restore 8 = .ok (.bipush (-6), 2) := dX8_restore_r0.2.2.2.2.1
theorem dX8_restore_10 : decode cX8_restore 10 = .ok (.invokevirtual 115, 3) := dX8_restore_r0.2.2.2.2.2.1
theorem dX8_restore_13 : decode cX8_restore 13 = .ok (.ireturn, 1) := dX8_restore_r0.2.2.2.2.2.2.1
theorem dX8_restore_14 : decode cX8_restore 14 = .ok (.aload_n 0, 1) := dX8_restore_r0.2.2.2.2.2.2.2.1
theorem dX8_restore_15 : decode cX8_restore 15 = .ok (.aload_n 0, 1) := dX8_restore_r0.2.2.2.2.2.2.2.2.1
theorem dX8_restore_16 : decode cX8_restore 16 = .ok (.getfield 87, 3) := dX8_restore_r0.2.2.2.2.2.2.2.2.2.1
theorem dX8_restore_19 : decode cX8_restore 19 = .ok (.iconst 0, 1) := dX8_restore_r0.2.2.2.2.2.2.2.2.2.2.1
theorem dX8_restore_20 : decode cX8_restore 20 = .ok (.iconst 1, 1) := dX8_restore_r0.2.2.2.2.2.2.2.2.2.2.2.1
theorem dX8_restore_21 : decode cX8_restore 21 = .ok (.invokevirtual 213, 3) := dX8_restore_r0.2.2.2.2.2.2.2.2.2.2.2.2.1
theorem dX8_restore_24 : decode cX8_restore 24 = .ok (.iconst 0, 1) := dX8_restore_r0.2.2.2.2.2.2.2.2.2.2.2.2.2.1
theorem dX8_restore_25 : decode cX8_restore 25 = .ok (.istore_n 1, 1) := dX8_restore_r0.2.2.2.2.2.2.2.2.2.2.2.2.2.2.1
theorem dX8_restore_26 : decode cX8_restore 26 = .ok (.iload_n 1, 1) := dX8_restore_r0.2.2.2.2.2.2.2.2.2.2.2.2.2.2.2.1
theorem dX8_restore_r27 : zdcP cX8_restore 27 [(.bipush 8, 2), (.if_icmp .ge 39, 3), (.aload_n 0, 1), (.getfield 56, 3), (.iload_n 1, 1), (.iaload, 1), (.iconst 2, 1), (.if_icmp .ne 23, 3), (.aload_n 0, 1), (.getfield 65, 3), (.iload_n 1, 1), (.iaload, 1), (.aload_n 0, 1), (.getfield 105, 3), (.if_icmp .lt 10, 3), (.aload_n 0, 1)] := zdcA_ok (by decide +kernel)
theorem dX8_restore_27 : decode cX8_restore 27 = .ok (.bipush 8, 2) := dX8_restore_r27.1
theorem dX8_restore_29 : decode cX8_restore 29 = .ok (.if_icmp .ge 39, 3) := dX8_restore_r27.2.1
theorem dX8_restore_32 : decode cX8_restore 32 = .ok (.aload_n 0, 1) := dX8_restore_r27.2.2.1
theorem dX8_restore_33 : decode cX8_restore 33 = .ok (.getfield 56, 3) := dX8_restore_r27.2.2.2.1
theorem dX8_restore_36 : decode cX8_restore 36 = .ok (.iload_n 1, 1) := dX8_restore_r27.2.2.2.2.1
theorem dX8_restore_37 : decode cX8_restore 37 = .ok (.iaload, 1) := dX8_restore_r27.2.2.2.2.2.1
theorem dX8_restore_38 : decode cX8_restore 38 = .ok (.iconst 2, 1) := dX8_restore_r27.2.2.2.2.2.2.1
theorem dX8_restore_39 : decode cX8_restore 39 = .ok (.if_icmp .ne 23, 3) := dX8_restore_r27.2.2.2.2.2.2.2.1
theorem dX8_restore_42 : decode cX8_restore 42 = .ok (.aload_n 0, 1) := dX8_restore_r27.2.2.2.2.2.2.2.2.1
theorem dX8_restore_43 : decode cX8_restore 43 = .ok (.getfield 65, 3) := dX8_restore_r27.2.2.2.2.2.2.2.2.2.1
theorem dX8_restore_46 : decode cX8_restore 46 = .ok (.iload_n 1, 1) := dX8_restore_r27.2.2.2.2.2.2.2.2.2.2.1
theorem dX8_restore_47 : decode cX8_restore 47 = .ok (.iaload, 1) := dX8_restore_r27.2.2.2.2.2.2.2.2.2.2.2.1
theorem dX8_restore_48 : decode cX8_restore 48 = .ok (.aload_n 0, 1) := dX8_restore_r27.2.2.2.2.2.2.2.2.2.2.2.2.1
theorem dX8_restore_49 : decode cX8_restore 49 = .ok (.getfield 105, 3) := dX8_restore_r27.2.2.2.2.2.2.2.2.2.2.2.2.2.1
theorem dX8_restore_52 : decode cX8_restore 52 = .ok (.if_icmp .lt 10, 3) := dX8_restore_r27.2.2.2.2.2.2.2.2.2.2.2.2.2.2.1
theorem dX8_restore_55 : decode cX8_restore 55 = .ok (.aload_n 0, 1) := dX8_restore_r27.2.2.2.2.2.2.2.2.2.2.2.2.2.2.2.1
theorem dX8_restore_r56 : zdcP cX8_restore 56 [(.getfield 56, 3), (.iload_n 1, 1), (.iconst 0, 1), (.iastore, 1), (.iinc 1 1, 3), (.goto (-39), 3), (.aload_n 0, 1), (.getfield 105, 3), (.ireturn, 1)] := zdcA_ok (by decide +kernel)
theorem dX8_restore_56 : decode cX8_restore 56 = .ok (.getfield 56, 3) := dX8_restore_r56.1
theorem dX8_restore_59 : decode cX8_restore 59 = .ok (.iload_n 1, 1) := dX8_restore_r56.2.1
theorem dX8_restore_60 : decode cX8_restore 60 = .ok (.iconst 0, 1) := dX8_restore_r56.2.2.1
theorem dX8_restore_61 : decode cX8_restore 61 = .ok (.iastore, 1) := dX8_restore_r56.2.2.2.1
theorem dX8_restore_62 : decode cX8_restore 62 = .ok (.iinc 1 1, 3) := dX8_restore_r56.2.2.2.2.1
theorem dX8_restore_65 : decode cX8_restore 65 = .ok (.goto (-39), 3) := dX8_restore_r56.2.2.2.2.2.1
theorem dX8_restore_68 : decode cX8_restore 68 = .ok (.aload_n 0, 1) := dX8_restore_r56.2.2.2.2.2.2.1
theorem dX8_restore_69 : decode cX8_restore 69 = .ok (.getfield 105, 3) := dX8_restore_r56.2.2.2.2.2.2.2.1
theorem dX8_restore_72 : decode cX8_restore 72 = .ok (.ireturn, 1) := dX8_restore_r56.2.2.2.2.2.2.2.2.1
def wq_209_26 (Q : Int32 → zf_Me → Prop) : Nat → Int32 → zf_Me → Prop
  | 0, _, _ => False
  | n + 1, v1, m => ((v1.toInt ≥ 8 → Q (m.1 63 1) m) ∧ (v1.toInt < 8 → ((0 ≤ (Int32.toInt v1) ∧ (Int32.toInt v1) < (8 : Int)) ∧ ((¬ ((m.1 70 (Int32.toInt v1).toNat)).toInt = 2 → wq_209_26 Q n (v1 + 1) m) ∧ (((m.1 70 (Int32.toInt v1).toNat)).toInt = 2 → ((0 ≤ (Int32.toInt v1) ∧ (Int32.toInt v1) < (8 : Int)) ∧ ((((m.1 73 (Int32.toInt v1).toNat)).toInt < ((m.1 63 1)).toInt → wq_209_26 Q n (v1 + 1) m) ∧ (((m.1 73 (Int32.toInt v1).toNat)).toInt ≥ ((m.1 63 1)).toInt → ((0 ≤ (Int32.toInt v1) ∧ (Int32.toInt v1) < (8 : Int)) ∧ ∀ m3, m3 = zf_u m 70 (Int32.toInt v1).toNat 0 → wq_209_26 Q n (v1 + 1) m3)))))))))
theorem zq_209_26 {d : Nat} (hd : 2 ≤ d) {Q : Int32 → zf_Me → Prop} : ∀ (n : Nat) (v1 : Int32) (m : zf_Me), wq_209_26 Q n v1 m → zf_W none 0 0 d zt_209 26 [some (.inr (.inr (1, 63))), some (.inl v1)] [] m (zf_I Q) := by
  intro n
  induction n with
  | zero =>
    intro v1 m h
    exact h.elim
  | succ n ih =>
    intro v1 m h
    unfold wq_209_26 at h
    refine zf_ld (pc' := 27) (v := .inl v1) dX8_restore_26 rfl (fun _ _ _ => rfl) rfl rfl rfl ?_
    refine zf_bi (v := 8) (pc' := 29) dX8_restore_27 rfl rfl ?_
    refine zf_icmp_ge (tgt := 68) (pc' := 32) dX8_restore_29 rfl rfl (fun g => ?_) (fun g => ?_)
    · replace h := h.1 g
      refine zf_ld (pc' := 69) (v := .inr (.inr (1, 63))) dX8_restore_68 rfl (fun _ _ _ => rfl) rfl rfl rfl ?_
      refine zf_gfi (pc' := 72) dX8_restore_69 rfl rfl (by decide) rfl rfl ?_
      exact zf_ri dX8_restore_72 rfl h
    · replace h := h.2 g
      refine zf_ld (pc' := 33) (v := .inr (.inr (1, 63))) dX8_restore_32 rfl (fun _ _ _ => rfl) rfl rfl rfl ?_
      refine zf_gfr (pc' := 36) (b := 70) dX8_restore_33 rfl rfl (by decide) rfl rfl ?_
      refine zf_ld (pc' := 37) (v := .inl v1) dX8_restore_36 rfl (fun _ _ _ => rfl) rfl rfl rfl ?_
      refine zf_ial (pc' := 38) dX8_restore_37 rfl (⟨by decide, rfl⟩ : zf_arr 70 8).1 (⟨by decide, rfl⟩ : zf_arr 70 8).2 h.1 rfl ?_
      replace h := h.2
      refine zf_ic (v := 2) (pc' := 39) dX8_restore_38 rfl rfl ?_
      refine zf_icmp_ne (tgt := 62) (pc' := 42) dX8_restore_39 rfl rfl (fun g => ?_) (fun g => ?_)
      · replace h := h.1 g
        refine zf_ii (y := (v1 + 1)) (L2 := [some (.inr (.inr (1, 63))), some (.inl (v1 + 1))]) (pc' := 65) dX8_restore_62 rfl rfl rfl rfl rfl ?_
        refine zf_goto (tgt := 26) dX8_restore_65 rfl ?_
        exact zf_lo (ih _ _ h) ⟨rfl, rfl, trivial⟩
      · replace h := h.2 g
        refine zf_ld (pc' := 43) (v := .inr (.inr (1, 63))) dX8_restore_42 rfl (fun _ _ _ => rfl) rfl rfl rfl ?_
        refine zf_gfr (pc' := 46) (b := 73) dX8_restore_43 rfl rfl (by decide) rfl rfl ?_
        refine zf_ld (pc' := 47) (v := .inl v1) dX8_restore_46 rfl (fun _ _ _ => rfl) rfl rfl rfl ?_
        refine zf_ial (pc' := 48) dX8_restore_47 rfl (⟨by decide, rfl⟩ : zf_arr 73 8).1 (⟨by decide, rfl⟩ : zf_arr 73 8).2 h.1 rfl ?_
        replace h := h.2
        refine zf_ld (pc' := 49) (v := .inr (.inr (1, 63))) dX8_restore_48 rfl (fun _ _ _ => rfl) rfl rfl rfl ?_
        refine zf_gfi (pc' := 52) dX8_restore_49 rfl rfl (by decide) rfl rfl ?_
        refine zf_icmp_lt (tgt := 62) (pc' := 55) dX8_restore_52 rfl rfl (fun g => ?_) (fun g => ?_)
        · replace h := h.1 g
          refine zf_ii (y := (v1 + 1)) (L2 := [some (.inr (.inr (1, 63))), some (.inl (v1 + 1))]) (pc' := 65) dX8_restore_62 rfl rfl rfl rfl rfl ?_
          refine zf_goto (tgt := 26) dX8_restore_65 rfl ?_
          exact zf_lo (ih _ _ h) ⟨rfl, rfl, trivial⟩
        · replace h := h.2 g
          refine zf_ld (pc' := 56) (v := .inr (.inr (1, 63))) dX8_restore_55 rfl (fun _ _ _ => rfl) rfl rfl rfl ?_
          refine zf_gfr (pc' := 59) (b := 70) dX8_restore_56 rfl rfl (by decide) rfl rfl ?_
          refine zf_ld (pc' := 60) (v := .inl v1) dX8_restore_59 rfl (fun _ _ _ => rfl) rfl rfl rfl ?_
          refine zf_ic (v := 0) (pc' := 61) dX8_restore_60 rfl rfl ?_
          refine zf_ias (pc' := 62) dX8_restore_61 rfl (⟨by decide, rfl⟩ : zf_arr 70 8).1 (⟨by decide, rfl⟩ : zf_arr 70 8).2 h.1 rfl (fun m3 e4 => ?_)
          replace h := h.2 m3 e4
          refine zf_ii (y := (v1 + 1)) (L2 := [some (.inr (.inr (1, 63))), some (.inl (v1 + 1))]) (pc' := 65) dX8_restore_62 rfl rfl rfl rfl rfl ?_
          refine zf_goto (tgt := 26) dX8_restore_65 rfl ?_
          exact zf_lo (ih _ _ h) ⟨rfl, rfl, trivial⟩
def wp_209 (m : zf_Me) (Q : Int32 → zf_Me → Prop) : Prop := ((¬ ((m.1 63 52)).toInt = 0 → wp_161 80 90 0 1 m (fun m2 => (∃ n26, wq_209_26 Q n26 0 m2))) ∧ (((m.1 63 52)).toInt = 0 → wp_125 (-6) m (fun x5 m6 => Q x5 m6)))
theorem zr_209 {d : Nat} (hd : 2 ≤ d) {Q : Int32 → zf_Me → Prop} {m : zf_Me} (h : wp_209 m Q) : zf_M d 209 [.inr (.inr (1, 63))] m (zf_I Q) := by
  obtain ⟨e, rfl⟩ : ∃ z, d = z + 1 := ⟨d - 1, by omega⟩
  unfold wp_209 at h
  refine zf_M_of (Nat.le_of_ble_eq_true rfl) zm_209 (L := [some (.inr (.inr (1, 63))), none]) rfl ?_
  refine zf_ld (pc' := 1) (v := .inr (.inr (1, 63))) dX8_restore_0 rfl (fun _ _ _ => rfl) rfl rfl rfl ?_
  refine zf_gfi (pc' := 4) dX8_restore_1 rfl rfl (by decide) rfl rfl ?_
  refine zf_if_ne (tgt := 14) (pc' := 7) dX8_restore_4 rfl rfl (fun g => ?_) (fun g => ?_)
  · replace h := h.1 g
    refine zf_ld (pc' := 15) (v := .inr (.inr (1, 63))) dX8_restore_14 rfl (fun _ _ _ => rfl) rfl rfl rfl ?_
    refine zf_ld (pc' := 16) (v := .inr (.inr (1, 63))) dX8_restore_15 rfl (fun _ _ _ => rfl) rfl rfl rfl ?_
    refine zf_gfr (pc' := 19) (b := 80) dX8_restore_16 rfl rfl (by decide) rfl rfl ?_
    refine zf_ic (v := 0) (pc' := 20) dX8_restore_19 rfl rfl ?_
    refine zf_ic (v := 1) (pc' := 21) dX8_restore_20 rfl rfl ?_
    refine zf_iv (k := 161) (pc' := 24) (r := []) dX8_restore_21 rfl rfl rfl rfl (by decide) rfl rfl rfl (zr_161 (by omega) (⟨by decide, rfl⟩ : zf_arr 80 90) h) (zf_kO (fun m2 h => ?_))
    refine zf_ic (v := 0) (pc' := 25) dX8_restore_24 rfl rfl ?_
    refine zf_st (pc' := 26) (L2 := [some (.inr (.inr (1, 63))), some (.inl 0)]) dX8_restore_25 rfl (fun _ _ _ => rfl) rfl rfl rfl rfl rfl rfl ?_
    obtain ⟨n26, h⟩ := h
    exact zf_lo (zq_209_26 (by omega) n26 _ _ h) ⟨rfl, rfl, trivial⟩
  · replace h := h.2 g
    refine zf_ld (pc' := 8) (v := .inr (.inr (1, 63))) dX8_restore_7 rfl (fun _ _ _ => rfl) rfl rfl rfl ?_
    refine zf_bi (v := (-6)) (pc' := 10) dX8_restore_8 rfl rfl ?_
    refine zf_iv (k := 125) (pc' := 13) (r := []) dX8_restore_10 rfl rfl rfl rfl (by decide) rfl rfl rfl (zr_125 (by omega) h) (zf_kI (fun x5 m6 h => ?_))
    exact zf_ri dX8_restore_13 rfl h
end
section
/-! part 45: methods 210..: laid by wip/flat/dec.py -/
def zt_210 : zx_MT := (8, yX8_status, cX8_status, 2, (some FieldType.int), 1, 0)
theorem zm_210 : zx_m 210 = zt_210 := rfl
theorem dX8_status_r0 : zdcP cX8_status 0 [(.iload_n 1, 1), (.bipush 11, 2), (.if_icmp .lt 19, 3), (.iload_n 1, 1), (.bipush 17, 2), (.if_icmp .gt 13, 3), (.aload_n 0, 1), (.getfield 37, 3), (.iload_n 1, 1), (.bipush 10, 2), (.isub, 1), (.iaload, 1), (.ireturn, 1), (.iload_n 1, 1), (.bipush 6, 2), (.if_icmp .lt 18, 3)] := zdcA_ok (by decide +kernel)
theorem dX8_status_0 : decode cX8_status 0 = .ok (.iload_n 1, 1) := dX8_status_r0.1
theorem dX8_status_1 : decode cX8_status 1 = .ok (.bipush 11, 2) := dX8_status_r0.2.1
theorem dX8_status_3 : decode cX8_status 3 = .ok (.if_icmp .lt 19, 3) := dX8_status_r0.2.2.1
theorem dX8_status_6 : decode cX8_status 6 = .ok (.iload_n 1, 1) := dX8_status_r0.2.2.2.1
theorem dX8_status_7 : decode cX8_status 7 = .ok (.bipush 17, 2) := dX8_status_r0.2.2.2.2.1
theorem dX8_status_9 : decode cX8_status 9 = .ok (.if_icmp .gt 13, 3) := dX8_status_r0.2.2.2.2.2.1
theorem dX8_status_12 : decode cX8_status 12 = .ok (.aload_n 0, 1) := dX8_status_r0.2.2.2.2.2.2.1
theorem dX8_status_13 : decode cX8_status 13 = .ok (.getfield 37, 3) := dX8_status_r0.2.2.2.2.2.2.2.1
theorem dX8_status_16 : decode cX8_status 16 = .ok (.iload_n 1, 1) := dX8_status_r0.2.2.2.2.2.2.2.2.1
theorem dX8_status_17 : decode cX8_status 17 = .ok (.bipush 10, 2) := dX8_status_r0.2.2.2.2.2.2.2.2.2.1
theorem dX8_status_19 : decode cX8_status 19 = .ok (.isub, 1) := dX8_status_r0.2.2.2.2.2.2.2.2.2.2.1
theorem dX8_status_20 : decode cX8_status 20 = .ok (.iaload, 1) := dX8_status_r0.2.2.2.2.2.2.2.2.2.2.2.1
theorem dX8_status_21 : decode cX8_status 21 = .ok (.ireturn, 1) := dX8_status_r0.2.2.2.2.2.2.2.2.2.2.2.2.1
theorem dX8_status_22 : decode cX8_status 22 = .ok (.iload_n 1, 1) := dX8_status_r0.2.2.2.2.2.2.2.2.2.2.2.2.2.1
theorem dX8_status_23 : decode cX8_status 23 = .ok (.bipush 6, 2) := dX8_status_r0.2.2.2.2.2.2.2.2.2.2.2.2.2.2.1
theorem dX8_status_25 : decode cX8_status 25 = .ok (.if_icmp .lt 18, 3) := dX8_status_r0.2.2.2.2.2.2.2.2.2.2.2.2.2.2.2.1
theorem dX8_status_r28 : zdcP cX8_status 28 [(.iload_n 1, 1), (.bipush 10, 2), (.if_icmp .gt 12, 3), (.aload_n 0, 1), (.iload_n 1, 1), (.bipush 6, 2), (.isub, 1), (.invokevirtual 145, 3), (.ireturn, 1), (.iload_n 1, 1)] := zdcA_ok (by decide +kernel)
theorem dX8_status_28 : decode cX8_status 28 = .ok (.iload_n 1, 1) := dX8_status_r28.1
theorem dX8_status_29 : decode cX8_status 29 = .ok (.bipush 10, 2) := dX8_status_r28.2.1
theorem dX8_status_31 : decode cX8_status 31 = .ok (.if_icmp .gt 12, 3) := dX8_status_r28.2.2.1
theorem dX8_status_34 : decode cX8_status 34 = .ok (.aload_n 0, 1) := dX8_status_r28.2.2.2.1
theorem dX8_status_35 : decode cX8_status 35 = .ok (.iload_n 1, 1) := dX8_status_r28.2.2.2.2.1
theorem dX8_status_36 : decode cX8_status 36 = .ok (.bipush 6, 2) := dX8_status_r28.2.2.2.2.2.1
theorem dX8_status_38 : decode cX8_status 38 = .ok (.isub, 1) := dX8_status_r28.2.2.2.2.2.2.1
theorem dX8_status_39 : decode cX8_status 39 = .ok (.invokevirtual 145, 3) := dX8_status_r28.2.2.2.2.2.2.2.1
theorem dX8_status_42 : decode cX8_status 42 = .ok (.ireturn, 1) := dX8_status_r28.2.2.2.2.2.2.2.2.1
theorem dX8_status_43 : decode cX8_status 43 = .ok (.iload_n 1, 1) := dX8_status_r28.2.2.2.2.2.2.2.2.2.1
theorem dX8_status_44 : decode cX8_status 44 = .ok (.tableswitch 153 0 20 #[100, 105, 110, 115, 120, 125, 153, 153, 153, 153, 153, 153, 153, 153, 153, 153, 153, 153, 130, 135, 140], 100) := by decide +kernel
theorem dX8_status_r144 : zdcP cX8_status 144 [(.aload_n 0, 1), (.getfield 105, 3), (.ireturn, 1), (.aload_n 0, 1), (.getfield 108, 3), (.ireturn, 1), (.aload_n 0, 1), (.getfield 207, 3), (.ireturn, 1), (.aload_n 0, 1), (.getfield 210, 3), (.ireturn, 1), (.aload_n 0, 1), (.getfield 13, 3), (.ireturn, 1), (.aload_n 0, 1)] := zdcA_ok (by decide +kernel)
theorem dX8_status_144 : decode cX8_status 144 = .ok (.aload_n 0, 1) := dX8_status_r144.1
theorem dX8_status_145 : decode cX8_status 145 = .ok (.getfield 105, 3) := dX8_status_r144.2.1
theorem dX8_status_148 : decode cX8_status 148 = .ok (.ireturn, 1) := dX8_status_r144.2.2.1
theorem dX8_status_149 : decode cX8_status 149 = .ok (.aload_n 0, 1) := dX8_status_r144.2.2.2.1
theorem dX8_status_150 : decode cX8_status 150 = .ok (.getfield 108, 3) := dX8_status_r144.2.2.2.2.1
theorem dX8_status_153 : decode cX8_status 153 = .ok (.ireturn, 1) := dX8_status_r144.2.2.2.2.2.1
theorem dX8_status_154 : decode cX8_status 154 = .ok (.aload_n 0, 1) := dX8_status_r144.2.2.2.2.2.2.1
theorem dX8_status_155 : decode cX8_status 155 = .ok (.getfield 207, 3) := dX8_status_r144.2.2.2.2.2.2.2.1
theorem dX8_status_158 : decode cX8_status 158 = .ok (.ireturn, 1) := dX8_status_r144.2.2.2.2.2.2.2.2.1
theorem dX8_status_159 : decode cX8_status 159 = .ok (.aload_n 0, 1) := dX8_status_r144.2.2.2.2.2.2.2.2.2.1
theorem dX8_status_160 : decode cX8_status 160 = .ok (.getfield 210, 3) := dX8_status_r144.2.2.2.2.2.2.2.2.2.2.1
theorem dX8_status_163 : decode cX8_status 163 = .ok (.ireturn, 1) := dX8_status_r144.2.2.2.2.2.2.2.2.2.2.2.1
theorem dX8_status_164 : decode cX8_status 164 = .ok (.aload_n 0, 1) := dX8_status_r144.2.2.2.2.2.2.2.2.2.2.2.2.1
theorem dX8_status_165 : decode cX8_status 165 = .ok (.getfield 13, 3) := dX8_status_r144.2.2.2.2.2.2.2.2.2.2.2.2.2.1
theorem dX8_status_168 : decode cX8_status 168 = .ok (.ireturn, 1) := dX8_status_r144.2.2.2.2.2.2.2.2.2.2.2.2.2.2.1
theorem dX8_status_169 : decode cX8_status 169 = .ok (.aload_n 0, 1) := dX8_status_r144.2.2.2.2.2.2.2.2.2.2.2.2.2.2.2.1
theorem dX8_status_r170 : zdcP cX8_status 170 [(.getfield 204, 3), (.ireturn, 1), (.aload_n 0, 1), (.getfield 31, 3), (.ireturn, 1), (.aload_n 0, 1), (.getfield 303, 3), (.ireturn, 1), (.aload_n 0, 1), (.invokevirtual 122, 3), (.ifCond .eq 7, 3), (.iconst 1, 1), (.goto 4, 3), (.iconst 0, 1), (.ireturn, 1), (.iconst (-1), 1)] := zdcA_ok (by decide +kernel)
theorem dX8_status_170 : decode cX8_status 170 = .ok (.getfield 204, 3) := dX8_status_r170.1
theorem dX8_status_173 : decode cX8_status 173 = .ok (.ireturn, 1) := dX8_status_r170.2.1
theorem dX8_status_174 : decode cX8_status 174 = .ok (.aload_n 0, 1) := dX8_status_r170.2.2.1
theorem dX8_status_175 : decode cX8_status 175 = .ok (.getfield 31, 3) := dX8_status_r170.2.2.2.1
theorem dX8_status_178 : decode cX8_status 178 = .ok (.ireturn, 1) := dX8_status_r170.2.2.2.2.1
theorem dX8_status_179 : decode cX8_status 179 = .ok (.aload_n 0, 1) := dX8_status_r170.2.2.2.2.2.1
theorem dX8_status_180 : decode cX8_status 180 = .ok (.getfield 303, 3) := dX8_status_r170.2.2.2.2.2.2.1
theorem dX8_status_183 : decode cX8_status 183 = .ok (.ireturn, 1) := dX8_status_r170.2.2.2.2.2.2.2.1
theorem dX8_status_184 : decode cX8_status 184 = .ok (.aload_n 0, 1) := dX8_status_r170.2.2.2.2.2.2.2.2.1
theorem dX8_status_185 : decode cX8_status 185 = .ok (.invokevirtual 122, 3) := dX8_status_r170.2.2.2.2.2.2.2.2.2.1
theorem dX8_status_188 : decode cX8_status 188 = .ok (.ifCond .eq 7, 3) := dX8_status_r170.2.2.2.2.2.2.2.2.2.2.1
theorem dX8_status_191 : decode cX8_status 191 = .ok (.iconst 1, 1) := dX8_status_r170.2.2.2.2.2.2.2.2.2.2.2.1
theorem dX8_status_192 : decode cX8_status 192 = .ok (.goto 4, 3) := dX8_status_r170.2.2.2.2.2.2.2.2.2.2.2.2.1
theorem dX8_status_195 : decode cX8_status 195 = .ok (.iconst 0, 1) := dX8_status_r170.2.2.2.2.2.2.2.2.2.2.2.2.2.1
theorem dX8_status_196 : decode cX8_status 196 = .ok (.ireturn, 1) := dX8_status_r170.2.2.2.2.2.2.2.2.2.2.2.2.2.2.1
theorem dX8_status_197 : decode cX8_status 197 = .ok (.iconst (-1), 1) := dX8_status_r170.2.2.2.2.2.2.2.2.2.2.2.2.2.2.2.1
theorem dX8_status_198 : decode cX8_status 198 = .ok (.ireturn, 1) := zdc_ok (by decide +kernel)
def wq_210_43 (v1 : Int32) (m : zf_Me) (Q : Int32 → zf_Me → Prop) : Prop := (((v1.toInt < 0 ∨ v1.toInt > 20) → Q (-1) m) ∧ (v1.toInt = 0 → Q (m.1 63 1) m) ∧ (v1.toInt = 1 → Q (m.1 63 0) m) ∧ (v1.toInt = 2 → Q (m.1 63 10) m) ∧ (v1.toInt = 3 → Q (m.1 63 11) m) ∧ (v1.toInt = 4 → Q (m.1 63 3) m) ∧ (v1.toInt = 5 → Q (m.1 63 6) m) ∧ (v1.toInt = 6 → Q (-1) m) ∧ (v1.toInt = 7 → Q (-1) m) ∧ (v1.toInt = 8 → Q (-1) m) ∧ (v1.toInt = 9 → Q (-1) m) ∧ (v1.toInt = 10 → Q (-1) m) ∧ (v1.toInt = 11 → Q (-1) m) ∧ (v1.toInt = 12 → Q (-1) m) ∧ (v1.toInt = 13 → Q (-1) m) ∧ (v1.toInt = 14 → Q (-1) m) ∧ (v1.toInt = 15 → Q (-1) m) ∧ (v1.toInt = 16 → Q (-1) m) ∧ (v1.toInt = 17 → Q (-1) m) ∧ (v1.toInt = 18 → Q (m.1 63 12) m) ∧ (v1.toInt = 19 → Q (m.1 63 51) m) ∧ (v1.toInt = 20 → wp_164 m (fun b1 m2 => ((b1 = false → Q 0 m2) ∧ (b1 = true → Q 1 m2)))))
theorem zq_210_43 {d : Nat} (hd : 1 ≤ d) {v1 : Int32} {Q : Int32 → zf_Me → Prop} {m : zf_Me} (h : wq_210_43 v1 m Q) : zf_W none 0 0 d zt_210 43 [some (.inr (.inr (1, 63))), some (.inl v1)] [] m (zf_I Q) := by
  obtain ⟨e, rfl⟩ : ∃ z, d = z + 1 := ⟨d - 1, by omega⟩
  unfold wq_210_43 at h
  refine zf_ld (pc' := 44) (v := .inl v1) dX8_status_43 rfl (fun _ _ _ => rfl) rfl rfl rfl ?_
  refine zf_tsc (tgd := 197) dX8_status_44 rfl [144, 149, 154, 159, 164, 169, 197, 197, 197, 197, 197, 197, 197, 197, 197, 197, 197, 197, 174, 179, 184] (by decide) (by decide) (fun g => ?_) (zl_cons (fun g => ?_) (zl_cons (fun g => ?_) (zl_cons (fun g => ?_) (zl_cons (fun g => ?_) (zl_cons (fun g => ?_) (zl_cons (fun g => ?_) (zl_cons (fun g => ?_) (zl_cons (fun g => ?_) (zl_cons (fun g => ?_) (zl_cons (fun g => ?_) (zl_cons (fun g => ?_) (zl_cons (fun g => ?_) (zl_cons (fun g => ?_) (zl_cons (fun g => ?_) (zl_cons (fun g => ?_) (zl_cons (fun g => ?_) (zl_cons (fun g => ?_) (zl_cons (fun g => ?_) (zl_cons (fun g => ?_) (zl_cons (fun g => ?_) (zl_cons (fun g => ?_) (zl_nil))))))))))))))))))))))
  · replace h := h.1 (by omega)
    refine zf_ic (v := (-1)) (pc' := 198) dX8_status_197 rfl rfl ?_
    exact zf_ri dX8_status_198 rfl h
  · replace h := h.2.1 (by omega)
    refine zf_ld (pc' := 145) (v := .inr (.inr (1, 63))) dX8_status_144 rfl (fun _ _ _ => rfl) rfl rfl rfl ?_
    refine zf_gfi (pc' := 148) dX8_status_145 rfl rfl (by decide) rfl rfl ?_
    exact zf_ri dX8_status_148 rfl h
  · replace h := h.2.2.1 (by omega)
    refine zf_ld (pc' := 150) (v := .inr (.inr (1, 63))) dX8_status_149 rfl (fun _ _ _ => rfl) rfl rfl rfl ?_
    refine zf_gfi (pc' := 153) dX8_status_150 rfl rfl (by decide) rfl rfl ?_
    exact zf_ri dX8_status_153 rfl h
  · replace h := h.2.2.2.1 (by omega)
    refine zf_ld (pc' := 155) (v := .inr (.inr (1, 63))) dX8_status_154 rfl (fun _ _ _ => rfl) rfl rfl rfl ?_
    refine zf_gfi (pc' := 158) dX8_status_155 rfl rfl (by decide) rfl rfl ?_
    exact zf_ri dX8_status_158 rfl h
  · replace h := h.2.2.2.2.1 (by omega)
    refine zf_ld (pc' := 160) (v := .inr (.inr (1, 63))) dX8_status_159 rfl (fun _ _ _ => rfl) rfl rfl rfl ?_
    refine zf_gfi (pc' := 163) dX8_status_160 rfl rfl (by decide) rfl rfl ?_
    exact zf_ri dX8_status_163 rfl h
  · replace h := h.2.2.2.2.2.1 (by omega)
    refine zf_ld (pc' := 165) (v := .inr (.inr (1, 63))) dX8_status_164 rfl (fun _ _ _ => rfl) rfl rfl rfl ?_
    refine zf_gfi (pc' := 168) dX8_status_165 rfl rfl (by decide) rfl rfl ?_
    exact zf_ri dX8_status_168 rfl h
  · replace h := h.2.2.2.2.2.2.1 (by omega)
    refine zf_ld (pc' := 170) (v := .inr (.inr (1, 63))) dX8_status_169 rfl (fun _ _ _ => rfl) rfl rfl rfl ?_
    refine zf_gfi (pc' := 173) dX8_status_170 rfl rfl (by decide) rfl rfl ?_
    exact zf_ri dX8_status_173 rfl h
  · replace h := h.2.2.2.2.2.2.2.1 (by omega)
    refine zf_ic (v := (-1)) (pc' := 198) dX8_status_197 rfl rfl ?_
    exact zf_ri dX8_status_198 rfl h
  · replace h := h.2.2.2.2.2.2.2.2.1 (by omega)
    refine zf_ic (v := (-1)) (pc' := 198) dX8_status_197 rfl rfl ?_
    exact zf_ri dX8_status_198 rfl h
  · replace h := h.2.2.2.2.2.2.2.2.2.1 (by omega)
    refine zf_ic (v := (-1)) (pc' := 198) dX8_status_197 rfl rfl ?_
    exact zf_ri dX8_status_198 rfl h
  · replace h := h.2.2.2.2.2.2.2.2.2.2.1 (by omega)
    refine zf_ic (v := (-1)) (pc' := 198) dX8_status_197 rfl rfl ?_
    exact zf_ri dX8_status_198 rfl h
  · replace h := h.2.2.2.2.2.2.2.2.2.2.2.1 (by omega)
    refine zf_ic (v := (-1)) (pc' := 198) dX8_status_197 rfl rfl ?_
    exact zf_ri dX8_status_198 rfl h
  · replace h := h.2.2.2.2.2.2.2.2.2.2.2.2.1 (by omega)
    refine zf_ic (v := (-1)) (pc' := 198) dX8_status_197 rfl rfl ?_
    exact zf_ri dX8_status_198 rfl h
  · replace h := h.2.2.2.2.2.2.2.2.2.2.2.2.2.1 (by omega)
    refine zf_ic (v := (-1)) (pc' := 198) dX8_status_197 rfl rfl ?_
    exact zf_ri dX8_status_198 rfl h
  · replace h := h.2.2.2.2.2.2.2.2.2.2.2.2.2.2.1 (by omega)
    refine zf_ic (v := (-1)) (pc' := 198) dX8_status_197 rfl rfl ?_
    exact zf_ri dX8_status_198 rfl h
  · replace h := h.2.2.2.2.2.2.2.2.2.2.2.2.2.2.2.1 (by omega)
    refine zf_ic (v := (-1)) (pc' := 198) dX8_status_197 rfl rfl ?_
    exact zf_ri dX8_status_198 rfl h
  · replace h := h.2.2.2.2.2.2.2.2.2.2.2.2.2.2.2.2.1 (by omega)
    refine zf_ic (v := (-1)) (pc' := 198) dX8_status_197 rfl rfl ?_
    exact zf_ri dX8_status_198 rfl h
  · replace h := h.2.2.2.2.2.2.2.2.2.2.2.2.2.2.2.2.2.1 (by omega)
    refine zf_ic (v := (-1)) (pc' := 198) dX8_status_197 rfl rfl ?_
    exact zf_ri dX8_status_198 rfl h
  · replace h := h.2.2.2.2.2.2.2.2.2.2.2.2.2.2.2.2.2.2.1 (by omega)
    refine zf_ic (v := (-1)) (pc' := 198) dX8_status_197 rfl rfl ?_
    exact zf_ri dX8_status_198 rfl h
  · replace h := h.2.2.2.2.2.2.2.2.2.2.2.2.2.2.2.2.2.2.2.1 (by omega)
    refine zf_ld (pc' := 175) (v := .inr (.inr (1, 63))) dX8_status_174 rfl (fun _ _ _ => rfl) rfl rfl rfl ?_
    refine zf_gfi (pc' := 178) dX8_status_175 rfl rfl (by decide) rfl rfl ?_
    exact zf_ri dX8_status_178 rfl h
  · replace h := h.2.2.2.2.2.2.2.2.2.2.2.2.2.2.2.2.2.2.2.2.1 (by omega)
    refine zf_ld (pc' := 180) (v := .inr (.inr (1, 63))) dX8_status_179 rfl (fun _ _ _ => rfl) rfl rfl rfl ?_
    refine zf_gfi (pc' := 183) dX8_status_180 rfl rfl (by decide) rfl rfl ?_
    exact zf_ri dX8_status_183 rfl h
  · replace h := h.2.2.2.2.2.2.2.2.2.2.2.2.2.2.2.2.2.2.2.2.2 (by omega)
    refine zf_ld (pc' := 185) (v := .inr (.inr (1, 63))) dX8_status_184 rfl (fun _ _ _ => rfl) rfl rfl rfl ?_
    refine zf_iv (k := 164) (pc' := 188) (r := []) dX8_status_185 rfl rfl rfl rfl (by decide) rfl rfl rfl (zr_164 (by omega) h) (zf_kB (fun b1 m2 h => ?_))
    refine zf_ib_eq (tgt := 195) (pc' := 191) dX8_status_188 rfl rfl (fun g => ?_) (fun g => ?_)
    · replace h := h.1 g
      refine zf_ic (v := 0) (pc' := 196) dX8_status_195 rfl rfl ?_
      exact zf_ri dX8_status_196 rfl h
    · replace h := h.2 g
      refine zf_ic (v := 1) (pc' := 192) dX8_status_191 rfl rfl ?_
      refine zf_goto (tgt := 196) dX8_status_192 rfl ?_
      exact zf_ri dX8_status_196 rfl h
def wq_210_22 (v1 : Int32) (m : zf_Me) (Q : Int32 → zf_Me → Prop) : Prop := ((v1.toInt < 6 → wq_210_43 v1 m Q) ∧ (v1.toInt ≥ 6 → ((v1.toInt > 10 → wq_210_43 v1 m Q) ∧ (v1.toInt ≤ 10 → wp_147 (v1 - 6) m (fun x3 m4 => Q x3 m4)))))
theorem zq_210_22 {d : Nat} (hd : 1 ≤ d) {v1 : Int32} {Q : Int32 → zf_Me → Prop} {m : zf_Me} (h : wq_210_22 v1 m Q) : zf_W none 0 0 d zt_210 22 [some (.inr (.inr (1, 63))), some (.inl v1)] [] m (zf_I Q) := by
  obtain ⟨e, rfl⟩ : ∃ z, d = z + 1 := ⟨d - 1, by omega⟩
  unfold wq_210_22 at h
  refine zf_ld (pc' := 23) (v := .inl v1) dX8_status_22 rfl (fun _ _ _ => rfl) rfl rfl rfl ?_
  refine zf_bi (v := 6) (pc' := 25) dX8_status_23 rfl rfl ?_
  refine zf_icmp_lt (tgt := 43) (pc' := 28) dX8_status_25 rfl rfl (fun g => ?_) (fun g => ?_)
  · replace h := h.1 g
    exact zf_lo (zq_210_43 (by omega) h) ⟨rfl, rfl, trivial⟩
  · replace h := h.2 g
    refine zf_ld (pc' := 29) (v := .inl v1) dX8_status_28 rfl (fun _ _ _ => rfl) rfl rfl rfl ?_
    refine zf_bi (v := 10) (pc' := 31) dX8_status_29 rfl rfl ?_
    refine zf_icmp_gt (tgt := 43) (pc' := 34) dX8_status_31 rfl rfl (fun g => ?_) (fun g => ?_)
    · replace h := h.1 g
      exact zf_lo (zq_210_43 (by omega) h) ⟨rfl, rfl, trivial⟩
    · replace h := h.2 g
      refine zf_ld (pc' := 35) (v := .inr (.inr (1, 63))) dX8_status_34 rfl (fun _ _ _ => rfl) rfl rfl rfl ?_
      refine zf_ld (pc' := 36) (v := .inl v1) dX8_status_35 rfl (fun _ _ _ => rfl) rfl rfl rfl ?_
      refine zf_bi (v := 6) (pc' := 38) dX8_status_36 rfl rfl ?_
      refine zf_in (pc' := 39) (S' := [.inl (v1 - 6), .inr (.inr (1, 63))]) dX8_status_38 rfl (fun _ _ _ => rfl) ?_
      refine zf_iv (k := 147) (pc' := 42) (r := []) dX8_status_39 rfl rfl rfl rfl (by decide) rfl rfl rfl (zr_147 (by omega) h) (zf_kI (fun x3 m4 h => ?_))
      exact zf_ri dX8_status_42 rfl h
def wp_210 (v1 : Int32) (m : zf_Me) (Q : Int32 → zf_Me → Prop) : Prop := ((v1.toInt < 11 → wq_210_22 v1 m Q) ∧ (v1.toInt ≥ 11 → ((v1.toInt > 17 → wq_210_22 v1 m Q) ∧ (v1.toInt ≤ 17 → ((0 ≤ (Int32.toInt (v1 - 10)) ∧ (Int32.toInt (v1 - 10)) < (8 : Int)) ∧ Q (m.1 64 (Int32.toInt (v1 - 10)).toNat) m)))))
theorem zr_210 {d : Nat} (hd : 1 ≤ d) {v1 : Int32} {Q : Int32 → zf_Me → Prop} {m : zf_Me} (h : wp_210 v1 m Q) : zf_M d 210 [.inr (.inr (1, 63)), .inl v1] m (zf_I Q) := by
  unfold wp_210 at h
  refine zf_M_of (Nat.le_of_ble_eq_true rfl) zm_210 (L := [some (.inr (.inr (1, 63))), some (.inl v1)]) rfl ?_
  refine zf_ld (pc' := 1) (v := .inl v1) dX8_status_0 rfl (fun _ _ _ => rfl) rfl rfl rfl ?_
  refine zf_bi (v := 11) (pc' := 3) dX8_status_1 rfl rfl ?_
  refine zf_icmp_lt (tgt := 22) (pc' := 6) dX8_status_3 rfl rfl (fun g => ?_) (fun g => ?_)
  · replace h := h.1 g
    exact zf_lo (zq_210_22 (by omega) h) ⟨rfl, rfl, trivial⟩
  · replace h := h.2 g
    refine zf_ld (pc' := 7) (v := .inl v1) dX8_status_6 rfl (fun _ _ _ => rfl) rfl rfl rfl ?_
    refine zf_bi (v := 17) (pc' := 9) dX8_status_7 rfl rfl ?_
    refine zf_icmp_gt (tgt := 22) (pc' := 12) dX8_status_9 rfl rfl (fun g => ?_) (fun g => ?_)
    · replace h := h.1 g
      exact zf_lo (zq_210_22 (by omega) h) ⟨rfl, rfl, trivial⟩
    · replace h := h.2 g
      refine zf_ld (pc' := 13) (v := .inr (.inr (1, 63))) dX8_status_12 rfl (fun _ _ _ => rfl) rfl rfl rfl ?_
      refine zf_gfr (pc' := 16) (b := 64) dX8_status_13 rfl rfl (by decide) rfl rfl ?_
      refine zf_ld (pc' := 17) (v := .inl v1) dX8_status_16 rfl (fun _ _ _ => rfl) rfl rfl rfl ?_
      refine zf_bi (v := 10) (pc' := 19) dX8_status_17 rfl rfl ?_
      refine zf_in (pc' := 20) (S' := [.inl (v1 - 10), .inr (.inr (1, 64))]) dX8_status_19 rfl (fun _ _ _ => rfl) ?_
      refine zf_ial (pc' := 21) dX8_status_20 rfl (⟨by decide, rfl⟩ : zf_arr 64 8).1 (⟨by decide, rfl⟩ : zf_arr 64 8).2 h.1 rfl ?_
      replace h := h.2
      exact zf_ri dX8_status_21 rfl h
end
