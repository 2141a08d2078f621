/-! part 42: methods 185..: laid by wip/flat/dec.py -/
def zt_185 : zx_MT := (8, yX8_whose, cX8_whose, 4, (some FieldType.int), 1, 0)
theorem zm_185 : zx_m 185 = zt_185 := rfl
theorem dX8_whose_r0 : zdcP cX8_whose 0 [(.aload_n 0, 1), (.iload_n 1, 1), (.invokevirtual 139, 3), (.ifCond .eq 10, 3), (.aload_n 0, 1), (.getfield 105, 3), (.ifCond .ne 10, 3), (.aload_n 0, 1), (.bipush (-5), 2), (.invokevirtual 115, 3), (.ireturn, 1), (.iconst 0, 1), (.istore_n 2, 1), (.iconst 1, 1), (.istore_n 3, 1), (.iload_n 3, 1)] := zdcA_ok (by decide +kernel)
theorem dX8_whose_0 : decode cX8_whose 0 = .ok (.aload_n 0, 1) := dX8_whose_r0.1
theorem dX8_whose_1 : decode cX8_whose 1 = .ok (.iload_n 1, 1) := dX8_whose_r0.2.1
theorem dX8_whose_2 : decode cX8_whose 2 = .ok (.invokevirtual 139, 3) := dX8_whose_r0.2.2.1
theorem dX8_whose_5 : decode cX8_whose 5 = .ok (.ifCond .eq 10, 3) := dX8_whose_r0.2.2.2.1
theorem dX8_whose_8 : decode cX8_whose 8 = .ok (.aload_n 0, 1) := dX8_whose_r0.2.2.2.2.1
theorem dX8_whose_9 : decode cX8_whose 9 = .ok (.getfield 105, 3) := dX8_whose_r0.2.2.2.2.2.1
theorem dX8_whose_12 : decode cX8_whose 12 = .ok (.ifCond .ne 10, 3) := dX8_whose_r0.2.2.2.2.2.2.1
theorem dX8_whose_15 : decode cX8_whose 15 = .ok (.aload_n 0, 1) := dX8_whose_r0.2.2.2.2.2.2.2.1
theorem dX8_whose_16 : decode cX8_whose 16 = .ok (.bipush (-5), 2) := dX8_whose_r0.2.2.2.2.2.2.2.2.1
theorem dX8_whose_18 : decode cX8_whose 18 = .ok (.invokevirtual 115, 3) := dX8_whose_r0.2.2.2.2.2.2.2.2.2.1
theorem dX8_whose_21 : decode cX8_whose 21 = .ok (.ireturn, 1) := dX8_whose_r0.2.2.2.2.2.2.2.2.2.2.1
theorem dX8_whose_22 : decode cX8_whose 22 = .ok (.iconst 0, 1) := dX8_whose_r0.2.2.2.2.2.2.2.2.2.2.2.1
theorem dX8_whose_23 : decode cX8_whose 23 = .ok (.istore_n 2, 1) := dX8_whose_r0.2.2.2.2.2.2.2.2.2.2.2.2.1
theorem dX8_whose_24 : decode cX8_whose 24 = .ok (.iconst 1, 1) := dX8_whose_r0.2.2.2.2.2.2.2.2.2.2.2.2.2.1
theorem dX8_whose_25 : decode cX8_whose 25 = .ok (.istore_n 3, 1) := dX8_whose_r0.2.2.2.2.2.2.2.2.2.2.2.2.2.2.1
theorem dX8_whose_26 : decode cX8_whose 26 = .ok (.iload_n 3, 1) := dX8_whose_r0.2.2.2.2.2.2.2.2.2.2.2.2.2.2.2.1
theorem dX8_whose_r27 : zdcP cX8_whose 27 [(.aload_n 0, 1), (.getfield 105, 3), (.if_icmp .ge 36, 3), (.aload_n 0, 1), (.iload_n 3, 1), (.aload_n 0, 1), (.getfield 41, 3), (.iload_n 1, 1), (.iaload, 1), (.invokevirtual 126, 3), (.aload_n 0, 1), (.iload_n 2, 1), (.aload_n 0, 1), (.getfield 41, 3), (.iload_n 1, 1), (.iaload, 1)] := zdcA_ok (by decide +kernel)
theorem dX8_whose_27 : decode cX8_whose 27 = .ok (.aload_n 0, 1) := dX8_whose_r27.1
theorem dX8_whose_28 : decode cX8_whose 28 = .ok (.getfield 105, 3) := dX8_whose_r27.2.1
theorem dX8_whose_31 : decode cX8_whose 31 = .ok (.if_icmp .ge 36, 3) := dX8_whose_r27.2.2.1
theorem dX8_whose_34 : decode cX8_whose 34 = .ok (.aload_n 0, 1) := dX8_whose_r27.2.2.2.1
theorem dX8_whose_35 : decode cX8_whose 35 = .ok (.iload_n 3, 1) := dX8_whose_r27.2.2.2.2.1
theorem dX8_whose_36 : decode cX8_whose 36 = .ok (.aload_n 0, 1) := dX8_whose_r27.2.2.2.2.2.1
theorem dX8_whose_37 : decode cX8_whose 37 = .ok (.getfield 41, 3) := dX8_whose_r27.2.2.2.2.2.2.1
theorem dX8_whose_40 : decode cX8_whose 40 = .ok (.iload_n 1, 1) := dX8_whose_r27.2.2.2.2.2.2.2.1
theorem dX8_whose_41 : decode cX8_whose 41 = .ok (.iaload, 1) := dX8_whose_r27.2.2.2.2.2.2.2.2.1
theorem dX8_whose_42 : decode cX8_whose 42 = .ok (.invokevirtual 126, 3) := dX8_whose_r27.2.2.2.2.2.2.2.2.2.1
theorem dX8_whose_45 : decode cX8_whose 45 = .ok (.aload_n 0, 1) := dX8_whose_r27.2.2.2.2.2.2.2.2.2.2.1
theorem dX8_whose_46 : decode cX8_whose 46 = .ok (.iload_n 2, 1) := dX8_whose_r27.2.2.2.2.2.2.2.2.2.2.2.1
theorem dX8_whose_47 : decode cX8_whose 47 = .ok (.aload_n 0, 1) := dX8_whose_r27.2.2.2.2.2.2.2.2.2.2.2.2.1
theorem dX8_whose_48 : decode cX8_whose 48 = .ok (.getfield 41, 3) := dX8_whose_r27.2.2.2.2.2.2.2.2.2.2.2.2.2.1
theorem dX8_whose_51 : decode cX8_whose 51 = .ok (.iload_n 1, 1) := dX8_whose_r27.2.2.2.2.2.2.2.2.2.2.2.2.2.2.1
theorem dX8_whose_52 : decode cX8_whose 52 = .ok (.iaload, 1) := dX8_whose_r27.2.2.2.2.2.2.2.2.2.2.2.2.2.2.2.1
theorem dX8_whose_r53 : zdcP cX8_whose 53 [(.invokevirtual 126, 3), (.if_icmp .ge 5, 3), (.iload_n 3, 1), (.istore_n 2, 1), (.iinc 3 1, 3), (.goto (-38), 3), (.iload_n 2, 1), (.ireturn, 1)] := zdcA_ok (by decide +kernel)
theorem dX8_whose_53 : decode cX8_whose 53 = .ok (.invokevirtual 126, 3) := dX8_whose_r53.1
theorem dX8_whose_56 : decode cX8_whose 56 = .ok (.if_icmp .ge 5, 3) := dX8_whose_r53.2.1
theorem dX8_whose_59 : decode cX8_whose 59 = .ok (.iload_n 3, 1) := dX8_whose_r53.2.2.1
theorem dX8_whose_60 : decode cX8_whose 60 = .ok (.istore_n 2, 1) := dX8_whose_r53.2.2.2.1
theorem dX8_whose_61 : decode cX8_whose 61 = .ok (.iinc 3 1, 3) := dX8_whose_r53.2.2.2.2.1
theorem dX8_whose_64 : decode cX8_whose 64 = .ok (.goto (-38), 3) := dX8_whose_r53.2.2.2.2.2.1
theorem dX8_whose_67 : decode cX8_whose 67 = .ok (.iload_n 2, 1) := dX8_whose_r53.2.2.2.2.2.2.1
theorem dX8_whose_68 : decode cX8_whose 68 = .ok (.ireturn, 1) := dX8_whose_r53.2.2.2.2.2.2.2.1
def wq_185_26 (v1 : Int32) (Q : Int32 → zf_Me → Prop) : Nat → Int32 → Int32 → zf_Me → Prop
  | 0, _, _, _ => False
  | n + 1, v2, v3, m => ((v3.toInt ≥ ((m.1 63 1)).toInt → Q v2 m) ∧ (v3.toInt < ((m.1 63 1)).toInt → ((0 ≤ (Int32.toInt v1) ∧ (Int32.toInt v1) < (24 : Int)) ∧ wp_165 v3 (m.1 65 (Int32.toInt v1).toNat) m (fun x5 m6 => ((0 ≤ (Int32.toInt v1) ∧ (Int32.toInt v1) < (24 : Int)) ∧ wp_165 v2 (m6.1 65 (Int32.toInt v1).toNat) m6 (fun x7 m8 => ((x5.toInt ≥ x7.toInt → wq_185_26 v1 Q n v2 (v3 + 1) m8) ∧ (x5.toInt < x7.toInt → wq_185_26 v1 Q n v3 (v3 + 1) m8))))))))
theorem zq_185_26 {d : Nat} (hd : 1 ≤ d) {v1 : Int32} {Q : Int32 → zf_Me → Prop} : ∀ (n : Nat) (v2 : Int32) (v3 : Int32) (m : zf_Me), wq_185_26 v1 Q n v2 v3 m → zf_W none 0 0 d zt_185 26 [some (.inr (.inr (1, 63))), some (.inl v1), some (.inl v2), some (.inl v3)] [] m (zf_I Q) := by
  obtain ⟨e, rfl⟩ : ∃ z, d = z + 1 := ⟨d - 1, by omega⟩
  intro n
  induction n with
  | zero =>
    intro v2 v3 m h
    exact h.elim
  | succ n ih =>
    intro v2 v3 m h
    unfold wq_185_26 at h
    refine zf_ld (pc' := 27) (v := .inl v3) dX8_whose_26 rfl (fun _ _ _ => rfl) rfl rfl rfl ?_
    refine zf_ld (pc' := 28) (v := .inr (.inr (1, 63))) dX8_whose_27 rfl (fun _ _ _ => rfl) rfl rfl rfl ?_
    refine zf_gfi (pc' := 31) dX8_whose_28 rfl rfl (by decide) rfl rfl ?_
    refine zf_icmp_ge (tgt := 67) (pc' := 34) dX8_whose_31 rfl rfl (fun g => ?_) (fun g => ?_)
    · replace h := h.1 g
      refine zf_ld (pc' := 68) (v := .inl v2) dX8_whose_67 rfl (fun _ _ _ => rfl) rfl rfl rfl ?_
      exact zf_ri dX8_whose_68 rfl h
    · replace h := h.2 g
      refine zf_ld (pc' := 35) (v := .inr (.inr (1, 63))) dX8_whose_34 rfl (fun _ _ _ => rfl) rfl rfl rfl ?_
      refine zf_ld (pc' := 36) (v := .inl v3) dX8_whose_35 rfl (fun _ _ _ => rfl) rfl rfl rfl ?_
      refine zf_ld (pc' := 37) (v := .inr (.inr (1, 63))) dX8_whose_36 rfl (fun _ _ _ => rfl) rfl rfl rfl ?_
      refine zf_gfr (pc' := 40) (b := 65) dX8_whose_37 rfl rfl (by decide) rfl rfl ?_
      refine zf_ld (pc' := 41) (v := .inl v1) dX8_whose_40 rfl (fun _ _ _ => rfl) rfl rfl rfl ?_
      refine zf_ial (pc' := 42) dX8_whose_41 rfl (⟨by decide, rfl⟩ : zf_arr 65 24).1 (⟨by decide, rfl⟩ : zf_arr 65 24).2 h.1 rfl ?_
      replace h := h.2
      refine zf_iv (k := 165) (pc' := 45) (r := []) dX8_whose_42 rfl rfl rfl rfl (by decide) rfl rfl rfl (zr_165 (by omega) h) (zf_kI (fun x5 m6 h => ?_))
      refine zf_ld (pc' := 46) (v := .inr (.inr (1, 63))) dX8_whose_45 rfl (fun _ _ _ => rfl) rfl rfl rfl ?_
      refine zf_ld (pc' := 47) (v := .inl v2) dX8_whose_46 rfl (fun _ _ _ => rfl) rfl rfl rfl ?_
      refine zf_ld (pc' := 48) (v := .inr (.inr (1, 63))) dX8_whose_47 rfl (fun _ _ _ => rfl) rfl rfl rfl ?_
      refine zf_gfr (pc' := 51) (b := 65) dX8_whose_48 rfl rfl (by decide) rfl rfl ?_
      refine zf_ld (pc' := 52) (v := .inl v1) dX8_whose_51 rfl (fun _ _ _ => rfl) rfl rfl rfl ?_
      refine zf_ial (pc' := 53) dX8_whose_52 rfl (⟨by decide, rfl⟩ : zf_arr 65 24).1 (⟨by decide, rfl⟩ : zf_arr 65 24).2 h.1 rfl ?_
      replace h := h.2
      refine zf_iv (k := 165) (pc' := 56) (r := [.inl x5]) dX8_whose_53 rfl rfl rfl rfl (by decide) rfl rfl rfl (zr_165 (by omega) h) (zf_kI (fun x7 m8 h => ?_))
      refine zf_icmp_ge (tgt := 61) (pc' := 59) dX8_whose_56 rfl rfl (fun g => ?_) (fun g => ?_)
      · replace h := h.1 g
        refine zf_ii (y := (v3 + 1)) (L2 := [some (.inr (.inr (1, 63))), some (.inl v1), some (.inl v2), some (.inl (v3 + 1))]) (pc' := 64) dX8_whose_61 rfl rfl rfl rfl rfl ?_
        refine zf_goto (tgt := 26) dX8_whose_64 rfl ?_
        exact zf_lo (ih _ _ _ h) ⟨rfl, rfl, rfl, rfl, trivial⟩
      · replace h := h.2 g
        refine zf_ld (pc' := 60) (v := .inl v3) dX8_whose_59 rfl (fun _ _ _ => rfl) rfl rfl rfl ?_
        refine zf_st (pc' := 61) (L2 := [some (.inr (.inr (1, 63))), some (.inl v1), some (.inl v3), some (.inl v3)]) dX8_whose_60 rfl (fun _ _ _ => rfl) rfl rfl rfl rfl rfl rfl ?_
        refine zf_ii (y := (v3 + 1)) (L2 := [some (.inr (.inr (1, 63))), some (.inl v1), some (.inl v3), some (.inl (v3 + 1))]) (pc' := 64) dX8_whose_61 rfl rfl rfl rfl rfl ?_
        refine zf_goto (tgt := 26) dX8_whose_64 rfl ?_
        exact zf_lo (ih _ _ _ h) ⟨rfl, rfl, rfl, rfl, trivial⟩
def wp_185 (v1 : Int32) (m : zf_Me) (Q : Int32 → zf_Me → Prop) : Prop := wp_129 v1 m (fun b1 m2 => ((b1 = false → wp_125 (-5) m2 (fun x3 m4 => Q x3 m4)) ∧ (b1 = true → ((¬ ((m2.1 63 1)).toInt = 0 → (∃ n26, wq_185_26 v1 Q n26 0 1 m2)) ∧ (((m2.1 63 1)).toInt = 0 → wp_125 (-5) m2 (fun x9 m10 => Q x9 m10))))))
theorem zr_185 {d : Nat} (hd : 1 ≤ d) {v1 : Int32} {Q : Int32 → zf_Me → Prop} {m : zf_Me} (h : wp_185 v1 m Q) : zf_M d 185 [.inr (.inr (1, 63)), .inl v1] m (zf_I Q) := by
  obtain ⟨e, rfl⟩ : ∃ z, d = z + 1 := ⟨d - 1, by omega⟩
  unfold wp_185 at h
  refine zf_M_of (Nat.le_of_ble_eq_true rfl) zm_185 (L := [some (.inr (.inr (1, 63))), some (.inl v1), none, none]) rfl ?_
  refine zf_ld (pc' := 1) (v := .inr (.inr (1, 63))) dX8_whose_0 rfl (fun _ _ _ => rfl) rfl rfl rfl ?_
  refine zf_ld (pc' := 2) (v := .inl v1) dX8_whose_1 rfl (fun _ _ _ => rfl) rfl rfl rfl ?_
  refine zf_iv (k := 129) (pc' := 5) (r := []) dX8_whose_2 rfl rfl rfl rfl (by decide) rfl rfl rfl (zr_129 (by omega) h) (zf_kB (fun b1 m2 h => ?_))
  refine zf_ib_eq (tgt := 15) (pc' := 8) dX8_whose_5 rfl rfl (fun g => ?_) (fun g => ?_)
  · replace h := h.1 g
    refine zf_ld (pc' := 16) (v := .inr (.inr (1, 63))) dX8_whose_15 rfl (fun _ _ _ => rfl) rfl rfl rfl ?_
    refine zf_bi (v := (-5)) (pc' := 18) dX8_whose_16 rfl rfl ?_
    refine zf_iv (k := 125) (pc' := 21) (r := []) dX8_whose_18 rfl rfl rfl rfl (by decide) rfl rfl rfl (zr_125 (by omega) h) (zf_kI (fun x3 m4 h => ?_))
    exact zf_ri dX8_whose_21 rfl h
  · replace h := h.2 g
    refine zf_ld (pc' := 9) (v := .inr (.inr (1, 63))) dX8_whose_8 rfl (fun _ _ _ => rfl) rfl rfl rfl ?_
    refine zf_gfi (pc' := 12) dX8_whose_9 rfl rfl (by decide) rfl rfl ?_
    refine zf_if_ne (tgt := 22) (pc' := 15) dX8_whose_12 rfl rfl (fun g => ?_) (fun g => ?_)
    · replace h := h.1 g
      refine zf_ic (v := 0) (pc' := 23) dX8_whose_22 rfl rfl ?_
      refine zf_st (pc' := 24) (L2 := [some (.inr (.inr (1, 63))), some (.inl v1), some (.inl 0), none]) dX8_whose_23 rfl (fun _ _ _ => rfl) rfl rfl rfl rfl rfl rfl ?_
      refine zf_ic (v := 1) (pc' := 25) dX8_whose_24 rfl rfl ?_
      refine zf_st (pc' := 26) (L2 := [some (.inr (.inr (1, 63))), some (.inl v1), some (.inl 0), some (.inl 1)]) dX8_whose_25 rfl (fun _ _ _ => rfl) rfl rfl rfl rfl rfl rfl ?_
      obtain ⟨n26, h⟩ := h
      exact zf_lo (zq_185_26 (by omega) n26 _ _ _ h) ⟨rfl, rfl, rfl, rfl, trivial⟩
    · replace h := h.2 g
      refine zf_ld (pc' := 16) (v := .inr (.inr (1, 63))) dX8_whose_15 rfl (fun _ _ _ => rfl) rfl rfl rfl ?_
      refine zf_bi (v := (-5)) (pc' := 18) dX8_whose_16 rfl rfl ?_
      refine zf_iv (k := 125) (pc' := 21) (r := []) dX8_whose_18 rfl rfl rfl rfl (by decide) rfl rfl rfl (zr_125 (by omega) h) (zf_kI (fun x9 m10 h => ?_))
      exact zf_ri dX8_whose_21 rfl h
def zt_186 : zx_MT := (8, yX8_turn, cX8_turn, 6, (some FieldType.int), 2, 0)
theorem zm_186 : zx_m 186 = zt_186 := rfl
theorem dX8_turn_r0 : zdcP cX8_turn 0 [(.aload_n 0, 1), (.iload_n 1, 1), (.invokevirtual 278, 3), (.ifCond .eq 7, 3), (.iload_n 2, 1), (.ifCond .ge 10, 3), (.aload_n 0, 1), (.bipush (-6), 2), (.invokevirtual 142, 3), (.ireturn, 1), (.aload_n 0, 1), (.aload_n 0, 1), (.getfield 90, 3), (.iconst 0, 1), (.iconst 0, 1), (.invokevirtual 213, 3)] := zdcA_ok (by decide +kernel)
theorem dX8_turn_0 : decode cX8_turn 0 = .ok (.aload_n 0, 1) := dX8_turn_r0.1
theorem dX8_turn_1 : decode cX8_turn 1 = .ok (.iload_n 1, 1) := dX8_turn_r0.2.1
theorem dX8_turn_2 : decode cX8_turn 2 = .ok (.invokevirtual 278, 3) := dX8_turn_r0.2.2.1
theorem dX8_turn_5 : decode cX8_turn 5 = .ok (.ifCond .eq 7, 3) := dX8_turn_r0.2.2.2.1
theorem dX8_turn_8 : decode cX8_turn 8 = .ok (.iload_n 2, 1) := dX8_turn_r0.2.2.2.2.1
theorem dX8_turn_9 : decode cX8_turn 9 = .ok (.ifCond .ge 10, 3) := dX8_turn_r0.2.2.2.2.2.1
theorem dX8_turn_12 : decode cX8_turn 12 = .ok (.aload_n 0, 1) := dX8_turn_r0.2.2.2.2.2.2.1
theorem dX8_turn_13 : decode cX8_turn 13 = .ok (.bipush (-6), 2) := dX8_turn_r0.2.2.2.2.2.2.2.1
theorem dX8_turn_15 : decode cX8_turn 15 = .ok (.invokevirtual 142, 3) := dX8_turn_r0.2.2.2.2.2.2.2.2.1
theorem dX8_turn_18 : decode cX8_turn 18 = .ok (.ireturn, 1) := dX8_turn_r0.2.2.2.2.2.2.2.2.2.1
theorem dX8_turn_19 : decode cX8_turn 19 = .ok (.aload_n 0, 1) := dX8_turn_r0.2.2.2.2.2.2.2.2.2.2.1
theorem dX8_turn_20 : decode cX8_turn 20 = .ok (.aload_n 0, 1) := dX8_turn_r0.2.2.2.2.2.2.2.2.2.2.2.1
theorem dX8_turn_21 : decode cX8_turn 21 = .ok (.getfield 90, 3) := dX8_turn_r0.2.2.2.2.2.2.2.2.2.2.2.2.1
theorem dX8_turn_24 : decode cX8_turn 24 = .ok (.iconst 0, 1) := dX8_turn_r0.2.2.2.2.2.2.2.2.2.2.2.2.2.1
theorem dX8_turn_25 : decode cX8_turn 25 = .ok (.iconst 0, 1) := dX8_turn_r0.2.2.2.2.2.2.2.2.2.2.2.2.2.2.1
theorem dX8_turn_26 : decode cX8_turn 26 = .ok (.invokevirtual 213, 3) := dX8_turn_r0.2.2.2.2.2.2.2.2.2.2.2.2.2.2.2.1
theorem dX8_turn_r29 : zdcP cX8_turn 29 [(.aload_n 0, 1), (.invokevirtual 263, 3), (.aload_n 0, 1), (.getfield 207, 3), (.istore_n 3, 1), (.iconst (-1), 1), (.istore 4, 2), (.iconst 1, 1), (.istore 5, 2), (.iload 5, 2), (.ifCond .eq 37, 3), (.aload_n 0, 1), (.getfield 210, 3), (.bipush 9, 2), (.aload_n 0, 1), (.getfield 207, 3)] := zdcA_ok (by decide +kernel)
theorem dX8_turn_29 : decode cX8_turn 29 = .ok (.aload_n 0, 1) := dX8_turn_r29.1
theorem dX8_turn_30 : decode cX8_turn 30 = .ok (.invokevirtual 263, 3) := dX8_turn_r29.2.1
theorem dX8_turn_33 : decode cX8_turn 33 = .ok (.aload_n 0, 1) := dX8_turn_r29.2.2.1
theorem dX8_turn_34 : decode cX8_turn 34 = .ok (.getfield 207, 3) := dX8_turn_r29.2.2.2.1
theorem dX8_turn_37 : decode cX8_turn 37 = .ok (.istore_n 3, 1) := dX8_turn_r29.2.2.2.2.1
theorem dX8_turn_38 : decode cX8_turn 38 = .ok (.iconst (-1), 1) := dX8_turn_r29.2.2.2.2.2.1
theorem dX8_turn_39 : decode cX8_turn 39 = .ok (.istore 4, 2) := dX8_turn_r29.2.2.2.2.2.2.1
theorem dX8_turn_41 : decode cX8_turn 41 = .ok (.iconst 1, 1) := dX8_turn_r29.2.2.2.2.2.2.2.1
theorem dX8_turn_42 : decode cX8_turn 42 = .ok (.istore 5, 2) := dX8_turn_r29.2.2.2.2.2.2.2.2.1
theorem dX8_turn_44 : decode cX8_turn 44 = .ok (.iload 5, 2) := dX8_turn_r29.2.2.2.2.2.2.2.2.2.1
theorem dX8_turn_46 : decode cX8_turn 46 = .ok (.ifCond .eq 37, 3) := dX8_turn_r29.2.2.2.2.2.2.2.2.2.2.1
theorem dX8_turn_49 : decode cX8_turn 49 = .ok (.aload_n 0, 1) := dX8_turn_r29.2.2.2.2.2.2.2.2.2.2.2.1
theorem dX8_turn_50 : decode cX8_turn 50 = .ok (.getfield 210, 3) := dX8_turn_r29.2.2.2.2.2.2.2.2.2.2.2.2.1
theorem dX8_turn_53 : decode cX8_turn 53 = .ok (.bipush 9, 2) := dX8_turn_r29.2.2.2.2.2.2.2.2.2.2.2.2.2.1
theorem dX8_turn_55 : decode cX8_turn 55 = .ok (.aload_n 0, 1) := dX8_turn_r29.2.2.2.2.2.2.2.2.2.2.2.2.2.2.1
theorem dX8_turn_56 : decode cX8_turn 56 = .ok (.getfield 207, 3) := dX8_turn_r29.2.2.2.2.2.2.2.2.2.2.2.2.2.2.2.1
theorem dX8_turn_r59 : zdcP cX8_turn 59 [(.imul, 1), (.iadd, 1), (.iload_n 2, 1), (.if_icmp .gt 11, 3), (.aload_n 0, 1), (.getfield 207, 3), (.iload_n 3, 1), (.isub, 1), (.istore 4, 2), (.aload_n 0, 1), (.iload_n 1, 1), (.invokevirtual 266, 3), (.istore 5, 2), (.goto (-36), 3), (.aload_n 0, 1), (.invokevirtual 284, 3)] := zdcA_ok (by decide +kernel)
theorem dX8_turn_59 : decode cX8_turn 59 = .ok (.imul, 1) := dX8_turn_r59.1
theorem dX8_turn_60 : decode cX8_turn 60 = .ok (.iadd, 1) := dX8_turn_r59.2.1
theorem dX8_turn_61 : decode cX8_turn 61 = .ok (.iload_n 2, 1) := dX8_turn_r59.2.2.1
theorem dX8_turn_62 : decode cX8_turn 62 = .ok (.if_icmp .gt 11, 3) := dX8_turn_r59.2.2.2.1
theorem dX8_turn_65 : decode cX8_turn 65 = .ok (.aload_n 0, 1) := dX8_turn_r59.2.2.2.2.1
theorem dX8_turn_66 : decode cX8_turn 66 = .ok (.getfield 207, 3) := dX8_turn_r59.2.2.2.2.2.1
theorem dX8_turn_69 : decode cX8_turn 69 = .ok (.iload_n 3, 1) := dX8_turn_r59.2.2.2.2.2.2.1
theorem dX8_turn_70 : decode cX8_turn 70 = .ok (.isub, 1) := dX8_turn_r59.2.2.2.2.2.2.2.1
theorem dX8_turn_71 : decode cX8_turn 71 = .ok (.istore 4, 2) := dX8_turn_r59.2.2.2.2.2.2.2.2.1
theorem dX8_turn_73 : decode cX8_turn 73 = .ok (.aload_n 0, 1) := dX8_turn_r59.2.2.2.2.2.2.2.2.2.1
theorem dX8_turn_74 : decode cX8_turn 74 = .ok (.iload_n 1, 1) := dX8_turn_r59.2.2.2.2.2.2.2.2.2.2.1
theorem dX8_turn_75 : decode cX8_turn 75 = .ok (.invokevirtual 266, 3) := dX8_turn_r59.2.2.2.2.2.2.2.2.2.2.2.1
theorem dX8_turn_78 : decode cX8_turn 78 = .ok (.istore 5, 2) := dX8_turn_r59.2.2.2.2.2.2.2.2.2.2.2.2.1
theorem dX8_turn_80 : decode cX8_turn 80 = .ok (.goto (-36), 3) := dX8_turn_r59.2.2.2.2.2.2.2.2.2.2.2.2.2.1
theorem dX8_turn_83 : decode cX8_turn 83 = .ok (.aload_n 0, 1) := dX8_turn_r59.2.2.2.2.2.2.2.2.2.2.2.2.2.2.1
theorem dX8_turn_84 : decode cX8_turn 84 = .ok (.invokevirtual 284, 3) := dX8_turn_r59.2.2.2.2.2.2.2.2.2.2.2.2.2.2.2.1
theorem dX8_turn_r87 : zdcP cX8_turn 87 [(.iload 4, 2), (.ireturn, 1)] := zdcA_ok (by decide +kernel)
theorem dX8_turn_87 : decode cX8_turn 87 = .ok (.iload 4, 2) := dX8_turn_r87.1
theorem dX8_turn_89 : decode cX8_turn 89 = .ok (.ireturn, 1) := dX8_turn_r87.2.1
def wq_186_44 (v1 : Int32) (v2 : Int32) (Q : Int32 → zf_Me → Prop) : Nat → Int32 → Int32 → Int32 → zf_Me → Prop
  | 0, _, _, _, _ => False
  | n + 1, v3, v4, v5, m => ((v5.toInt = 0 → wp_182 m (fun m10 => Q v4 m10)) ∧ (¬ v5.toInt = 0 → (((((m.1 63 11) + (9 * (m.1 63 10)))).toInt > v2.toInt → wp_179 v1 m (fun b11 m12 => wq_186_44 v1 v2 Q n v3 v4 (zb b11) m12)) ∧ ((((m.1 63 11) + (9 * (m.1 63 10)))).toInt ≤ v2.toInt → wp_179 v1 m (fun b13 m14 => wq_186_44 v1 v2 Q n v3 ((m.1 63 10) - v3) (zb b13) m14)))))
theorem zq_186_44 {d : Nat} (hd : 5 ≤ d) {v1 : Int32} {v2 : Int32} {Q : Int32 → zf_Me → Prop} : ∀ (n : Nat) (v3 : Int32) (v4 : Int32) (v5 : Int32) (m : zf_Me), wq_186_44 v1 v2 Q n v3 v4 v5 m → zf_W none 0 0 d zt_186 44 [some (.inr (.inr (1, 63))), some (.inl v1), some (.inl v2), some (.inl v3), some (.inl v4), some (.inl v5)] [] m (zf_I Q) := by
  obtain ⟨e, rfl⟩ : ∃ z, d = z + 1 := ⟨d - 1, by omega⟩
  intro n
  induction n with
  | zero =>
    intro v3 v4 v5 m h
    exact h.elim
  | succ n ih =>
    intro v3 v4 v5 m h
    unfold wq_186_44 at h
    refine zf_ld (pc' := 46) (v := .inl v5) dX8_turn_44 rfl (fun _ _ _ => rfl) rfl rfl rfl ?_
    refine zf_if_eq (tgt := 83) (pc' := 49) dX8_turn_46 rfl rfl (fun g => ?_) (fun g => ?_)
    · replace h := h.1 g
      refine zf_ld (pc' := 84) (v := .inr (.inr (1, 63))) dX8_turn_83 rfl (fun _ _ _ => rfl) rfl rfl rfl ?_
      refine zf_iv (k := 182) (pc' := 87) (r := []) dX8_turn_84 rfl rfl rfl rfl (by decide) rfl rfl rfl (zr_182 (by omega) h) (zf_kO (fun m10 h => ?_))
      refine zf_ld (pc' := 89) (v := .inl v4) dX8_turn_87 rfl (fun _ _ _ => rfl) rfl rfl rfl ?_
      exact zf_ri dX8_turn_89 rfl h
    · replace h := h.2 g
      refine zf_ld (pc' := 50) (v := .inr (.inr (1, 63))) dX8_turn_49 rfl (fun _ _ _ => rfl) rfl rfl rfl ?_
      refine zf_gfi (pc' := 53) dX8_turn_50 rfl rfl (by decide) rfl rfl ?_
      refine zf_bi (v := 9) (pc' := 55) dX8_turn_53 rfl rfl ?_
      refine zf_ld (pc' := 56) (v := .inr (.inr (1, 63))) dX8_turn_55 rfl (fun _ _ _ => rfl) rfl rfl rfl ?_
      refine zf_gfi (pc' := 59) dX8_turn_56 rfl rfl (by decide) rfl rfl ?_
      refine zf_in (pc' := 60) (S' := [.inl (9 * (m.1 63 10)), .inl (m.1 63 11)]) dX8_turn_59 rfl (fun _ _ _ => rfl) ?_
      refine zf_in (pc' := 61) (S' := [.inl ((m.1 63 11) + (9 * (m.1 63 10)))]) dX8_turn_60 rfl (fun _ _ _ => rfl) ?_
      refine zf_ld (pc' := 62) (v := .inl v2) dX8_turn_61 rfl (fun _ _ _ => rfl) rfl rfl rfl ?_
      refine zf_icmp_gt (tgt := 73) (pc' := 65) dX8_turn_62 rfl rfl (fun g => ?_) (fun g => ?_)
      · replace h := h.1 g
        refine zf_ld (pc' := 74) (v := .inr (.inr (1, 63))) dX8_turn_73 rfl (fun _ _ _ => rfl) rfl rfl rfl ?_
        refine zf_ld (pc' := 75) (v := .inl v1) dX8_turn_74 rfl (fun _ _ _ => rfl) rfl rfl rfl ?_
        refine zf_iv (k := 179) (pc' := 78) (r := []) dX8_turn_75 rfl rfl rfl rfl (by decide) rfl rfl rfl (zr_179 (by omega) h) (zf_kB (fun b11 m12 h => ?_))
        refine zf_st (pc' := 80) (L2 := [some (.inr (.inr (1, 63))), some (.inl v1), some (.inl v2), some (.inl v3), some (.inl v4), some (.inl (zb b11))]) dX8_turn_78 rfl (fun _ _ _ => rfl) rfl rfl rfl rfl rfl rfl ?_
        refine zf_goto (tgt := 44) dX8_turn_80 rfl ?_
        exact zf_lo (ih _ _ _ _ h) ⟨rfl, rfl, rfl, rfl, rfl, rfl, trivial⟩
      · replace h := h.2 g
        refine zf_ld (pc' := 66) (v := .inr (.inr (1, 63))) dX8_turn_65 rfl (fun _ _ _ => rfl) rfl rfl rfl ?_
        refine zf_gfi (pc' := 69) dX8_turn_66 rfl rfl (by decide) rfl rfl ?_
        refine zf_ld (pc' := 70) (v := .inl v3) dX8_turn_69 rfl (fun _ _ _ => rfl) rfl rfl rfl ?_
        refine zf_in (pc' := 71) (S' := [.inl ((m.1 63 10) - v3)]) dX8_turn_70 rfl (fun _ _ _ => rfl) ?_
        refine zf_st (pc' := 73) (L2 := [some (.inr (.inr (1, 63))), some (.inl v1), some (.inl v2), some (.inl v3), some (.inl ((m.1 63 10) - v3)), some (.inl v5)]) dX8_turn_71 rfl (fun _ _ _ => rfl) rfl rfl rfl rfl rfl rfl ?_
        refine zf_ld (pc' := 74) (v := .inr (.inr (1, 63))) dX8_turn_73 rfl (fun _ _ _ => rfl) rfl rfl rfl ?_
        refine zf_ld (pc' := 75) (v := .inl v1) dX8_turn_74 rfl (fun _ _ _ => rfl) rfl rfl rfl ?_
        refine zf_iv (k := 179) (pc' := 78) (r := []) dX8_turn_75 rfl rfl rfl rfl (by decide) rfl rfl rfl (zr_179 (by omega) h) (zf_kB (fun b13 m14 h => ?_))
        refine zf_st (pc' := 80) (L2 := [some (.inr (.inr (1, 63))), some (.inl v1), some (.inl v2), some (.inl v3), some (.inl ((m.1 63 10) - v3)), some (.inl (zb b13))]) dX8_turn_78 rfl (fun _ _ _ => rfl) rfl rfl rfl rfl rfl rfl ?_
        refine zf_goto (tgt := 44) dX8_turn_80 rfl ?_
        exact zf_lo (ih _ _ _ _ h) ⟨rfl, rfl, rfl, rfl, rfl, rfl, trivial⟩
def wp_186 (v1 : Int32) (v2 : Int32) (m : zf_Me) (Q : Int32 → zf_Me → Prop) : Prop := wp_180 v1 m (fun b1 m2 => ((b1 = false → wp_126 (-6) m2 (fun x3 m4 => Q x3 m4)) ∧ (b1 = true → ((v2.toInt ≥ 0 → wp_161 81 90 0 0 m2 (fun m6 => wp_178 m6 (fun m8 => (∃ n44, wq_186_44 v1 v2 Q n44 (m8.1 63 10) (-1) 1 m8)))) ∧ (v2.toInt < 0 → wp_126 (-6) m2 (fun x15 m16 => Q x15 m16))))))
theorem zr_186 {d : Nat} (hd : 5 ≤ d) {v1 : Int32} {v2 : Int32} {Q : Int32 → zf_Me → Prop} {m : zf_Me} (h : wp_186 v1 v2 m Q) : zf_M d 186 [.inr (.inr (1, 63)), .inl v1, .inl v2] m (zf_I Q) := by
  obtain ⟨e, rfl⟩ : ∃ z, d = z + 1 := ⟨d - 1, by omega⟩
  unfold wp_186 at h
  refine zf_M_of (Nat.le_of_ble_eq_true rfl) zm_186 (L := [some (.inr (.inr (1, 63))), some (.inl v1), some (.inl v2), none, none, none]) rfl ?_
  refine zf_ld (pc' := 1) (v := .inr (.inr (1, 63))) dX8_turn_0 rfl (fun _ _ _ => rfl) rfl rfl rfl ?_
  refine zf_ld (pc' := 2) (v := .inl v1) dX8_turn_1 rfl (fun _ _ _ => rfl) rfl rfl rfl ?_
  refine zf_iv (k := 180) (pc' := 5) (r := []) dX8_turn_2 rfl rfl rfl rfl (by decide) rfl rfl rfl (zr_180 (by omega) h) (zf_kB (fun b1 m2 h => ?_))
  refine zf_ib_eq (tgt := 12) (pc' := 8) dX8_turn_5 rfl rfl (fun g => ?_) (fun g => ?_)
  · replace h := h.1 g
    refine zf_ld (pc' := 13) (v := .inr (.inr (1, 63))) dX8_turn_12 rfl (fun _ _ _ => rfl) rfl rfl rfl ?_
    refine zf_bi (v := (-6)) (pc' := 15) dX8_turn_13 rfl rfl ?_
    refine zf_iv (k := 126) (pc' := 18) (r := []) dX8_turn_15 rfl rfl rfl rfl (by decide) rfl rfl rfl (zr_126 (by omega) h) (zf_kI (fun x3 m4 h => ?_))
    exact zf_ri dX8_turn_18 rfl h
  · replace h := h.2 g
    refine zf_ld (pc' := 9) (v := .inl v2) dX8_turn_8 rfl (fun _ _ _ => rfl) rfl rfl rfl ?_
    refine zf_if_ge (tgt := 19) (pc' := 12) dX8_turn_9 rfl rfl (fun g => ?_) (fun g => ?_)
    · replace h := h.1 g
      refine zf_ld (pc' := 20) (v := .inr (.inr (1, 63))) dX8_turn_19 rfl (fun _ _ _ => rfl) rfl rfl rfl ?_
      refine zf_ld (pc' := 21) (v := .inr (.inr (1, 63))) dX8_turn_20 rfl (fun _ _ _ => rfl) rfl rfl rfl ?_
      refine zf_gfr (pc' := 24) (b := 81) dX8_turn_21 rfl rfl (by decide) rfl rfl ?_
      refine zf_ic (v := 0) (pc' := 25) dX8_turn_24 rfl rfl ?_
      refine zf_ic (v := 0) (pc' := 26) dX8_turn_25 rfl rfl ?_
      refine zf_iv (k := 161) (pc' := 29) (r := []) dX8_turn_26 rfl rfl rfl rfl (by decide) rfl rfl rfl (zr_161 (by omega) (⟨by decide, rfl⟩ : zf_arr 81 90) h) (zf_kO (fun m6 h => ?_))
      refine zf_ld (pc' := 30) (v := .inr (.inr (1, 63))) dX8_turn_29 rfl (fun _ _ _ => rfl) rfl rfl rfl ?_
      refine zf_iv (k := 178) (pc' := 33) (r := []) dX8_turn_30 rfl rfl rfl rfl (by decide) rfl rfl rfl (zr_178 (by omega) h) (zf_kO (fun m8 h => ?_))
      refine zf_ld (pc' := 34) (v := .inr (.inr (1, 63))) dX8_turn_33 rfl (fun _ _ _ => rfl) rfl rfl rfl ?_
      refine zf_gfi (pc' := 37) dX8_turn_34 rfl rfl (by decide) rfl rfl ?_
      refine zf_st (pc' := 38) (L2 := [some (.inr (.inr (1, 63))), some (.inl v1), some (.inl v2), some (.inl (m8.1 63 10)), none, none]) dX8_turn_37 rfl (fun _ _ _ => rfl) rfl rfl rfl rfl rfl rfl ?_
      refine zf_ic (v := (-1)) (pc' := 39) dX8_turn_38 rfl rfl ?_
      refine zf_st (pc' := 41) (L2 := [some (.inr (.inr (1, 63))), some (.inl v1), some (.inl v2), some (.inl (m8.1 63 10)), some (.inl (-1)), none]) dX8_turn_39 rfl (fun _ _ _ => rfl) rfl rfl rfl rfl rfl rfl ?_
      refine zf_ic (v := 1) (pc' := 42) dX8_turn_41 rfl rfl ?_
      refine zf_st (pc' := 44) (L2 := [some (.inr (.inr (1, 63))), some (.inl v1), some (.inl v2), some (.inl (m8.1 63 10)), some (.inl (-1)), some (.inl 1)]) dX8_turn_42 rfl (fun _ _ _ => rfl) rfl rfl rfl rfl rfl rfl ?_
      obtain ⟨n44, h⟩ := h
      exact zf_lo (zq_186_44 (by omega) n44 _ _ _ _ h) ⟨rfl, rfl, rfl, rfl, rfl, rfl, trivial⟩
    · replace h := h.2 g
      refine zf_ld (pc' := 13) (v := .inr (.inr (1, 63))) dX8_turn_12 rfl (fun _ _ _ => rfl) rfl rfl rfl ?_
      refine zf_bi (v := (-6)) (pc' := 15) dX8_turn_13 rfl rfl ?_
      refine zf_iv (k := 126) (pc' := 18) (r := []) dX8_turn_15 rfl rfl rfl rfl (by decide) rfl rfl rfl (zr_126 (by omega) h) (zf_kI (fun x15 m16 h => ?_))
      exact zf_ri dX8_turn_18 rfl h
def zt_187 : zx_MT := (8, yX8_pays, cX8_pays, 6, (some FieldType.int), 1, 0)
theorem zm_187 : zx_m 187 = zt_187 := rfl
theorem dX8_pays_r0 : zdcP cX8_pays 0 [(.aload_n 0, 1), (.iload_n 1, 1), (.invokevirtual 278, 3), (.ifCond .ne 10, 3), (.aload_n 0, 1), (.bipush (-6), 2), (.invokevirtual 115, 3), (.ireturn, 1), (.aload_n 0, 1), (.bipush 9, 2), (.invokevirtual 180, 3), (.ifCond .ne 5, 3), (.iconst 0, 1), (.ireturn, 1), (.aload_n 0, 1), (.iload_n 1, 1)] := zdcA_ok (by decide +kernel)
theorem dX8_pays_0 : decode cX8_pays 0 = .ok (.aload_n 0, 1) := dX8_pays_r0.1
theorem dX8_pays_1 : decode cX8_pays 1 = .ok (.iload_n 1, 1) := dX8_pays_r0.2.1
theorem dX8_pays_2 : decode cX8_pays 2 = .ok (.invokevirtual 278, 3) := dX8_pays_r0.2.2.1
theorem dX8_pays_5 : decode cX8_pays 5 = .ok (.ifCond .ne 10, 3) := dX8_pays_r0.2.2.2.1
theorem dX8_pays_8 : decode cX8_pays 8 = .ok (.aload_n 0, 1) := dX8_pays_r0.2.2.2.2.1
theorem dX8_pays_9 : decode cX8_pays 9 = .ok (.bipush (-6), 2) := dX8_pays_r0.2.2.2.2.2.1
theorem dX8_pays_11 : decode cX8_pays 11 = .ok (.invokevirtual 115, 3) := dX8_pays_r0.2.2.2.2.2.2.1
theorem dX8_pays_14 : decode cX8_pays 14 = .ok (.ireturn, 1) := dX8_pays_r0.2.2.2.2.2.2.2.1
theorem dX8_pays_15 : decode cX8_pays 15 = .ok (.aload_n 0, 1) := dX8_pays_r0.2.2.2.2.2.2.2.2.1
theorem dX8_pays_16 : decode cX8_pays 16 = .ok (.bipush 9, 2) := dX8_pays_r0.2.2.2.2.2.2.2.2.2.1
theorem dX8_pays_18 : decode cX8_pays 18 = .ok (.invokevirtual 180, 3) := dX8_pays_r0.2.2.2.2.2.2.2.2.2.2.1
theorem dX8_pays_21 : decode cX8_pays 21 = .ok (.ifCond .ne 5, 3) := dX8_pays_r0.2.2.2.2.2.2.2.2.2.2.2.1
theorem dX8_pays_24 : decode cX8_pays 24 = .ok (.iconst 0, 1) := dX8_pays_r0.2.2.2.2.2.2.2.2.2.2.2.2.1
theorem dX8_pays_25 : decode cX8_pays 25 = .ok (.ireturn, 1) := dX8_pays_r0.2.2.2.2.2.2.2.2.2.2.2.2.2.1
theorem dX8_pays_26 : decode cX8_pays 26 = .ok (.aload_n 0, 1) := dX8_pays_r0.2.2.2.2.2.2.2.2.2.2.2.2.2.2.1
theorem dX8_pays_27 : decode cX8_pays 27 = .ok (.iload_n 1, 1) := dX8_pays_r0.2.2.2.2.2.2.2.2.2.2.2.2.2.2.2.1
theorem dX8_pays_r28 : zdcP cX8_pays 28 [(.invokevirtual 281, 3), (.aload_n 0, 1), (.invokevirtual 284, 3), (.aload_n 0, 1), (.getfield 269, 3), (.istore_n 2, 1), (.aload_n 0, 1), (.getfield 275, 3), (.istore_n 3, 1), (.aload_n 0, 1), (.invokevirtual 241, 3), (.istore 4, 2), (.aload_n 0, 1), (.aload_n 0, 1), (.getfield 84, 3), (.iconst 0, 1)] := zdcA_ok (by decide +kernel)
theorem dX8_pays_28 : decode cX8_pays 28 = .ok (.invokevirtual 281, 3) := dX8_pays_r28.1
theorem dX8_pays_31 : decode cX8_pays 31 = .ok (.aload_n 0, 1) := dX8_pays_r28.2.1
theorem dX8_pays_32 : decode cX8_pays 32 = .ok (.invokevirtual 284, 3) := dX8_pays_r28.2.2.1
theorem dX8_pays_35 : decode cX8_pays 35 = .ok (.aload_n 0, 1) := dX8_pays_r28.2.2.2.1
theorem dX8_pays_36 : decode cX8_pays 36 = .ok (.getfield 269, 3) := dX8_pays_r28.2.2.2.2.1
theorem dX8_pays_39 : decode cX8_pays 39 = .ok (.istore_n 2, 1) := dX8_pays_r28.2.2.2.2.2.1
theorem dX8_pays_40 : decode cX8_pays 40 = .ok (.aload_n 0, 1) := dX8_pays_r28.2.2.2.2.2.2.1
theorem dX8_pays_41 : decode cX8_pays 41 = .ok (.getfield 275, 3) := dX8_pays_r28.2.2.2.2.2.2.2.1
theorem dX8_pays_44 : decode cX8_pays 44 = .ok (.istore_n 3, 1) := dX8_pays_r28.2.2.2.2.2.2.2.2.1
theorem dX8_pays_45 : decode cX8_pays 45 = .ok (.aload_n 0, 1) := dX8_pays_r28.2.2.2.2.2.2.2.2.2.1
theorem dX8_pays_46 : decode cX8_pays 46 = .ok (.invokevirtual 241, 3) := dX8_pays_r28.2.2.2.2.2.2.2.2.2.2.1
theorem dX8_pays_49 : decode cX8_pays 49 = .ok (.istore 4, 2) := dX8_pays_r28.2.2.2.2.2.2.2.2.2.2.2.1
theorem dX8_pays_51 : decode cX8_pays 51 = .ok (.aload_n 0, 1) := dX8_pays_r28.2.2.2.2.2.2.2.2.2.2.2.2.1
theorem dX8_pays_52 : decode cX8_pays 52 = .ok (.aload_n 0, 1) := dX8_pays_r28.2.2.2.2.2.2.2.2.2.2.2.2.2.1
theorem dX8_pays_53 : decode cX8_pays 53 = .ok (.getfield 84, 3) := dX8_pays_r28.2.2.2.2.2.2.2.2.2.2.2.2.2.2.1
theorem dX8_pays_56 : decode cX8_pays 56 = .ok (.iconst 0, 1) := dX8_pays_r28.2.2.2.2.2.2.2.2.2.2.2.2.2.2.2.1
theorem dX8_pays_r57 : zdcP cX8_pays 57 [(.iconst 0, 1), (.invokevirtual 213, 3), (.aload_n 0, 1), (.bipush 9, 2), (.invokevirtual 196, 3), (.aload_n 0, 1), (.iload_n 1, 1), (.invokevirtual 281, 3), (.aload_n 0, 1), (.aload_n 0, 1), (.getfield 84, 3), (.iconst 0, 1), (.iconst 1, 1), (.invokevirtual 213, 3), (.aload_n 0, 1), (.getfield 275, 3)] := zdcA_ok (by decide +kernel)
theorem dX8_pays_57 : decode cX8_pays 57 = .ok (.iconst 0, 1) := dX8_pays_r57.1
theorem dX8_pays_58 : decode cX8_pays 58 = .ok (.invokevirtual 213, 3) := dX8_pays_r57.2.1
theorem dX8_pays_61 : decode cX8_pays 61 = .ok (.aload_n 0, 1) := dX8_pays_r57.2.2.1
theorem dX8_pays_62 : decode cX8_pays 62 = .ok (.bipush 9, 2) := dX8_pays_r57.2.2.2.1
theorem dX8_pays_64 : decode cX8_pays 64 = .ok (.invokevirtual 196, 3) := dX8_pays_r57.2.2.2.2.1
theorem dX8_pays_67 : decode cX8_pays 67 = .ok (.aload_n 0, 1) := dX8_pays_r57.2.2.2.2.2.1
theorem dX8_pays_68 : decode cX8_pays 68 = .ok (.iload_n 1, 1) := dX8_pays_r57.2.2.2.2.2.2.1
theorem dX8_pays_69 : decode cX8_pays 69 = .ok (.invokevirtual 281, 3) := dX8_pays_r57.2.2.2.2.2.2.2.1
theorem dX8_pays_72 : decode cX8_pays 72 = .ok (.aload_n 0, 1) := dX8_pays_r57.2.2.2.2.2.2.2.2.1
theorem dX8_pays_73 : decode cX8_pays 73 = .ok (.aload_n 0, 1) := dX8_pays_r57.2.2.2.2.2.2.2.2.2.1
theorem dX8_pays_74 : decode cX8_pays 74 = .ok (.getfield 84, 3) := dX8_pays_r57.2.2.2.2.2.2.2.2.2.2.1
theorem dX8_pays_77 : decode cX8_pays 77 = .ok (.iconst 0, 1) := dX8_pays_r57.2.2.2.2.2.2.2.2.2.2.2.1
theorem dX8_pays_78 : decode cX8_pays 78 = .ok (.iconst 1, 1) := dX8_pays_r57.2.2.2.2.2.2.2.2.2.2.2.2.1
theorem dX8_pays_79 : decode cX8_pays 79 = .ok (.invokevirtual 213, 3) := dX8_pays_r57.2.2.2.2.2.2.2.2.2.2.2.2.2.1
theorem dX8_pays_82 : decode cX8_pays 82 = .ok (.aload_n 0, 1) := dX8_pays_r57.2.2.2.2.2.2.2.2.2.2.2.2.2.2.1
theorem dX8_pays_83 : decode cX8_pays 83 = .ok (.getfield 275, 3) := dX8_pays_r57.2.2.2.2.2.2.2.2.2.2.2.2.2.2.2.1
theorem dX8_pays_r86 : zdcP cX8_pays 86 [(.iload 4, 2), (.if_icmp .le 10, 3), (.aload_n 0, 1), (.getfield 275, 3), (.goto 5, 3), (.iload 4, 2), (.istore 5, 2), (.aload_n 0, 1), (.getfield 269, 3), (.iload_n 2, 1), (.if_icmp .gt 17, 3), (.aload_n 0, 1), (.getfield 269, 3), (.iload_n 2, 1), (.if_icmp .ne 13, 3), (.iload 5, 2)] := zdcA_ok (by decide +kernel)
theorem dX8_pays_86 : decode cX8_pays 86 = .ok (.iload 4, 2) := dX8_pays_r86.1
theorem dX8_pays_88 : decode cX8_pays 88 = .ok (.if_icmp .le 10, 3) := dX8_pays_r86.2.1
theorem dX8_pays_91 : decode cX8_pays 91 = .ok (.aload_n 0, 1) := dX8_pays_r86.2.2.1
theorem dX8_pays_92 : decode cX8_pays 92 = .ok (.getfield 275, 3) := dX8_pays_r86.2.2.2.1
theorem dX8_pays_95 : decode cX8_pays 95 = .ok (.goto 5, 3) := dX8_pays_r86.2.2.2.2.1
theorem dX8_pays_98 : decode cX8_pays 98 = .ok (.iload 4, 2) := dX8_pays_r86.2.2.2.2.2.1
theorem dX8_pays_100 : decode cX8_pays 100 = .ok (.istore 5, 2) := dX8_pays_r86.2.2.2.2.2.2.1
theorem dX8_pays_102 : decode cX8_pays 102 = .ok (.aload_n 0, 1) := dX8_pays_r86.2.2.2.2.2.2.2.1
theorem dX8_pays_103 : decode cX8_pays 103 = .ok (.getfield 269, 3) := dX8_pays_r86.2.2.2.2.2.2.2.2.1
theorem dX8_pays_106 : decode cX8_pays 106 = .ok (.iload_n 2, 1) := dX8_pays_r86.2.2.2.2.2.2.2.2.2.1
theorem dX8_pays_107 : decode cX8_pays 107 = .ok (.if_icmp .gt 17, 3) := dX8_pays_r86.2.2.2.2.2.2.2.2.2.2.1
theorem dX8_pays_110 : decode cX8_pays 110 = .ok (.aload_n 0, 1) := dX8_pays_r86.2.2.2.2.2.2.2.2.2.2.2.1
theorem dX8_pays_111 : decode cX8_pays 111 = .ok (.getfield 269, 3) := dX8_pays_r86.2.2.2.2.2.2.2.2.2.2.2.2.1
theorem dX8_pays_114 : decode cX8_pays 114 = .ok (.iload_n 2, 1) := dX8_pays_r86.2.2.2.2.2.2.2.2.2.2.2.2.2.1
theorem dX8_pays_115 : decode cX8_pays 115 = .ok (.if_icmp .ne 13, 3) := dX8_pays_r86.2.2.2.2.2.2.2.2.2.2.2.2.2.2.1
theorem dX8_pays_118 : decode cX8_pays 118 = .ok (.iload 5, 2) := dX8_pays_r86.2.2.2.2.2.2.2.2.2.2.2.2.2.2.2.1
theorem dX8_pays_r120 : zdcP cX8_pays 120 [(.iload_n 3, 1), (.if_icmp .ge 7, 3), (.iconst 1, 1), (.goto 4, 3), (.iconst 0, 1), (.ireturn, 1)] := zdcA_ok (by decide +kernel)
theorem dX8_pays_120 : decode cX8_pays 120 = .ok (.iload_n 3, 1) := dX8_pays_r120.1
theorem dX8_pays_121 : decode cX8_pays 121 = .ok (.if_icmp .ge 7, 3) := dX8_pays_r120.2.1
theorem dX8_pays_124 : decode cX8_pays 124 = .ok (.iconst 1, 1) := dX8_pays_r120.2.2.1
theorem dX8_pays_125 : decode cX8_pays 125 = .ok (.goto 4, 3) := dX8_pays_r120.2.2.2.1
theorem dX8_pays_128 : decode cX8_pays 128 = .ok (.iconst 0, 1) := dX8_pays_r120.2.2.2.2.1
theorem dX8_pays_129 : decode cX8_pays 129 = .ok (.ireturn, 1) := dX8_pays_r120.2.2.2.2.2.1
def wq_187_100 (v1 : Int32) (v2 : Int32) (v3 : Int32) (u0 : Int32) (m : zf_Me) (Q : Int32 → zf_Me → Prop) : Prop := ((((m.1 63 47)).toInt > v2.toInt → Q 1 m) ∧ (((m.1 63 47)).toInt ≤ v2.toInt → ((¬ ((m.1 63 47)).toInt = v2.toInt → Q 0 m) ∧ (((m.1 63 47)).toInt = v2.toInt → ((u0.toInt ≥ v3.toInt → Q 0 m) ∧ (u0.toInt < v3.toInt → Q 1 m))))))
theorem zq_187_100 {d : Nat} (hd : 6 ≤ d) {v1 : Int32} {Q : Int32 → zf_Me → Prop} {v2 : Int32} {v3 : Int32} {u0 : Int32} {m : zf_Me} (h : wq_187_100 v1 v2 v3 u0 m Q) : zf_W none 0 0 d zt_187 100 [some (.inr (.inr (1, 63))), none, some (.inl v2), some (.inl v3), none, none] [.inl u0] m (zf_I Q) := by
  unfold wq_187_100 at h
  refine zf_st (pc' := 102) (L2 := [some (.inr (.inr (1, 63))), none, some (.inl v2), some (.inl v3), none, some (.inl u0)]) dX8_pays_100 rfl (fun _ _ _ => rfl) rfl rfl rfl rfl rfl rfl ?_
  refine zf_ld (pc' := 103) (v := .inr (.inr (1, 63))) dX8_pays_102 rfl (fun _ _ _ => rfl) rfl rfl rfl ?_
  refine zf_gfi (pc' := 106) dX8_pays_103 rfl rfl (by decide) rfl rfl ?_
  refine zf_ld (pc' := 107) (v := .inl v2) dX8_pays_106 rfl (fun _ _ _ => rfl) rfl rfl rfl ?_
  refine zf_icmp_gt (tgt := 124) (pc' := 110) dX8_pays_107 rfl rfl (fun g => ?_) (fun g => ?_)
  · replace h := h.1 g
    refine zf_ic (v := 1) (pc' := 125) dX8_pays_124 rfl rfl ?_
    refine zf_goto (tgt := 129) dX8_pays_125 rfl ?_
    exact zf_ri dX8_pays_129 rfl h
  · replace h := h.2 g
    refine zf_ld (pc' := 111) (v := .inr (.inr (1, 63))) dX8_pays_110 rfl (fun _ _ _ => rfl) rfl rfl rfl ?_
    refine zf_gfi (pc' := 114) dX8_pays_111 rfl rfl (by decide) rfl rfl ?_
    refine zf_ld (pc' := 115) (v := .inl v2) dX8_pays_114 rfl (fun _ _ _ => rfl) rfl rfl rfl ?_
    refine zf_icmp_ne (tgt := 128) (pc' := 118) dX8_pays_115 rfl rfl (fun g => ?_) (fun g => ?_)
    · replace h := h.1 g
      refine zf_ic (v := 0) (pc' := 129) dX8_pays_128 rfl rfl ?_
      exact zf_ri dX8_pays_129 rfl h
    · replace h := h.2 g
      refine zf_ld (pc' := 120) (v := .inl u0) dX8_pays_118 rfl (fun _ _ _ => rfl) rfl rfl rfl ?_
      refine zf_ld (pc' := 121) (v := .inl v3) dX8_pays_120 rfl (fun _ _ _ => rfl) rfl rfl rfl ?_
      refine zf_icmp_ge (tgt := 128) (pc' := 124) dX8_pays_121 rfl rfl (fun g => ?_) (fun g => ?_)
      · replace h := h.1 g
        refine zf_ic (v := 0) (pc' := 129) dX8_pays_128 rfl rfl ?_
        exact zf_ri dX8_pays_129 rfl h
      · replace h := h.2 g
        refine zf_ic (v := 1) (pc' := 125) dX8_pays_124 rfl rfl ?_
        refine zf_goto (tgt := 129) dX8_pays_125 rfl ?_
        exact zf_ri dX8_pays_129 rfl h
def wp_187 (v1 : Int32) (m : zf_Me) (Q : Int32 → zf_Me → Prop) : Prop := wp_180 v1 m (fun b1 m2 => ((b1 = true → wp_167 9 m2 (fun b3 m4 => ((b3 = true → wp_181 v1 m4 (fun m6 => wp_182 m6 (fun m8 => wp_170 m8 (fun x9 m10 => wp_161 79 90 0 0 m10 (fun m12 => wp_169 9 m12 (fun m14 => wp_181 v1 m14 (fun m16 => wp_161 79 90 0 1 m16 (fun m18 => ((((m18.1 63 49)).toInt ≤ x9.toInt → wq_187_100 v1 (m8.1 63 47) (m8.1 63 49) x9 m18 Q) ∧ (((m18.1 63 49)).toInt > x9.toInt → wq_187_100 v1 (m8.1 63 47) (m8.1 63 49) (m18.1 63 49) m18 Q)))))))))) ∧ (b3 = false → Q 0 m4)))) ∧ (b1 = false → wp_125 (-6) m2 (fun x19 m20 => Q x19 m20))))
theorem zr_187 {d : Nat} (hd : 6 ≤ d) {v1 : Int32} {Q : Int32 → zf_Me → Prop} {m : zf_Me} (h : wp_187 v1 m Q) : zf_M d 187 [.inr (.inr (1, 63)), .inl v1] m (zf_I Q) := by
  obtain ⟨e, rfl⟩ : ∃ z, d = z + 1 := ⟨d - 1, by omega⟩
  unfold wp_187 at h
  refine zf_M_of (Nat.le_of_ble_eq_true rfl) zm_187 (L := [some (.inr (.inr (1, 63))), some (.inl v1), none, none, none, none]) rfl ?_
  refine zf_ld (pc' := 1) (v := .inr (.inr (1, 63))) dX8_pays_0 rfl (fun _ _ _ => rfl) rfl rfl rfl ?_
  refine zf_ld (pc' := 2) (v := .inl v1) dX8_pays_1 rfl (fun _ _ _ => rfl) rfl rfl rfl ?_
  refine zf_iv (k := 180) (pc' := 5) (r := []) dX8_pays_2 rfl rfl rfl rfl (by decide) rfl rfl rfl (zr_180 (by omega) h) (zf_kB (fun b1 m2 h => ?_))
  refine zf_ib_ne (tgt := 15) (pc' := 8) dX8_pays_5 rfl rfl (fun g => ?_) (fun g => ?_)
  · replace h := h.1 g
    refine zf_ld (pc' := 16) (v := .inr (.inr (1, 63))) dX8_pays_15 rfl (fun _ _ _ => rfl) rfl rfl rfl ?_
    refine zf_bi (v := 9) (pc' := 18) dX8_pays_16 rfl rfl ?_
    refine zf_iv (k := 167) (pc' := 21) (r := []) dX8_pays_18 rfl rfl rfl rfl (by decide) rfl rfl rfl (zr_167 (by omega) h) (zf_kB (fun b3 m4 h => ?_))
    refine zf_ib_ne (tgt := 26) (pc' := 24) dX8_pays_21 rfl rfl (fun g => ?_) (fun g => ?_)
    · replace h := h.1 g
      refine zf_ld (pc' := 27) (v := .inr (.inr (1, 63))) dX8_pays_26 rfl (fun _ _ _ => rfl) rfl rfl rfl ?_
      refine zf_ld (pc' := 28) (v := .inl v1) dX8_pays_27 rfl (fun _ _ _ => rfl) rfl rfl rfl ?_
      refine zf_iv (k := 181) (pc' := 31) (r := []) dX8_pays_28 rfl rfl rfl rfl (by decide) rfl rfl rfl (zr_181 (by omega) h) (zf_kO (fun m6 h => ?_))
      refine zf_ld (pc' := 32) (v := .inr (.inr (1, 63))) dX8_pays_31 rfl (fun _ _ _ => rfl) rfl rfl rfl ?_
      refine zf_iv (k := 182) (pc' := 35) (r := []) dX8_pays_32 rfl rfl rfl rfl (by decide) rfl rfl rfl (zr_182 (by omega) h) (zf_kO (fun m8 h => ?_))
      refine zf_ld (pc' := 36) (v := .inr (.inr (1, 63))) dX8_pays_35 rfl (fun _ _ _ => rfl) rfl rfl rfl ?_
      refine zf_gfi (pc' := 39) dX8_pays_36 rfl rfl (by decide) rfl rfl ?_
      refine zf_st (pc' := 40) (L2 := [some (.inr (.inr (1, 63))), some (.inl v1), some (.inl (m8.1 63 47)), none, none, none]) dX8_pays_39 rfl (fun _ _ _ => rfl) rfl rfl rfl rfl rfl rfl ?_
      refine zf_ld (pc' := 41) (v := .inr (.inr (1, 63))) dX8_pays_40 rfl (fun _ _ _ => rfl) rfl rfl rfl ?_
      refine zf_gfi (pc' := 44) dX8_pays_41 rfl rfl (by decide) rfl rfl ?_
      refine zf_st (pc' := 45) (L2 := [some (.inr (.inr (1, 63))), some (.inl v1), some (.inl (m8.1 63 47)), some (.inl (m8.1 63 49)), none, none]) dX8_pays_44 rfl (fun _ _ _ => rfl) rfl rfl rfl rfl rfl rfl ?_
      refine zf_ld (pc' := 46) (v := .inr (.inr (1, 63))) dX8_pays_45 rfl (fun _ _ _ => rfl) rfl rfl rfl ?_
      refine zf_iv (k := 170) (pc' := 49) (r := []) dX8_pays_46 rfl rfl rfl rfl (by decide) rfl rfl rfl (zr_170 (by omega) h) (zf_kI (fun x9 m10 h => ?_))
      refine zf_st (pc' := 51) (L2 := [some (.inr (.inr (1, 63))), some (.inl v1), some (.inl (m8.1 63 47)), some (.inl (m8.1 63 49)), some (.inl x9), none]) dX8_pays_49 rfl (fun _ _ _ => rfl) rfl rfl rfl rfl rfl rfl ?_
      refine zf_ld (pc' := 52) (v := .inr (.inr (1, 63))) dX8_pays_51 rfl (fun _ _ _ => rfl) rfl rfl rfl ?_
      refine zf_ld (pc' := 53) (v := .inr (.inr (1, 63))) dX8_pays_52 rfl (fun _ _ _ => rfl) rfl rfl rfl ?_
      refine zf_gfr (pc' := 56) (b := 79) dX8_pays_53 rfl rfl (by decide) rfl rfl ?_
      refine zf_ic (v := 0) (pc' := 57) dX8_pays_56 rfl rfl ?_
      refine zf_ic (v := 0) (pc' := 58) dX8_pays_57 rfl rfl ?_
      refine zf_iv (k := 161) (pc' := 61) (r := []) dX8_pays_58 rfl rfl rfl rfl (by decide) rfl rfl rfl (zr_161 (by omega) (⟨by decide, rfl⟩ : zf_arr 79 90) h) (zf_kO (fun m12 h => ?_))
      refine zf_ld (pc' := 62) (v := .inr (.inr (1, 63))) dX8_pays_61 rfl (fun _ _ _ => rfl) rfl rfl rfl ?_
      refine zf_bi (v := 9) (pc' := 64) dX8_pays_62 rfl rfl ?_
      refine zf_iv (k := 169) (pc' := 67) (r := []) dX8_pays_64 rfl rfl rfl rfl (by decide) rfl rfl rfl (zr_169 (by omega) h) (zf_kO (fun m14 h => ?_))
      refine zf_ld (pc' := 68) (v := .inr (.inr (1, 63))) dX8_pays_67 rfl (fun _ _ _ => rfl) rfl rfl rfl ?_
      refine zf_ld (pc' := 69) (v := .inl v1) dX8_pays_68 rfl (fun _ _ _ => rfl) rfl rfl rfl ?_
      refine zf_iv (k := 181) (pc' := 72) (r := []) dX8_pays_69 rfl rfl rfl rfl (by decide) rfl rfl rfl (zr_181 (by omega) h) (zf_kO (fun m16 h => ?_))
      refine zf_ld (pc' := 73) (v := .inr (.inr (1, 63))) dX8_pays_72 rfl (fun _ _ _ => rfl) rfl rfl rfl ?_
      refine zf_ld (pc' := 74) (v := .inr (.inr (1, 63))) dX8_pays_73 rfl (fun _ _ _ => rfl) rfl rfl rfl ?_
      refine zf_gfr (pc' := 77) (b := 79) dX8_pays_74 rfl rfl (by decide) rfl rfl ?_
      refine zf_ic (v := 0) (pc' := 78) dX8_pays_77 rfl rfl ?_
      refine zf_ic (v := 1) (pc' := 79) dX8_pays_78 rfl rfl ?_
      refine zf_iv (k := 161) (pc' := 82) (r := []) dX8_pays_79 rfl rfl rfl rfl (by decide) rfl rfl rfl (zr_161 (by omega) (⟨by decide, rfl⟩ : zf_arr 79 90) h) (zf_kO (fun m18 h => ?_))
      refine zf_ld (pc' := 83) (v := .inr (.inr (1, 63))) dX8_pays_82 rfl (fun _ _ _ => rfl) rfl rfl rfl ?_
      refine zf_gfi (pc' := 86) dX8_pays_83 rfl rfl (by decide) rfl rfl ?_
      refine zf_ld (pc' := 88) (v := .inl x9) dX8_pays_86 rfl (fun _ _ _ => rfl) rfl rfl rfl ?_
      refine zf_icmp_le (tgt := 98) (pc' := 91) dX8_pays_88 rfl rfl (fun g => ?_) (fun g => ?_)
      · replace h := h.1 g
        refine zf_ld (pc' := 100) (v := .inl x9) dX8_pays_98 rfl (fun _ _ _ => rfl) rfl rfl rfl ?_
        exact zf_lo (zq_187_100 (by omega) h) ⟨rfl, rfl, rfl, trivial⟩
      · replace h := h.2 g
        refine zf_ld (pc' := 92) (v := .inr (.inr (1, 63))) dX8_pays_91 rfl (fun _ _ _ => rfl) rfl rfl rfl ?_
        refine zf_gfi (pc' := 95) dX8_pays_92 rfl rfl (by decide) rfl rfl ?_
        refine zf_goto (tgt := 100) dX8_pays_95 rfl ?_
        exact zf_lo (zq_187_100 (by omega) h) ⟨rfl, rfl, rfl, trivial⟩
    · replace h := h.2 g
      refine zf_ic (v := 0) (pc' := 25) dX8_pays_24 rfl rfl ?_
      exact zf_ri dX8_pays_25 rfl h
  · replace h := h.2 g
    refine zf_ld (pc' := 9) (v := .inr (.inr (1, 63))) dX8_pays_8 rfl (fun _ _ _ => rfl) rfl rfl rfl ?_
    refine zf_bi (v := (-6)) (pc' := 11) dX8_pays_9 rfl rfl ?_
    refine zf_iv (k := 125) (pc' := 14) (r := []) dX8_pays_11 rfl rfl rfl rfl (by decide) rfl rfl rfl (zr_125 (by omega) h) (zf_kI (fun x19 m20 h => ?_))
    exact zf_ri dX8_pays_14 rfl h
def zt_188 : zx_MT := (8, yX8_bagged, cX8_bagged, 7, (some FieldType.int), 1, 0)
theorem zm_188 : zx_m 188 = zt_188 := rfl
theorem dX8_bagged_r0 : zdcP cX8_bagged 0 [(.aload_n 0, 1), (.iload_n 1, 1), (.invokevirtual 278, 3), (.ifCond .ne 10, 3), (.aload_n 0, 1), (.bipush (-6), 2), (.invokevirtual 142, 3), (.ireturn, 1), (.aload_n 0, 1), (.getfield 9, 3), (.istore_n 2, 1), (.iconst (-1), 1), (.istore_n 3, 1), (.iconst (-1), 1), (.istore 4, 2), (.iconst 0, 1)] := zdcA_ok (by decide +kernel)
theorem dX8_bagged_0 : decode cX8_bagged 0 = .ok (.aload_n 0, 1) := dX8_bagged_r0.1
theorem dX8_bagged_1 : decode cX8_bagged 1 = .ok (.iload_n 1, 1) := dX8_bagged_r0.2.1
theorem dX8_bagged_2 : decode cX8_bagged 2 = .ok (.invokevirtual 278, 3) := dX8_bagged_r0.2.2.1
theorem dX8_bagged_5 : decode cX8_bagged 5 = .ok (.ifCond .ne 10, 3) := dX8_bagged_r0.2.2.2.1
theorem dX8_bagged_8 : decode cX8_bagged 8 = .ok (.aload_n 0, 1) := dX8_bagged_r0.2.2.2.2.1
theorem dX8_bagged_9 : decode cX8_bagged 9 = .ok (.bipush (-6), 2) := dX8_bagged_r0.2.2.2.2.2.1
theorem dX8_bagged_11 : decode cX8_bagged 11 = .ok (.invokevirtual 142, 3) := dX8_bagged_r0.2.2.2.2.2.2.1
theorem dX8_bagged_14 : decode cX8_bagged 14 = .ok (.ireturn, 1) := dX8_bagged_r0.2.2.2.2.2.2.2.1
theorem dX8_bagged_15 : decode cX8_bagged 15 = .ok (.aload_n 0, 1) := dX8_bagged_r0.2.2.2.2.2.2.2.2.1
theorem dX8_bagged_16 : decode cX8_bagged 16 = .ok (.getfield 9, 3) := dX8_bagged_r0.2.2.2.2.2.2.2.2.2.1
theorem dX8_bagged_19 : decode cX8_bagged 19 = .ok (.istore_n 2, 1) := dX8_bagged_r0.2.2.2.2.2.2.2.2.2.2.1
theorem dX8_bagged_20 : decode cX8_bagged 20 = .ok (.iconst (-1), 1) := dX8_bagged_r0.2.2.2.2.2.2.2.2.2.2.2.1
theorem dX8_bagged_21 : decode cX8_bagged 21 = .ok (.istore_n 3, 1) := dX8_bagged_r0.2.2.2.2.2.2.2.2.2.2.2.2.1
theorem dX8_bagged_22 : decode cX8_bagged 22 = .ok (.iconst (-1), 1) := dX8_bagged_r0.2.2.2.2.2.2.2.2.2.2.2.2.2.1
theorem dX8_bagged_23 : decode cX8_bagged 23 = .ok (.istore 4, 2) := dX8_bagged_r0.2.2.2.2.2.2.2.2.2.2.2.2.2.2.1
theorem dX8_bagged_25 : decode cX8_bagged 25 = .ok (.iconst 0, 1) := dX8_bagged_r0.2.2.2.2.2.2.2.2.2.2.2.2.2.2.2.1
theorem dX8_bagged_r26 : zdcP cX8_bagged 26 [(.istore 5, 2), (.iconst (-1), 1), (.istore 6, 2), (.iload 6, 2), (.aload_n 0, 1), (.getfield 105, 3), (.if_icmp .ge 75, 3), (.aload_n 0, 1), (.iload 6, 2), (.putfield 9, 3), (.aload_n 0, 1), (.iload_n 1, 1), (.invokevirtual 281, 3), (.aload_n 0, 1), (.invokevirtual 284, 3), (.iload 4, 2)] := zdcA_ok (by decide +kernel)
theorem dX8_bagged_26 : decode cX8_bagged 26 = .ok (.istore 5, 2) := dX8_bagged_r26.1
theorem dX8_bagged_28 : decode cX8_bagged 28 = .ok (.iconst (-1), 1) := dX8_bagged_r26.2.1
theorem dX8_bagged_29 : decode cX8_bagged 29 = .ok (.istore 6, 2) := dX8_bagged_r26.2.2.1
theorem dX8_bagged_31 : decode cX8_bagged 31 = .ok (.iload 6, 2) := dX8_bagged_r26.2.2.2.1
theorem dX8_bagged_33 : decode cX8_bagged 33 = .ok (.aload_n 0, 1) := dX8_bagged_r26.2.2.2.2.1
theorem dX8_bagged_34 : decode cX8_bagged 34 = .ok (.getfield 105, 3) := dX8_bagged_r26.2.2.2.2.2.1
theorem dX8_bagged_37 : decode cX8_bagged 37 = .ok (.if_icmp .ge 75, 3) := dX8_bagged_r26.2.2.2.2.2.2.1
theorem dX8_bagged_40 : decode cX8_bagged 40 = .ok (.aload_n 0, 1) := dX8_bagged_r26.2.2.2.2.2.2.2.1
theorem dX8_bagged_41 : decode cX8_bagged 41 = .ok (.iload 6, 2) := dX8_bagged_r26.2.2.2.2.2.2.2.2.1
theorem dX8_bagged_43 : decode cX8_bagged 43 = .ok (.putfield 9, 3) := dX8_bagged_r26.2.2.2.2.2.2.2.2.2.1
theorem dX8_bagged_46 : decode cX8_bagged 46 = .ok (.aload_n 0, 1) := dX8_bagged_r26.2.2.2.2.2.2.2.2.2.2.1
theorem dX8_bagged_47 : decode cX8_bagged 47 = .ok (.iload_n 1, 1) := dX8_bagged_r26.2.2.2.2.2.2.2.2.2.2.2.1
theorem dX8_bagged_48 : decode cX8_bagged 48 = .ok (.invokevirtual 281, 3) := dX8_bagged_r26.2.2.2.2.2.2.2.2.2.2.2.2.1
theorem dX8_bagged_51 : decode cX8_bagged 51 = .ok (.aload_n 0, 1) := dX8_bagged_r26.2.2.2.2.2.2.2.2.2.2.2.2.2.1
theorem dX8_bagged_52 : decode cX8_bagged 52 = .ok (.invokevirtual 284, 3) := dX8_bagged_r26.2.2.2.2.2.2.2.2.2.2.2.2.2.2.1
theorem dX8_bagged_55 : decode cX8_bagged 55 = .ok (.iload 4, 2) := dX8_bagged_r26.2.2.2.2.2.2.2.2.2.2.2.2.2.2.2.1
theorem dX8_bagged_r57 : zdcP cX8_bagged 57 [(.iconst (-1), 1), (.if_icmp .eq 33, 3), (.aload_n 0, 1), (.getfield 269, 3), (.iload 4, 2), (.if_icmp .lt 39, 3), (.aload_n 0, 1), (.getfield 269, 3), (.iload 4, 2), (.if_icmp .ne 15, 3), (.aload_n 0, 1), (.getfield 275, 3), (.iload 5, 2), (.if_icmp .lt 6, 3), (.goto 18, 3), (.iload 6, 2)] := zdcA_ok (by decide +kernel)
theorem dX8_bagged_57 : decode cX8_bagged 57 = .ok (.iconst (-1), 1) := dX8_bagged_r57.1
theorem dX8_bagged_58 : decode cX8_bagged 58 = .ok (.if_icmp .eq 33, 3) := dX8_bagged_r57.2.1
theorem dX8_bagged_61 : decode cX8_bagged 61 = .ok (.aload_n 0, 1) := dX8_bagged_r57.2.2.1
theorem dX8_bagged_62 : decode cX8_bagged 62 = .ok (.getfield 269, 3) := dX8_bagged_r57.2.2.2.1
theorem dX8_bagged_65 : decode cX8_bagged 65 = .ok (.iload 4, 2) := dX8_bagged_r57.2.2.2.2.1
theorem dX8_bagged_67 : decode cX8_bagged 67 = .ok (.if_icmp .lt 39, 3) := dX8_bagged_r57.2.2.2.2.2.1
theorem dX8_bagged_70 : decode cX8_bagged 70 = .ok (.aload_n 0, 1) := dX8_bagged_r57.2.2.2.2.2.2.1
theorem dX8_bagged_71 : decode cX8_bagged 71 = .ok (.getfield 269, 3) := dX8_bagged_r57.2.2.2.2.2.2.2.1
theorem dX8_bagged_74 : decode cX8_bagged 74 = .ok (.iload 4, 2) := dX8_bagged_r57.2.2.2.2.2.2.2.2.1
theorem dX8_bagged_76 : decode cX8_bagged 76 = .ok (.if_icmp .ne 15, 3) := dX8_bagged_r57.2.2.2.2.2.2.2.2.2.1
theorem dX8_bagged_79 : decode cX8_bagged 79 = .ok (.aload_n 0, 1) := dX8_bagged_r57.2.2.2.2.2.2.2.2.2.2.1
theorem dX8_bagged_80 : decode cX8_bagged 80 = .ok (.getfield 275, 3) := dX8_bagged_r57.2.2.2.2.2.2.2.2.2.2.2.1
theorem dX8_bagged_83 : decode cX8_bagged 83 = .ok (.iload 5, 2) := dX8_bagged_r57.2.2.2.2.2.2.2.2.2.2.2.2.1
theorem dX8_bagged_85 : decode cX8_bagged 85 = .ok (.if_icmp .lt 6, 3) := dX8_bagged_r57.2.2.2.2.2.2.2.2.2.2.2.2.2.1
theorem dX8_bagged_88 : decode cX8_bagged 88 = .ok (.goto 18, 3) := dX8_bagged_r57.2.2.2.2.2.2.2.2.2.2.2.2.2.2.1
theorem dX8_bagged_91 : decode cX8_bagged 91 = .ok (.iload 6, 2) := dX8_bagged_r57.2.2.2.2.2.2.2.2.2.2.2.2.2.2.2.1
theorem dX8_bagged_r93 : zdcP cX8_bagged 93 [(.istore_n 3, 1), (.aload_n 0, 1), (.getfield 269, 3), (.istore 4, 2), (.aload_n 0, 1), (.getfield 275, 3), (.istore 5, 2), (.iinc 6 1, 3), (.goto (-78), 3), (.aload_n 0, 1), (.iload_n 2, 1), (.putfield 9, 3), (.iload_n 3, 1), (.ireturn, 1)] := zdcA_ok (by decide +kernel)
theorem dX8_bagged_93 : decode cX8_bagged 93 = .ok (.istore_n 3, 1) := dX8_bagged_r93.1
theorem dX8_bagged_94 : decode cX8_bagged 94 = .ok (.aload_n 0, 1) := dX8_bagged_r93.2.1
theorem dX8_bagged_95 : decode cX8_bagged 95 = .ok (.getfield 269, 3) := dX8_bagged_r93.2.2.1
theorem dX8_bagged_98 : decode cX8_bagged 98 = .ok (.istore 4, 2) := dX8_bagged_r93.2.2.2.1
theorem dX8_bagged_100 : decode cX8_bagged 100 = .ok (.aload_n 0, 1) := dX8_bagged_r93.2.2.2.2.1
theorem dX8_bagged_101 : decode cX8_bagged 101 = .ok (.getfield 275, 3) := dX8_bagged_r93.2.2.2.2.2.1
theorem dX8_bagged_104 : decode cX8_bagged 104 = .ok (.istore 5, 2) := dX8_bagged_r93.2.2.2.2.2.2.1
theorem dX8_bagged_106 : decode cX8_bagged 106 = .ok (.iinc 6 1, 3) := dX8_bagged_r93.2.2.2.2.2.2.2.1
theorem dX8_bagged_109 : decode cX8_bagged 109 = .ok (.goto (-78), 3) := dX8_bagged_r93.2.2.2.2.2.2.2.2.1
theorem dX8_bagged_112 : decode cX8_bagged 112 = .ok (.aload_n 0, 1) := dX8_bagged_r93.2.2.2.2.2.2.2.2.2.1
theorem dX8_bagged_113 : decode cX8_bagged 113 = .ok (.iload_n 2, 1) := dX8_bagged_r93.2.2.2.2.2.2.2.2.2.2.1
theorem dX8_bagged_114 : decode cX8_bagged 114 = .ok (.putfield 9, 3) := dX8_bagged_r93.2.2.2.2.2.2.2.2.2.2.2.1
theorem dX8_bagged_117 : decode cX8_bagged 117 = .ok (.iload_n 3, 1) := dX8_bagged_r93.2.2.2.2.2.2.2.2.2.2.2.2.1
theorem dX8_bagged_118 : decode cX8_bagged 118 = .ok (.ireturn, 1) := dX8_bagged_r93.2.2.2.2.2.2.2.2.2.2.2.2.2.1
def wq_188_91 (v1 : Int32) (F31 : Int32 → Int32 → Int32 → Int32 → Int32 → zf_Me → Prop) (v2 : Int32) (v6 : Int32) (m : zf_Me) (Q : Int32 → zf_Me → Prop) : Prop := F31 v2 v6 (m.1 63 47) (m.1 63 49) (v6 + 1) m
theorem zq_188_91 {d : Nat} (hd : 6 ≤ d) {v1 : Int32} {F31 : Int32 → Int32 → Int32 → Int32 → Int32 → zf_Me → Prop} {Q : Int32 → zf_Me → Prop} (hF31 : ∀ (v2 : Int32) (v3 : Int32) (v4 : Int32) (v5 : Int32) (v6 : Int32) (m : zf_Me), F31 v2 v3 v4 v5 v6 m → zf_W none 0 0 d zt_188 31 [some (.inr (.inr (1, 63))), some (.inl v1), some (.inl v2), some (.inl v3), some (.inl v4), some (.inl v5), some (.inl v6)] [] m (zf_I Q)) {v2 : Int32} {v6 : Int32} {m : zf_Me} (h : wq_188_91 v1 F31 v2 v6 m Q) : zf_W none 0 0 d zt_188 91 [some (.inr (.inr (1, 63))), some (.inl v1), some (.inl v2), none, none, none, some (.inl v6)] [] m (zf_I Q) := by
  unfold wq_188_91 at h
  refine zf_ld (pc' := 93) (v := .inl v6) dX8_bagged_91 rfl (fun _ _ _ => rfl) rfl rfl rfl ?_
  refine zf_st (pc' := 94) (L2 := [some (.inr (.inr (1, 63))), some (.inl v1), some (.inl v2), some (.inl v6), none, none, some (.inl v6)]) dX8_bagged_93 rfl (fun _ _ _ => rfl) rfl rfl rfl rfl rfl rfl ?_
  refine zf_ld (pc' := 95) (v := .inr (.inr (1, 63))) dX8_bagged_94 rfl (fun _ _ _ => rfl) rfl rfl rfl ?_
  refine zf_gfi (pc' := 98) dX8_bagged_95 rfl rfl (by decide) rfl rfl ?_
  refine zf_st (pc' := 100) (L2 := [some (.inr (.inr (1, 63))), some (.inl v1), some (.inl v2), some (.inl v6), some (.inl (m.1 63 47)), none, some (.inl v6)]) dX8_bagged_98 rfl (fun _ _ _ => rfl) rfl rfl rfl rfl rfl rfl ?_
  refine zf_ld (pc' := 101) (v := .inr (.inr (1, 63))) dX8_bagged_100 rfl (fun _ _ _ => rfl) rfl rfl rfl ?_
  refine zf_gfi (pc' := 104) dX8_bagged_101 rfl rfl (by decide) rfl rfl ?_
  refine zf_st (pc' := 106) (L2 := [some (.inr (.inr (1, 63))), some (.inl v1), some (.inl v2), some (.inl v6), some (.inl (m.1 63 47)), some (.inl (m.1 63 49)), some (.inl v6)]) dX8_bagged_104 rfl (fun _ _ _ => rfl) rfl rfl rfl rfl rfl rfl ?_
  refine zf_ii (y := (v6 + 1)) (L2 := [some (.inr (.inr (1, 63))), some (.inl v1), some (.inl v2), some (.inl v6), some (.inl (m.1 63 47)), some (.inl (m.1 63 49)), some (.inl (v6 + 1))]) (pc' := 109) dX8_bagged_106 rfl rfl rfl rfl rfl ?_
  refine zf_goto (tgt := 31) dX8_bagged_109 rfl ?_
  exact zf_lo (hF31 _ _ _ _ _ _ h) ⟨rfl, rfl, rfl, rfl, rfl, rfl, rfl, trivial⟩
def wq_188_31 (v1 : Int32) (Q : Int32 → zf_Me → Prop) : Nat → Int32 → Int32 → Int32 → Int32 → Int32 → zf_Me → Prop
  | 0, _, _, _, _, _, _ => False
  | n + 1, v2, v3, v4, v5, v6, m => ((v6.toInt ≥ ((m.1 63 1)).toInt → (∀ m3, m3 = zf_u m 63 2 v2 → Q v3 m3)) ∧ (v6.toInt < ((m.1 63 1)).toInt → (∀ m5, m5 = zf_u m 63 2 v6 → wp_181 v1 m5 (fun m8 => wp_182 m8 (fun m10 => ((v4.toInt = (-1) → wq_188_91 v1 (wq_188_31 v1 Q n) v2 v6 m10 Q) ∧ (¬ v4.toInt = (-1) → ((((m10.1 63 47)).toInt < v4.toInt → wq_188_31 v1 Q n v2 v3 v4 v5 (v6 + 1) m10) ∧ (((m10.1 63 47)).toInt ≥ v4.toInt → ((¬ ((m10.1 63 47)).toInt = v4.toInt → wq_188_91 v1 (wq_188_31 v1 Q n) v2 v6 m10 Q) ∧ (((m10.1 63 47)).toInt = v4.toInt → ((((m10.1 63 49)).toInt < v5.toInt → wq_188_91 v1 (wq_188_31 v1 Q n) v2 v6 m10 Q) ∧ (((m10.1 63 49)).toInt ≥ v5.toInt → wq_188_31 v1 Q n v2 v3 v4 v5 (v6 + 1) m10)))))))))))))
theorem zq_188_31 {d : Nat} (hd : 6 ≤ d) {v1 : Int32} {Q : Int32 → zf_Me → Prop} : ∀ (n : Nat) (v2 : Int32) (v3 : Int32) (v4 : Int32) (v5 : Int32) (v6 : Int32) (m : zf_Me), wq_188_31 v1 Q n v2 v3 v4 v5 v6 m → zf_W none 0 0 d zt_188 31 [some (.inr (.inr (1, 63))), some (.inl v1), some (.inl v2), some (.inl v3), some (.inl v4), some (.inl v5), some (.inl v6)] [] m (zf_I Q) := by
  obtain ⟨e, rfl⟩ : ∃ z, d = z + 1 := ⟨d - 1, by omega⟩
  intro n
  induction n with
  | zero =>
    intro v2 v3 v4 v5 v6 m h
    exact h.elim
  | succ n ih =>
    intro v2 v3 v4 v5 v6 m h
    unfold wq_188_31 at h
    refine zf_ld (pc' := 33) (v := .inl v6) dX8_bagged_31 rfl (fun _ _ _ => rfl) rfl rfl rfl ?_
    refine zf_ld (pc' := 34) (v := .inr (.inr (1, 63))) dX8_bagged_33 rfl (fun _ _ _ => rfl) rfl rfl rfl ?_
    refine zf_gfi (pc' := 37) dX8_bagged_34 rfl rfl (by decide) rfl rfl ?_
    refine zf_icmp_ge (tgt := 112) (pc' := 40) dX8_bagged_37 rfl rfl (fun g => ?_) (fun g => ?_)
    · replace h := h.1 g
      refine zf_ld (pc' := 113) (v := .inr (.inr (1, 63))) dX8_bagged_112 rfl (fun _ _ _ => rfl) rfl rfl rfl ?_
      refine zf_ld (pc' := 114) (v := .inl v2) dX8_bagged_113 rfl (fun _ _ _ => rfl) rfl rfl rfl ?_
      refine zf_pf (pc' := 117) dX8_bagged_114 rfl rfl (by decide) rfl rfl rfl (fun m3 e4 => ?_)
      replace h := h m3 e4
      refine zf_ld (pc' := 118) (v := .inl v3) dX8_bagged_117 rfl (fun _ _ _ => rfl) rfl rfl rfl ?_
      exact zf_ri dX8_bagged_118 rfl h
    · replace h := h.2 g
      refine zf_ld (pc' := 41) (v := .inr (.inr (1, 63))) dX8_bagged_40 rfl (fun _ _ _ => rfl) rfl rfl rfl ?_
      refine zf_ld (pc' := 43) (v := .inl v6) dX8_bagged_41 rfl (fun _ _ _ => rfl) rfl rfl rfl ?_
      refine zf_pf (pc' := 46) dX8_bagged_43 rfl rfl (by decide) rfl rfl rfl (fun m5 e6 => ?_)
      replace h := h m5 e6
      refine zf_ld (pc' := 47) (v := .inr (.inr (1, 63))) dX8_bagged_46 rfl (fun _ _ _ => rfl) rfl rfl rfl ?_
      refine zf_ld (pc' := 48) (v := .inl v1) dX8_bagged_47 rfl (fun _ _ _ => rfl) rfl rfl rfl ?_
      refine zf_iv (k := 181) (pc' := 51) (r := []) dX8_bagged_48 rfl rfl rfl rfl (by decide) rfl rfl rfl (zr_181 (by omega) h) (zf_kO (fun m8 h => ?_))
      refine zf_ld (pc' := 52) (v := .inr (.inr (1, 63))) dX8_bagged_51 rfl (fun _ _ _ => rfl) rfl rfl rfl ?_
      refine zf_iv (k := 182) (pc' := 55) (r := []) dX8_bagged_52 rfl rfl rfl rfl (by decide) rfl rfl rfl (zr_182 (by omega) h) (zf_kO (fun m10 h => ?_))
      refine zf_ld (pc' := 57) (v := .inl v4) dX8_bagged_55 rfl (fun _ _ _ => rfl) rfl rfl rfl ?_
      refine zf_ic (v := (-1)) (pc' := 58) dX8_bagged_57 rfl rfl ?_
      refine zf_icmp_eq (tgt := 91) (pc' := 61) dX8_bagged_58 rfl rfl (fun g => ?_) (fun g => ?_)
      · replace h := h.1 g
        exact zf_lo (zq_188_91 (by omega) ih h) ⟨rfl, rfl, rfl, rfl, trivial⟩
      · replace h := h.2 g
        refine zf_ld (pc' := 62) (v := .inr (.inr (1, 63))) dX8_bagged_61 rfl (fun _ _ _ => rfl) rfl rfl rfl ?_
        refine zf_gfi (pc' := 65) dX8_bagged_62 rfl rfl (by decide) rfl rfl ?_
        refine zf_ld (pc' := 67) (v := .inl v4) dX8_bagged_65 rfl (fun _ _ _ => rfl) rfl rfl rfl ?_
        refine zf_icmp_lt (tgt := 106) (pc' := 70) dX8_bagged_67 rfl rfl (fun g => ?_) (fun g => ?_)
        · replace h := h.1 g
          refine zf_ii (y := (v6 + 1)) (L2 := [some (.inr (.inr (1, 63))), some (.inl v1), some (.inl v2), some (.inl v3), some (.inl v4), some (.inl v5), some (.inl (v6 + 1))]) (pc' := 109) dX8_bagged_106 rfl rfl rfl rfl rfl ?_
          refine zf_goto (tgt := 31) dX8_bagged_109 rfl ?_
          exact zf_lo (ih _ _ _ _ _ _ h) ⟨rfl, rfl, rfl, rfl, rfl, rfl, rfl, trivial⟩
        · replace h := h.2 g
          refine zf_ld (pc' := 71) (v := .inr (.inr (1, 63))) dX8_bagged_70 rfl (fun _ _ _ => rfl) rfl rfl rfl ?_
          refine zf_gfi (pc' := 74) dX8_bagged_71 rfl rfl (by decide) rfl rfl ?_
          refine zf_ld (pc' := 76) (v := .inl v4) dX8_bagged_74 rfl (fun _ _ _ => rfl) rfl rfl rfl ?_
          refine zf_icmp_ne (tgt := 91) (pc' := 79) dX8_bagged_76 rfl rfl (fun g => ?_) (fun g => ?_)
          · replace h := h.1 g
            exact zf_lo (zq_188_91 (by omega) ih h) ⟨rfl, rfl, rfl, rfl, trivial⟩
          · replace h := h.2 g
            refine zf_ld (pc' := 80) (v := .inr (.inr (1, 63))) dX8_bagged_79 rfl (fun _ _ _ => rfl) rfl rfl rfl ?_
            refine zf_gfi (pc' := 83) dX8_bagged_80 rfl rfl (by decide) rfl rfl ?_
            refine zf_ld (pc' := 85) (v := .inl v5) dX8_bagged_83 rfl (fun _ _ _ => rfl) rfl rfl rfl ?_
            refine zf_icmp_lt (tgt := 91) (pc' := 88) dX8_bagged_85 rfl rfl (fun g => ?_) (fun g => ?_)
            · replace h := h.1 g
              exact zf_lo (zq_188_91 (by omega) ih h) ⟨rfl, rfl, rfl, rfl, trivial⟩
            · replace h := h.2 g
              refine zf_goto (tgt := 106) dX8_bagged_88 rfl ?_
              refine zf_ii (y := (v6 + 1)) (L2 := [some (.inr (.inr (1, 63))), some (.inl v1), some (.inl v2), some (.inl v3), some (.inl v4), some (.inl v5), some (.inl (v6 + 1))]) (pc' := 109) dX8_bagged_106 rfl rfl rfl rfl rfl ?_
              refine zf_goto (tgt := 31) dX8_bagged_109 rfl ?_
              exact zf_lo (ih _ _ _ _ _ _ h) ⟨rfl, rfl, rfl, rfl, rfl, rfl, rfl, trivial⟩
def wp_188 (v1 : Int32) (m : zf_Me) (Q : Int32 → zf_Me → Prop) : Prop := wp_180 v1 m (fun b1 m2 => ((b1 = true → (∃ n31, wq_188_31 v1 Q n31 (m2.1 63 2) (-1) (-1) 0 (-1) m2)) ∧ (b1 = false → wp_126 (-6) m2 (fun x11 m12 => Q x11 m12))))
theorem zr_188 {d : Nat} (hd : 6 ≤ d) {v1 : Int32} {Q : Int32 → zf_Me → Prop} {m : zf_Me} (h : wp_188 v1 m Q) : zf_M d 188 [.inr (.inr (1, 63)), .inl v1] m (zf_I Q) := by
  obtain ⟨e, rfl⟩ : ∃ z, d = z + 1 := ⟨d - 1, by omega⟩
  unfold wp_188 at h
  refine zf_M_of (Nat.le_of_ble_eq_true rfl) zm_188 (L := [some (.inr (.inr (1, 63))), some (.inl v1), none, none, none, none, none]) rfl ?_
  refine zf_ld (pc' := 1) (v := .inr (.inr (1, 63))) dX8_bagged_0 rfl (fun _ _ _ => rfl) rfl rfl rfl ?_
  refine zf_ld (pc' := 2) (v := .inl v1) dX8_bagged_1 rfl (fun _ _ _ => rfl) rfl rfl rfl ?_
  refine zf_iv (k := 180) (pc' := 5) (r := []) dX8_bagged_2 rfl rfl rfl rfl (by decide) rfl rfl rfl (zr_180 (by omega) h) (zf_kB (fun b1 m2 h => ?_))
  refine zf_ib_ne (tgt := 15) (pc' := 8) dX8_bagged_5 rfl rfl (fun g => ?_) (fun g => ?_)
  · replace h := h.1 g
    refine zf_ld (pc' := 16) (v := .inr (.inr (1, 63))) dX8_bagged_15 rfl (fun _ _ _ => rfl) rfl rfl rfl ?_
    refine zf_gfi (pc' := 19) dX8_bagged_16 rfl rfl (by decide) rfl rfl ?_
    refine zf_st (pc' := 20) (L2 := [some (.inr (.inr (1, 63))), some (.inl v1), some (.inl (m2.1 63 2)), none, none, none, none]) dX8_bagged_19 rfl (fun _ _ _ => rfl) rfl rfl rfl rfl rfl rfl ?_
    refine zf_ic (v := (-1)) (pc' := 21) dX8_bagged_20 rfl rfl ?_
    refine zf_st (pc' := 22) (L2 := [some (.inr (.inr (1, 63))), some (.inl v1), some (.inl (m2.1 63 2)), some (.inl (-1)), none, none, none]) dX8_bagged_21 rfl (fun _ _ _ => rfl) rfl rfl rfl rfl rfl rfl ?_
    refine zf_ic (v := (-1)) (pc' := 23) dX8_bagged_22 rfl rfl ?_
    refine zf_st (pc' := 25) (L2 := [some (.inr (.inr (1, 63))), some (.inl v1), some (.inl (m2.1 63 2)), some (.inl (-1)), some (.inl (-1)), none, none]) dX8_bagged_23 rfl (fun _ _ _ => rfl) rfl rfl rfl rfl rfl rfl ?_
    refine zf_ic (v := 0) (pc' := 26) dX8_bagged_25 rfl rfl ?_
    refine zf_st (pc' := 28) (L2 := [some (.inr (.inr (1, 63))), some (.inl v1), some (.inl (m2.1 63 2)), some (.inl (-1)), some (.inl (-1)), some (.inl 0), none]) dX8_bagged_26 rfl (fun _ _ _ => rfl) rfl rfl rfl rfl rfl rfl ?_
    refine zf_ic (v := (-1)) (pc' := 29) dX8_bagged_28 rfl rfl ?_
    refine zf_st (pc' := 31) (L2 := [some (.inr (.inr (1, 63))), some (.inl v1), some (.inl (m2.1 63 2)), some (.inl (-1)), some (.inl (-1)), some (.inl 0), some (.inl (-1))]) dX8_bagged_29 rfl (fun _ _ _ => rfl) rfl rfl rfl rfl rfl rfl ?_
    obtain ⟨n31, h⟩ := h
    exact zf_lo (zq_188_31 (by omega) n31 _ _ _ _ _ _ h) ⟨rfl, rfl, rfl, rfl, rfl, rfl, rfl, trivial⟩
  · replace h := h.2 g
    refine zf_ld (pc' := 9) (v := .inr (.inr (1, 63))) dX8_bagged_8 rfl (fun _ _ _ => rfl) rfl rfl rfl ?_
    refine zf_bi (v := (-6)) (pc' := 11) dX8_bagged_9 rfl rfl ?_
    refine zf_iv (k := 126) (pc' := 14) (r := []) dX8_bagged_11 rfl rfl rfl rfl (by decide) rfl rfl rfl (zr_126 (by omega) h) (zf_kI (fun x11 m12 h => ?_))
    exact zf_ri dX8_bagged_14 rfl h
def zt_189 : zx_MT := (8, yX8_wrongIn, cX8_wrongIn, 5, (some FieldType.int), 2, 0)
theorem zm_189 : zx_m 189 = zt_189 := rfl
theorem dX8_wrongIn_r0 : zdcP cX8_wrongIn 0 [(.iconst 0, 1), (.istore_n 3, 1), (.iload_n 3, 1), (.iload_n 2, 1), (.if_icmp .ge 46, 3), (.aload_n 0, 1), (.iload_n 1, 1), (.iload_n 3, 1), (.invokevirtual 287, 3), (.istore 4, 2), (.iload 4, 2), (.ifCond .lt 19, 3), (.iload 4, 2), (.bipush 9, 2), (.if_icmp .gt 12, 3), (.aload_n 0, 1)] := zdcA_ok (by decide +kernel)
theorem dX8_wrongIn_0 : decode cX8_wrongIn 0 = .ok (.iconst 0, 1) := dX8_wrongIn_r0.1
theorem dX8_wrongIn_1 : decode cX8_wrongIn 1 = .ok (.istore_n 3, 1) := dX8_wrongIn_r0.2.1
theorem dX8_wrongIn_2 : decode cX8_wrongIn 2 = .ok (.iload_n 3, 1) := dX8_wrongIn_r0.2.2.1
theorem dX8_wrongIn_3 : decode cX8_wrongIn 3 = .ok (.iload_n 2, 1) := dX8_wrongIn_r0.2.2.2.1
theorem dX8_wrongIn_4 : decode cX8_wrongIn 4 = .ok (.if_icmp .ge 46, 3) := dX8_wrongIn_r0.2.2.2.2.1
theorem dX8_wrongIn_7 : decode cX8_wrongIn 7 = .ok (.aload_n 0, 1) := dX8_wrongIn_r0.2.2.2.2.2.1
theorem dX8_wrongIn_8 : decode cX8_wrongIn 8 = .ok (.iload_n 1, 1) := dX8_wrongIn_r0.2.2.2.2.2.2.1
theorem dX8_wrongIn_9 : decode cX8_wrongIn 9 = .ok (.iload_n 3, 1) := dX8_wrongIn_r0.2.2.2.2.2.2.2.1
theorem dX8_wrongIn_10 : decode cX8_wrongIn 10 = .ok (.invokevirtual 287, 3) := dX8_wrongIn_r0.2.2.2.2.2.2.2.2.1
theorem dX8_wrongIn_13 : decode cX8_wrongIn 13 = .ok (.istore 4, 2) := dX8_wrongIn_r0.2.2.2.2.2.2.2.2.2.1
theorem dX8_wrongIn_15 : decode cX8_wrongIn 15 = .ok (.iload 4, 2) := dX8_wrongIn_r0.2.2.2.2.2.2.2.2.2.2.1
theorem dX8_wrongIn_17 : decode cX8_wrongIn 17 = .ok (.ifCond .lt 19, 3) := dX8_wrongIn_r0.2.2.2.2.2.2.2.2.2.2.2.1
theorem dX8_wrongIn_20 : decode cX8_wrongIn 20 = .ok (.iload 4, 2) := dX8_wrongIn_r0.2.2.2.2.2.2.2.2.2.2.2.2.1
theorem dX8_wrongIn_22 : decode cX8_wrongIn 22 = .ok (.bipush 9, 2) := dX8_wrongIn_r0.2.2.2.2.2.2.2.2.2.2.2.2.2.1
theorem dX8_wrongIn_24 : decode cX8_wrongIn 24 = .ok (.if_icmp .gt 12, 3) := dX8_wrongIn_r0.2.2.2.2.2.2.2.2.2.2.2.2.2.2.1
theorem dX8_wrongIn_27 : decode cX8_wrongIn 27 = .ok (.aload_n 0, 1) := dX8_wrongIn_r0.2.2.2.2.2.2.2.2.2.2.2.2.2.2.2.1
theorem dX8_wrongIn_r28 : zdcP cX8_wrongIn 28 [(.iload 4, 2), (.invokevirtual 180, 3), (.ifCond .ne 5, 3), (.iload_n 3, 1), (.ireturn, 1), (.aload_n 0, 1), (.iload 4, 2), (.invokevirtual 196, 3), (.iinc 3 1, 3), (.goto (-45), 3), (.iconst (-1), 1), (.ireturn, 1)] := zdcA_ok (by decide +kernel)
theorem dX8_wrongIn_28 : decode cX8_wrongIn 28 = .ok (.iload 4, 2) := dX8_wrongIn_r28.1
theorem dX8_wrongIn_30 : decode cX8_wrongIn 30 = .ok (.invokevirtual 180, 3) := dX8_wrongIn_r28.2.1
theorem dX8_wrongIn_33 : decode cX8_wrongIn 33 = .ok (.ifCond .ne 5, 3) := dX8_wrongIn_r28.2.2.1
theorem dX8_wrongIn_36 : decode cX8_wrongIn 36 = .ok (.iload_n 3, 1) := dX8_wrongIn_r28.2.2.2.1
theorem dX8_wrongIn_37 : decode cX8_wrongIn 37 = .ok (.ireturn, 1) := dX8_wrongIn_r28.2.2.2.2.1
theorem dX8_wrongIn_38 : decode cX8_wrongIn 38 = .ok (.aload_n 0, 1) := dX8_wrongIn_r28.2.2.2.2.2.1
theorem dX8_wrongIn_39 : decode cX8_wrongIn 39 = .ok (.iload 4, 2) := dX8_wrongIn_r28.2.2.2.2.2.2.1
theorem dX8_wrongIn_41 : decode cX8_wrongIn 41 = .ok (.invokevirtual 196, 3) := dX8_wrongIn_r28.2.2.2.2.2.2.2.1
theorem dX8_wrongIn_44 : decode cX8_wrongIn 44 = .ok (.iinc 3 1, 3) := dX8_wrongIn_r28.2.2.2.2.2.2.2.2.1
theorem dX8_wrongIn_47 : decode cX8_wrongIn 47 = .ok (.goto (-45), 3) := dX8_wrongIn_r28.2.2.2.2.2.2.2.2.2.1
theorem dX8_wrongIn_50 : decode cX8_wrongIn 50 = .ok (.iconst (-1), 1) := dX8_wrongIn_r28.2.2.2.2.2.2.2.2.2.2.1
theorem dX8_wrongIn_51 : decode cX8_wrongIn 51 = .ok (.ireturn, 1) := dX8_wrongIn_r28.2.2.2.2.2.2.2.2.2.2.2.1
def wq_189_2 (v1 : Int32) (v2 : Int32) (Q : Int32 → zf_Me → Prop) : Nat → Int32 → zf_Me → Prop
  | 0, _, _ => False
  | n + 1, v3, m => ((v3.toInt ≥ v2.toInt → Q (-1) m) ∧ (v3.toInt < v2.toInt → wp_138 v1 v3 m (fun x1 m2 => ((x1.toInt < 0 → Q v3 m2) ∧ (x1.toInt ≥ 0 → ((x1.toInt > 9 → Q v3 m2) ∧ (x1.toInt ≤ 9 → wp_167 x1 m2 (fun b3 m4 => ((b3 = true → wp_169 x1 m4 (fun m6 => wq_189_2 v1 v2 Q n (v3 + 1) m6)) ∧ (b3 = false → Q v3 m4))))))))))
theorem zq_189_2 {d : Nat} (hd : 3 ≤ d) {v1 : Int32} {v2 : Int32} {Q : Int32 → zf_Me → Prop} : ∀ (n : Nat) (v3 : Int32) (m : zf_Me), wq_189_2 v1 v2 Q n v3 m → zf_W none 0 0 d zt_189 2 [some (.inr (.inr (1, 63))), some (.inl v1), some (.inl v2), some (.inl v3), none] [] m (zf_I Q) := by
  obtain ⟨e, rfl⟩ : ∃ z, d = z + 1 := ⟨d - 1, by omega⟩
  intro n
  induction n with
  | zero =>
    intro v3 m h
    exact h.elim
  | succ n ih =>
    intro v3 m h
    unfold wq_189_2 at h
    refine zf_ld (pc' := 3) (v := .inl v3) dX8_wrongIn_2 rfl (fun _ _ _ => rfl) rfl rfl rfl ?_
    refine zf_ld (pc' := 4) (v := .inl v2) dX8_wrongIn_3 rfl (fun _ _ _ => rfl) rfl rfl rfl ?_
    refine zf_icmp_ge (tgt := 50) (pc' := 7) dX8_wrongIn_4 rfl rfl (fun g => ?_) (fun g => ?_)
    · replace h := h.1 g
      refine zf_ic (v := (-1)) (pc' := 51) dX8_wrongIn_50 rfl rfl ?_
      exact zf_ri dX8_wrongIn_51 rfl h
    · replace h := h.2 g
      refine zf_ld (pc' := 8) (v := .inr (.inr (1, 63))) dX8_wrongIn_7 rfl (fun _ _ _ => rfl) rfl rfl rfl ?_
      refine zf_ld (pc' := 9) (v := .inl v1) dX8_wrongIn_8 rfl (fun _ _ _ => rfl) rfl rfl rfl ?_
      refine zf_ld (pc' := 10) (v := .inl v3) dX8_wrongIn_9 rfl (fun _ _ _ => rfl) rfl rfl rfl ?_
      refine zf_iv (k := 138) (pc' := 13) (r := []) dX8_wrongIn_10 rfl rfl rfl rfl (by decide) rfl rfl rfl (zr_138 (by omega) h) (zf_kI (fun x1 m2 h => ?_))
      refine zf_st (pc' := 15) (L2 := [some (.inr (.inr (1, 63))), some (.inl v1), some (.inl v2), some (.inl v3), some (.inl x1)]) dX8_wrongIn_13 rfl (fun _ _ _ => rfl) rfl rfl rfl rfl rfl rfl ?_
      refine zf_ld (pc' := 17) (v := .inl x1) dX8_wrongIn_15 rfl (fun _ _ _ => rfl) rfl rfl rfl ?_
      refine zf_if_lt (tgt := 36) (pc' := 20) dX8_wrongIn_17 rfl rfl (fun g => ?_) (fun g => ?_)
      · replace h := h.1 g
        refine zf_ld (pc' := 37) (v := .inl v3) dX8_wrongIn_36 rfl (fun _ _ _ => rfl) rfl rfl rfl ?_
        exact zf_ri dX8_wrongIn_37 rfl h
      · replace h := h.2 g
        refine zf_ld (pc' := 22) (v := .inl x1) dX8_wrongIn_20 rfl (fun _ _ _ => rfl) rfl rfl rfl ?_
        refine zf_bi (v := 9) (pc' := 24) dX8_wrongIn_22 rfl rfl ?_
        refine zf_icmp_gt (tgt := 36) (pc' := 27) dX8_wrongIn_24 rfl rfl (fun g => ?_) (fun g => ?_)
        · replace h := h.1 g
          refine zf_ld (pc' := 37) (v := .inl v3) dX8_wrongIn_36 rfl (fun _ _ _ => rfl) rfl rfl rfl ?_
          exact zf_ri dX8_wrongIn_37 rfl h
        · replace h := h.2 g
          refine zf_ld (pc' := 28) (v := .inr (.inr (1, 63))) dX8_wrongIn_27 rfl (fun _ _ _ => rfl) rfl rfl rfl ?_
          refine zf_ld (pc' := 30) (v := .inl x1) dX8_wrongIn_28 rfl (fun _ _ _ => rfl) rfl rfl rfl ?_
          refine zf_iv (k := 167) (pc' := 33) (r := []) dX8_wrongIn_30 rfl rfl rfl rfl (by decide) rfl rfl rfl (zr_167 (by omega) h) (zf_kB (fun b3 m4 h => ?_))
          refine zf_ib_ne (tgt := 38) (pc' := 36) dX8_wrongIn_33 rfl rfl (fun g => ?_) (fun g => ?_)
          · replace h := h.1 g
            refine zf_ld (pc' := 39) (v := .inr (.inr (1, 63))) dX8_wrongIn_38 rfl (fun _ _ _ => rfl) rfl rfl rfl ?_
            refine zf_ld (pc' := 41) (v := .inl x1) dX8_wrongIn_39 rfl (fun _ _ _ => rfl) rfl rfl rfl ?_
            refine zf_iv (k := 169) (pc' := 44) (r := []) dX8_wrongIn_41 rfl rfl rfl rfl (by decide) rfl rfl rfl (zr_169 (by omega) h) (zf_kO (fun m6 h => ?_))
            refine zf_ii (y := (v3 + 1)) (L2 := [some (.inr (.inr (1, 63))), some (.inl v1), some (.inl v2), some (.inl (v3 + 1)), some (.inl x1)]) (pc' := 47) dX8_wrongIn_44 rfl rfl rfl rfl rfl ?_
            refine zf_goto (tgt := 2) dX8_wrongIn_47 rfl ?_
            exact zf_lo (ih _ _ h) ⟨rfl, rfl, rfl, rfl, trivial⟩
          · replace h := h.2 g
            refine zf_ld (pc' := 37) (v := .inl v3) dX8_wrongIn_36 rfl (fun _ _ _ => rfl) rfl rfl rfl ?_
            exact zf_ri dX8_wrongIn_37 rfl h
def wp_189 (v1 : Int32) (v2 : Int32) (m : zf_Me) (Q : Int32 → zf_Me → Prop) : Prop := (∃ n2, wq_189_2 v1 v2 Q n2 0 m)
theorem zr_189 {d : Nat} (hd : 3 ≤ d) {v1 : Int32} {v2 : Int32} {Q : Int32 → zf_Me → Prop} {m : zf_Me} (h : wp_189 v1 v2 m Q) : zf_M d 189 [.inr (.inr (1, 63)), .inl v1, .inl v2] m (zf_I Q) := by
  unfold wp_189 at h
  refine zf_M_of (Nat.le_of_ble_eq_true rfl) zm_189 (L := [some (.inr (.inr (1, 63))), some (.inl v1), some (.inl v2), none, none]) rfl ?_
  refine zf_ic (v := 0) (pc' := 1) dX8_wrongIn_0 rfl rfl ?_
  refine zf_st (pc' := 2) (L2 := [some (.inr (.inr (1, 63))), some (.inl v1), some (.inl v2), some (.inl 0), none]) dX8_wrongIn_1 rfl (fun _ _ _ => rfl) rfl rfl rfl rfl rfl rfl ?_
  obtain ⟨n2, h⟩ := h
  exact zf_lo (zq_189_2 (by omega) n2 _ _ h) ⟨rfl, rfl, rfl, rfl, trivial⟩
def zt_190 : zx_MT := (8, yX8_barsOf, cX8_barsOf, 4, (some FieldType.int), 2, 0)
theorem zm_190 : zx_m 190 = zt_190 := rfl
theorem dX8_barsOf_r0 : zdcP cX8_barsOf 0 [(.aload_n 0, 1), (.iload_n 1, 1), (.iload_n 2, 1), (.invokevirtual 290, 3), (.istore_n 3, 1), (.iload_n 3, 1), (.ifCond .ne 14, 3), (.iload_n 2, 1), (.bipush 60, 2), (.if_icmp .le 8, 3), (.bipush (-6), 2), (.goto 4, 3), (.iload_n 3, 1), (.ireturn, 1)] := zdcA_ok (by decide +kernel)
theorem dX8_barsOf_0 : decode cX8_barsOf 0 = .ok (.aload_n 0, 1) := dX8_barsOf_r0.1
theorem dX8_barsOf_1 : decode cX8_barsOf 1 = .ok (.iload_n 1, 1) := dX8_barsOf_r0.2.1
theorem dX8_barsOf_2 : decode cX8_barsOf 2 = .ok (.iload_n 2, 1) := dX8_barsOf_r0.2.2.1
theorem dX8_barsOf_3 : decode cX8_barsOf 3 = .ok (.invokevirtual 290, 3) := dX8_barsOf_r0.2.2.2.1
theorem dX8_barsOf_6 : decode cX8_barsOf 6 = .ok (.istore_n 3, 1) := dX8_barsOf_r0.2.2.2.2.1
theorem dX8_barsOf_7 : decode cX8_barsOf 7 = .ok (.iload_n 3, 1) := dX8_barsOf_r0.2.2.2.2.2.1
theorem dX8_barsOf_8 : decode cX8_barsOf 8 = .ok (.ifCond .ne 14, 3) := dX8_barsOf_r0.2.2.2.2.2.2.1
theorem dX8_barsOf_11 : decode cX8_barsOf 11 = .ok (.iload_n 2, 1) := dX8_barsOf_r0.2.2.2.2.2.2.2.1
theorem dX8_barsOf_12 : decode cX8_barsOf 12 = .ok (.bipush 60, 2) := dX8_barsOf_r0.2.2.2.2.2.2.2.2.1
theorem dX8_barsOf_14 : decode cX8_barsOf 14 = .ok (.if_icmp .le 8, 3) := dX8_barsOf_r0.2.2.2.2.2.2.2.2.2.1
theorem dX8_barsOf_17 : decode cX8_barsOf 17 = .ok (.bipush (-6), 2) := dX8_barsOf_r0.2.2.2.2.2.2.2.2.2.2.1
theorem dX8_barsOf_19 : decode cX8_barsOf 19 = .ok (.goto 4, 3) := dX8_barsOf_r0.2.2.2.2.2.2.2.2.2.2.2.1
theorem dX8_barsOf_22 : decode cX8_barsOf 22 = .ok (.iload_n 3, 1) := dX8_barsOf_r0.2.2.2.2.2.2.2.2.2.2.2.2.1
theorem dX8_barsOf_23 : decode cX8_barsOf 23 = .ok (.ireturn, 1) := dX8_barsOf_r0.2.2.2.2.2.2.2.2.2.2.2.2.2.1
def wp_190 (v1 : Int32) (v2 : Int32) (m : zf_Me) (Q : Int32 → zf_Me → Prop) : Prop := wp_139 v1 v2 m (fun x1 m2 => ((¬ x1.toInt = 0 → Q x1 m2) ∧ (x1.toInt = 0 → ((v2.toInt ≤ 60 → Q x1 m2) ∧ (v2.toInt > 60 → Q (-6) m2)))))
theorem zr_190 {d : Nat} (hd : 3 ≤ d) {v1 : Int32} {v2 : Int32} {Q : Int32 → zf_Me → Prop} {m : zf_Me} (h : wp_190 v1 v2 m Q) : zf_M d 190 [.inr (.inr (1, 63)), .inl v1, .inl v2] m (zf_I Q) := by
  obtain ⟨e, rfl⟩ : ∃ z, d = z + 1 := ⟨d - 1, by omega⟩
  unfold wp_190 at h
  refine zf_M_of (Nat.le_of_ble_eq_true rfl) zm_190 (L := [some (.inr (.inr (1, 63))), some (.inl v1), some (.inl v2), none]) rfl ?_
  refine zf_ld (pc' := 1) (v := .inr (.inr (1, 63))) dX8_barsOf_0 rfl (fun _ _ _ => rfl) rfl rfl rfl ?_
  refine zf_ld (pc' := 2) (v := .inl v1) dX8_barsOf_1 rfl (fun _ _ _ => rfl) rfl rfl rfl ?_
  refine zf_ld (pc' := 3) (v := .inl v2) dX8_barsOf_2 rfl (fun _ _ _ => rfl) rfl rfl rfl ?_
  refine zf_iv (k := 139) (pc' := 6) (r := []) dX8_barsOf_3 rfl rfl rfl rfl (by decide) rfl rfl rfl (zr_139 (by omega) h) (zf_kI (fun x1 m2 h => ?_))
  refine zf_st (pc' := 7) (L2 := [some (.inr (.inr (1, 63))), some (.inl v1), some (.inl v2), some (.inl x1)]) dX8_barsOf_6 rfl (fun _ _ _ => rfl) rfl rfl rfl rfl rfl rfl ?_
  refine zf_ld (pc' := 8) (v := .inl x1) dX8_barsOf_7 rfl (fun _ _ _ => rfl) rfl rfl rfl ?_
  refine zf_if_ne (tgt := 22) (pc' := 11) dX8_barsOf_8 rfl rfl (fun g => ?_) (fun g => ?_)
  · replace h := h.1 g
    refine zf_ld (pc' := 23) (v := .inl x1) dX8_barsOf_22 rfl (fun _ _ _ => rfl) rfl rfl rfl ?_
    exact zf_ri dX8_barsOf_23 rfl h
  · replace h := h.2 g
    refine zf_ld (pc' := 12) (v := .inl v2) dX8_barsOf_11 rfl (fun _ _ _ => rfl) rfl rfl rfl ?_
    refine zf_bi (v := 60) (pc' := 14) dX8_barsOf_12 rfl rfl ?_
    refine zf_icmp_le (tgt := 22) (pc' := 17) dX8_barsOf_14 rfl rfl (fun g => ?_) (fun g => ?_)
    · replace h := h.1 g
      refine zf_ld (pc' := 23) (v := .inl x1) dX8_barsOf_22 rfl (fun _ _ _ => rfl) rfl rfl rfl ?_
      exact zf_ri dX8_barsOf_23 rfl h
    · replace h := h.2 g
      refine zf_bi (v := (-6)) (pc' := 19) dX8_barsOf_17 rfl rfl ?_
      refine zf_goto (tgt := 23) dX8_barsOf_19 rfl ?_
      exact zf_ri dX8_barsOf_23 rfl h
def zt_191 : zx_MT := (8, yX8_judge, cX8_judge, 5, (some FieldType.int), 2, 0)
theorem zm_191 : zx_m 191 = zt_191 := rfl
theorem dX8_judge_r0 : zdcP cX8_judge 0 [(.aload_n 0, 1), (.iload_n 1, 1), (.iload_n 2, 1), (.invokevirtual 293, 3), (.istore_n 3, 1), (.iload_n 3, 1), (.ifCond .eq 9, 3), (.aload_n 0, 1), (.iload_n 3, 1), (.invokevirtual 142, 3), (.ireturn, 1), (.aload_n 0, 1), (.aload_n 0, 1), (.getfield 90, 3), (.iconst 0, 1), (.iconst 0, 1)] := zdcA_ok (by decide +kernel)
theorem dX8_judge_0 : decode cX8_judge 0 = .ok (.aload_n 0, 1) := dX8_judge_r0.1
theorem dX8_judge_1 : decode cX8_judge 1 = .ok (.iload_n 1, 1) := dX8_judge_r0.2.1
theorem dX8_judge_2 : decode cX8_judge 2 = .ok (.iload_n 2, 1) := dX8_judge_r0.2.2.1
theorem dX8_judge_3 : decode cX8_judge 3 = .ok (.invokevirtual 293, 3) := dX8_judge_r0.2.2.2.1
theorem dX8_judge_6 : decode cX8_judge 6 = .ok (.istore_n 3, 1) := dX8_judge_r0.2.2.2.2.1
theorem dX8_judge_7 : decode cX8_judge 7 = .ok (.iload_n 3, 1) := dX8_judge_r0.2.2.2.2.2.1
theorem dX8_judge_8 : decode cX8_judge 8 = .ok (.ifCond .eq 9, 3) := dX8_judge_r0.2.2.2.2.2.2.1
theorem dX8_judge_11 : decode cX8_judge 11 = .ok (.aload_n 0, 1) := dX8_judge_r0.2.2.2.2.2.2.2.1
theorem dX8_judge_12 : decode cX8_judge 12 = .ok (.iload_n 3, 1) := dX8_judge_r0.2.2.2.2.2.2.2.2.1
theorem dX8_judge_13 : decode cX8_judge 13 = .ok (.invokevirtual 142, 3) := dX8_judge_r0.2.2.2.2.2.2.2.2.2.1
theorem dX8_judge_16 : decode cX8_judge 16 = .ok (.ireturn, 1) := dX8_judge_r0.2.2.2.2.2.2.2.2.2.2.1
theorem dX8_judge_17 : decode cX8_judge 17 = .ok (.aload_n 0, 1) := dX8_judge_r0.2.2.2.2.2.2.2.2.2.2.2.1
theorem dX8_judge_18 : decode cX8_judge 18 = .ok (.aload_n 0, 1) := dX8_judge_r0.2.2.2.2.2.2.2.2.2.2.2.2.1
theorem dX8_judge_19 : decode cX8_judge 19 = .ok (.getfield 90, 3) := dX8_judge_r0.2.2.2.2.2.2.2.2.2.2.2.2.2.1
theorem dX8_judge_22 : decode cX8_judge 22 = .ok (.iconst 0, 1) := dX8_judge_r0.2.2.2.2.2.2.2.2.2.2.2.2.2.2.1
theorem dX8_judge_23 : decode cX8_judge 23 = .ok (.iconst 0, 1) := dX8_judge_r0.2.2.2.2.2.2.2.2.2.2.2.2.2.2.2.1
theorem dX8_judge_r24 : zdcP cX8_judge 24 [(.invokevirtual 213, 3), (.aload_n 0, 1), (.iload_n 1, 1), (.iload_n 2, 1), (.invokevirtual 296, 3), (.istore 4, 2), (.aload_n 0, 1), (.invokevirtual 284, 3), (.iload 4, 2), (.ireturn, 1)] := zdcA_ok (by decide +kernel)
theorem dX8_judge_24 : decode cX8_judge 24 = .ok (.invokevirtual 213, 3) := dX8_judge_r24.1
theorem dX8_judge_27 : decode cX8_judge 27 = .ok (.aload_n 0, 1) := dX8_judge_r24.2.1
theorem dX8_judge_28 : decode cX8_judge 28 = .ok (.iload_n 1, 1) := dX8_judge_r24.2.2.1
theorem dX8_judge_29 : decode cX8_judge 29 = .ok (.iload_n 2, 1) := dX8_judge_r24.2.2.2.1
theorem dX8_judge_30 : decode cX8_judge 30 = .ok (.invokevirtual 296, 3) := dX8_judge_r24.2.2.2.2.1
theorem dX8_judge_33 : decode cX8_judge 33 = .ok (.istore 4, 2) := dX8_judge_r24.2.2.2.2.2.1
theorem dX8_judge_35 : decode cX8_judge 35 = .ok (.aload_n 0, 1) := dX8_judge_r24.2.2.2.2.2.2.1
theorem dX8_judge_36 : decode cX8_judge 36 = .ok (.invokevirtual 284, 3) := dX8_judge_r24.2.2.2.2.2.2.2.1
theorem dX8_judge_39 : decode cX8_judge 39 = .ok (.iload 4, 2) := dX8_judge_r24.2.2.2.2.2.2.2.2.1
theorem dX8_judge_41 : decode cX8_judge 41 = .ok (.ireturn, 1) := dX8_judge_r24.2.2.2.2.2.2.2.2.2.1
def wp_191 (v1 : Int32) (v2 : Int32) (m : zf_Me) (Q : Int32 → zf_Me → Prop) : Prop := wp_190 v1 v2 m (fun x1 m2 => ((x1.toInt = 0 → wp_161 81 90 0 0 m2 (fun m4 => wp_189 v1 v2 m4 (fun x5 m6 => wp_182 m6 (fun m8 => Q x5 m8)))) ∧ (¬ x1.toInt = 0 → wp_126 x1 m2 (fun x9 m10 => Q x9 m10))))
theorem zr_191 {d : Nat} (hd : 4 ≤ d) {v1 : Int32} {v2 : Int32} {Q : Int32 → zf_Me → Prop} {m : zf_Me} (h : wp_191 v1 v2 m Q) : zf_M d 191 [.inr (.inr (1, 63)), .inl v1, .inl v2] m (zf_I Q) := by
  obtain ⟨e, rfl⟩ : ∃ z, d = z + 1 := ⟨d - 1, by omega⟩
  unfold wp_191 at h
  refine zf_M_of (Nat.le_of_ble_eq_true rfl) zm_191 (L := [some (.inr (.inr (1, 63))), some (.inl v1), some (.inl v2), none, none]) rfl ?_
  refine zf_ld (pc' := 1) (v := .inr (.inr (1, 63))) dX8_judge_0 rfl (fun _ _ _ => rfl) rfl rfl rfl ?_
  refine zf_ld (pc' := 2) (v := .inl v1) dX8_judge_1 rfl (fun _ _ _ => rfl) rfl rfl rfl ?_
  refine zf_ld (pc' := 3) (v := .inl v2) dX8_judge_2 rfl (fun _ _ _ => rfl) rfl rfl rfl ?_
  refine zf_iv (k := 190) (pc' := 6) (r := []) dX8_judge_3 rfl rfl rfl rfl (by decide) rfl rfl rfl (zr_190 (by omega) h) (zf_kI (fun x1 m2 h => ?_))
  refine zf_st (pc' := 7) (L2 := [some (.inr (.inr (1, 63))), some (.inl v1), some (.inl v2), some (.inl x1), none]) dX8_judge_6 rfl (fun _ _ _ => rfl) rfl rfl rfl rfl rfl rfl ?_
  refine zf_ld (pc' := 8) (v := .inl x1) dX8_judge_7 rfl (fun _ _ _ => rfl) rfl rfl rfl ?_
  refine zf_if_eq (tgt := 17) (pc' := 11) dX8_judge_8 rfl rfl (fun g => ?_) (fun g => ?_)
  · replace h := h.1 g
    refine zf_ld (pc' := 18) (v := .inr (.inr (1, 63))) dX8_judge_17 rfl (fun _ _ _ => rfl) rfl rfl rfl ?_
    refine zf_ld (pc' := 19) (v := .inr (.inr (1, 63))) dX8_judge_18 rfl (fun _ _ _ => rfl) rfl rfl rfl ?_
    refine zf_gfr (pc' := 22) (b := 81) dX8_judge_19 rfl rfl (by decide) rfl rfl ?_
    refine zf_ic (v := 0) (pc' := 23) dX8_judge_22 rfl rfl ?_
    refine zf_ic (v := 0) (pc' := 24) dX8_judge_23 rfl rfl ?_
    refine zf_iv (k := 161) (pc' := 27) (r := []) dX8_judge_24 rfl rfl rfl rfl (by decide) rfl rfl rfl (zr_161 (by omega) (⟨by decide, rfl⟩ : zf_arr 81 90) h) (zf_kO (fun m4 h => ?_))
    refine zf_ld (pc' := 28) (v := .inr (.inr (1, 63))) dX8_judge_27 rfl (fun _ _ _ => rfl) rfl rfl rfl ?_
    refine zf_ld (pc' := 29) (v := .inl v1) dX8_judge_28 rfl (fun _ _ _ => rfl) rfl rfl rfl ?_
    refine zf_ld (pc' := 30) (v := .inl v2) dX8_judge_29 rfl (fun _ _ _ => rfl) rfl rfl rfl ?_
    refine zf_iv (k := 189) (pc' := 33) (r := []) dX8_judge_30 rfl rfl rfl rfl (by decide) rfl rfl rfl (zr_189 (by omega) h) (zf_kI (fun x5 m6 h => ?_))
    refine zf_st (pc' := 35) (L2 := [some (.inr (.inr (1, 63))), some (.inl v1), some (.inl v2), some (.inl x1), some (.inl x5)]) dX8_judge_33 rfl (fun _ _ _ => rfl) rfl rfl rfl rfl rfl rfl ?_
    refine zf_ld (pc' := 36) (v := .inr (.inr (1, 63))) dX8_judge_35 rfl (fun _ _ _ => rfl) rfl rfl rfl ?_
    refine zf_iv (k := 182) (pc' := 39) (r := []) dX8_judge_36 rfl rfl rfl rfl (by decide) rfl rfl rfl (zr_182 (by omega) h) (zf_kO (fun m8 h => ?_))
    refine zf_ld (pc' := 41) (v := .inl x5) dX8_judge_39 rfl (fun _ _ _ => rfl) rfl rfl rfl ?_
    exact zf_ri dX8_judge_41 rfl h
  · replace h := h.2 g
    refine zf_ld (pc' := 12) (v := .inr (.inr (1, 63))) dX8_judge_11 rfl (fun _ _ _ => rfl) rfl rfl rfl ?_
    refine zf_ld (pc' := 13) (v := .inl x1) dX8_judge_12 rfl (fun _ _ _ => rfl) rfl rfl rfl ?_
    refine zf_iv (k := 126) (pc' := 16) (r := []) dX8_judge_13 rfl rfl rfl rfl (by decide) rfl rfl rfl (zr_126 (by omega) h) (zf_kI (fun x9 m10 h => ?_))
    exact zf_ri dX8_judge_16 rfl h
def zt_192 : zx_MT := (8, yX8_behind, cX8_behind, 7, (some FieldType.int), 3, 0)
theorem zm_192 : zx_m 192 = zt_192 := rfl
theorem dX8_behind_r0 : zdcP cX8_behind 0 [(.aload_n 0, 1), (.iload_n 1, 1), (.iload_n 2, 1), (.invokevirtual 290, 3), (.istore 4, 2), (.iload 4, 2), (.ifCond .ne 16, 3), (.iload_n 3, 1), (.ifCond .lt 8, 3), (.iload_n 3, 1), (.iconst 3, 1), (.if_icmp .le 7, 3), (.bipush (-5), 2), (.istore 4, 2), (.iload 4, 2), (.ifCond .ne 11, 3)] := zdcA_ok (by decide +kernel)
theorem dX8_behind_0 : decode cX8_behind 0 = .ok (.aload_n 0, 1) := dX8_behind_r0.1
theorem dX8_behind_1 : decode cX8_behind 1 = .ok (.iload_n 1, 1) := dX8_behind_r0.2.1
theorem dX8_behind_2 : decode cX8_behind 2 = .ok (.iload_n 2, 1) := dX8_behind_r0.2.2.1
theorem dX8_behind_3 : decode cX8_behind 3 = .ok (.invokevirtual 290, 3) := dX8_behind_r0.2.2.2.1
theorem dX8_behind_6 : decode cX8_behind 6 = .ok (.istore 4, 2) := dX8_behind_r0.2.2.2.2.1
theorem dX8_behind_8 : decode cX8_behind 8 = .ok (.iload 4, 2) := dX8_behind_r0.2.2.2.2.2.1
theorem dX8_behind_10 : decode cX8_behind 10 = .ok (.ifCond .ne 16, 3) := dX8_behind_r0.2.2.2.2.2.2.1
theorem dX8_behind_13 : decode cX8_behind 13 = .ok (.iload_n 3, 1) := dX8_behind_r0.2.2.2.2.2.2.2.1
theorem dX8_behind_14 : decode cX8_behind 14 = .ok (.ifCond .lt 8, 3) := dX8_behind_r0.2.2.2.2.2.2.2.2.1
theorem dX8_behind_17 : decode cX8_behind 17 = .ok (.iload_n 3, 1) := dX8_behind_r0.2.2.2.2.2.2.2.2.2.1
theorem dX8_behind_18 : decode cX8_behind 18 = .ok (.iconst 3, 1) := dX8_behind_r0.2.2.2.2.2.2.2.2.2.2.1
theorem dX8_behind_19 : decode cX8_behind 19 = .ok (.if_icmp .le 7, 3) := dX8_behind_r0.2.2.2.2.2.2.2.2.2.2.2.1
theorem dX8_behind_22 : decode cX8_behind 22 = .ok (.bipush (-5), 2) := dX8_behind_r0.2.2.2.2.2.2.2.2.2.2.2.2.1
theorem dX8_behind_24 : decode cX8_behind 24 = .ok (.istore 4, 2) := dX8_behind_r0.2.2.2.2.2.2.2.2.2.2.2.2.2.1
theorem dX8_behind_26 : decode cX8_behind 26 = .ok (.iload 4, 2) := dX8_behind_r0.2.2.2.2.2.2.2.2.2.2.2.2.2.2.1
theorem dX8_behind_28 : decode cX8_behind 28 = .ok (.ifCond .ne 11, 3) := dX8_behind_r0.2.2.2.2.2.2.2.2.2.2.2.2.2.2.2.1
theorem dX8_behind_r31 : zdcP cX8_behind 31 [(.aload_n 0, 1), (.iload_n 1, 1), (.iload_n 2, 1), (.invokevirtual 293, 3), (.istore 4, 2), (.iload 4, 2), (.ifCond .eq 10, 3), (.aload_n 0, 1), (.iload 4, 2), (.invokevirtual 115, 3), (.ireturn, 1), (.aload_n 0, 1), (.aload_n 0, 1), (.getfield 90, 3), (.iconst 0, 1), (.iconst 0, 1)] := zdcA_ok (by decide +kernel)
theorem dX8_behind_31 : decode cX8_behind 31 = .ok (.aload_n 0, 1) := dX8_behind_r31.1
theorem dX8_behind_32 : decode cX8_behind 32 = .ok (.iload_n 1, 1) := dX8_behind_r31.2.1
theorem dX8_behind_33 : decode cX8_behind 33 = .ok (.iload_n 2, 1) := dX8_behind_r31.2.2.1
theorem dX8_behind_34 : decode cX8_behind 34 = .ok (.invokevirtual 293, 3) := dX8_behind_r31.2.2.2.1
theorem dX8_behind_37 : decode cX8_behind 37 = .ok (.istore 4, 2) := dX8_behind_r31.2.2.2.2.1
theorem dX8_behind_39 : decode cX8_behind 39 = .ok (.iload 4, 2) := dX8_behind_r31.2.2.2.2.2.1
theorem dX8_behind_41 : decode cX8_behind 41 = .ok (.ifCond .eq 10, 3) := dX8_behind_r31.2.2.2.2.2.2.1
theorem dX8_behind_44 : decode cX8_behind 44 = .ok (.aload_n 0, 1) := dX8_behind_r31.2.2.2.2.2.2.2.1
theorem dX8_behind_45 : decode cX8_behind 45 = .ok (.iload 4, 2) := dX8_behind_r31.2.2.2.2.2.2.2.2.1
theorem dX8_behind_47 : decode cX8_behind 47 = .ok (.invokevirtual 115, 3) := dX8_behind_r31.2.2.2.2.2.2.2.2.2.1
theorem dX8_behind_50 : decode cX8_behind 50 = .ok (.ireturn, 1) := dX8_behind_r31.2.2.2.2.2.2.2.2.2.2.1
theorem dX8_behind_51 : decode cX8_behind 51 = .ok (.aload_n 0, 1) := dX8_behind_r31.2.2.2.2.2.2.2.2.2.2.2.1
theorem dX8_behind_52 : decode cX8_behind 52 = .ok (.aload_n 0, 1) := dX8_behind_r31.2.2.2.2.2.2.2.2.2.2.2.2.1
theorem dX8_behind_53 : decode cX8_behind 53 = .ok (.getfield 90, 3) := dX8_behind_r31.2.2.2.2.2.2.2.2.2.2.2.2.2.1
theorem dX8_behind_56 : decode cX8_behind 56 = .ok (.iconst 0, 1) := dX8_behind_r31.2.2.2.2.2.2.2.2.2.2.2.2.2.2.1
theorem dX8_behind_57 : decode cX8_behind 57 = .ok (.iconst 0, 1) := dX8_behind_r31.2.2.2.2.2.2.2.2.2.2.2.2.2.2.2.1
theorem dX8_behind_r58 : zdcP cX8_behind 58 [(.invokevirtual 213, 3), (.aload_n 0, 1), (.iload_n 1, 1), (.iload_n 2, 1), (.invokevirtual 296, 3), (.istore 5, 2), (.iload_n 3, 1), (.ifCond .ne 10, 3), (.aload_n 0, 1), (.getfield 207, 3), (.goto 31, 3), (.iload_n 3, 1), (.iconst 1, 1), (.if_icmp .ne 10, 3), (.aload_n 0, 1), (.getfield 210, 3)] := zdcA_ok (by decide +kernel)
theorem dX8_behind_58 : decode cX8_behind 58 = .ok (.invokevirtual 213, 3) := dX8_behind_r58.1
theorem dX8_behind_61 : decode cX8_behind 61 = .ok (.aload_n 0, 1) := dX8_behind_r58.2.1
theorem dX8_behind_62 : decode cX8_behind 62 = .ok (.iload_n 1, 1) := dX8_behind_r58.2.2.1
theorem dX8_behind_63 : decode cX8_behind 63 = .ok (.iload_n 2, 1) := dX8_behind_r58.2.2.2.1
theorem dX8_behind_64 : decode cX8_behind 64 = .ok (.invokevirtual 296, 3) := dX8_behind_r58.2.2.2.2.1
theorem dX8_behind_67 : decode cX8_behind 67 = .ok (.istore 5, 2) := dX8_behind_r58.2.2.2.2.2.1
theorem dX8_behind_69 : decode cX8_behind 69 = .ok (.iload_n 3, 1) := dX8_behind_r58.2.2.2.2.2.2.1
theorem dX8_behind_70 : decode cX8_behind 70 = .ok (.ifCond .ne 10, 3) := dX8_behind_r58.2.2.2.2.2.2.2.1
theorem dX8_behind_73 : decode cX8_behind 73 = .ok (.aload_n 0, 1) := dX8_behind_r58.2.2.2.2.2.2.2.2.1
theorem dX8_behind_74 : decode cX8_behind 74 = .ok (.getfield 207, 3) := dX8_behind_r58.2.2.2.2.2.2.2.2.2.1
theorem dX8_behind_77 : decode cX8_behind 77 = .ok (.goto 31, 3) := dX8_behind_r58.2.2.2.2.2.2.2.2.2.2.1
theorem dX8_behind_80 : decode cX8_behind 80 = .ok (.iload_n 3, 1) := dX8_behind_r58.2.2.2.2.2.2.2.2.2.2.2.1
theorem dX8_behind_81 : decode cX8_behind 81 = .ok (.iconst 1, 1) := dX8_behind_r58.2.2.2.2.2.2.2.2.2.2.2.2.1
theorem dX8_behind_82 : decode cX8_behind 82 = .ok (.if_icmp .ne 10, 3) := dX8_behind_r58.2.2.2.2.2.2.2.2.2.2.2.2.2.1
theorem dX8_behind_85 : decode cX8_behind 85 = .ok (.aload_n 0, 1) := dX8_behind_r58.2.2.2.2.2.2.2.2.2.2.2.2.2.2.1
theorem dX8_behind_86 : decode cX8_behind 86 = .ok (.getfield 210, 3) := dX8_behind_r58.2.2.2.2.2.2.2.2.2.2.2.2.2.2.2.1
theorem dX8_behind_r89 : zdcP cX8_behind 89 [(.goto 19, 3), (.iload_n 3, 1), (.iconst 2, 1), (.if_icmp .ne 10, 3), (.aload_n 0, 1), (.invokevirtual 241, 3), (.goto 7, 3), (.aload_n 0, 1), (.getfield 13, 3), (.istore 6, 2), (.aload_n 0, 1), (.invokevirtual 284, 3), (.iload 5, 2), (.iconst (-1), 1), (.if_icmp .ne 8, 3), (.iload 6, 2)] := zdcA_ok (by decide +kernel)
theorem dX8_behind_89 : decode cX8_behind 89 = .ok (.goto 19, 3) := dX8_behind_r89.1
theorem dX8_behind_92 : decode cX8_behind 92 = .ok (.iload_n 3, 1) := dX8_behind_r89.2.1
theorem dX8_behind_93 : decode cX8_behind 93 = .ok (.iconst 2, 1) := dX8_behind_r89.2.2.1
theorem dX8_behind_94 : decode cX8_behind 94 = .ok (.if_icmp .ne 10, 3) := dX8_behind_r89.2.2.2.1
theorem dX8_behind_97 : decode cX8_behind 97 = .ok (.aload_n 0, 1) := dX8_behind_r89.2.2.2.2.1
theorem dX8_behind_98 : decode cX8_behind 98 = .ok (.invokevirtual 241, 3) := dX8_behind_r89.2.2.2.2.2.1
theorem dX8_behind_101 : decode cX8_behind 101 = .ok (.goto 7, 3) := dX8_behind_r89.2.2.2.2.2.2.1
theorem dX8_behind_104 : decode cX8_behind 104 = .ok (.aload_n 0, 1) := dX8_behind_r89.2.2.2.2.2.2.2.1
theorem dX8_behind_105 : decode cX8_behind 105 = .ok (.getfield 13, 3) := dX8_behind_r89.2.2.2.2.2.2.2.2.1
theorem dX8_behind_108 : decode cX8_behind 108 = .ok (.istore 6, 2) := dX8_behind_r89.2.2.2.2.2.2.2.2.2.1
theorem dX8_behind_110 : decode cX8_behind 110 = .ok (.aload_n 0, 1) := dX8_behind_r89.2.2.2.2.2.2.2.2.2.2.1
theorem dX8_behind_111 : decode cX8_behind 111 = .ok (.invokevirtual 284, 3) := dX8_behind_r89.2.2.2.2.2.2.2.2.2.2.2.1
theorem dX8_behind_114 : decode cX8_behind 114 = .ok (.iload 5, 2) := dX8_behind_r89.2.2.2.2.2.2.2.2.2.2.2.2.1
theorem dX8_behind_116 : decode cX8_behind 116 = .ok (.iconst (-1), 1) := dX8_behind_r89.2.2.2.2.2.2.2.2.2.2.2.2.2.1
theorem dX8_behind_117 : decode cX8_behind 117 = .ok (.if_icmp .ne 8, 3) := dX8_behind_r89.2.2.2.2.2.2.2.2.2.2.2.2.2.2.1
theorem dX8_behind_120 : decode cX8_behind 120 = .ok (.iload 6, 2) := dX8_behind_r89.2.2.2.2.2.2.2.2.2.2.2.2.2.2.2.1
theorem dX8_behind_r122 : zdcP cX8_behind 122 [(.goto 9, 3), (.aload_n 0, 1), (.bipush (-6), 2), (.invokevirtual 115, 3), (.ireturn, 1)] := zdcA_ok (by decide +kernel)
theorem dX8_behind_122 : decode cX8_behind 122 = .ok (.goto 9, 3) := dX8_behind_r122.1
theorem dX8_behind_125 : decode cX8_behind 125 = .ok (.aload_n 0, 1) := dX8_behind_r122.2.1
theorem dX8_behind_126 : decode cX8_behind 126 = .ok (.bipush (-6), 2) := dX8_behind_r122.2.2.1
theorem dX8_behind_128 : decode cX8_behind 128 = .ok (.invokevirtual 115, 3) := dX8_behind_r122.2.2.2.1
theorem dX8_behind_131 : decode cX8_behind 131 = .ok (.ireturn, 1) := dX8_behind_r122.2.2.2.2.1
def wq_192_108 (v1 : Int32) (v2 : Int32) (v3 : Int32) (v5 : Int32) (u0 : Int32) (m : zf_Me) (Q : Int32 → zf_Me → Prop) : Prop := wp_182 m (fun m8 => ((¬ v5.toInt = (-1) → wp_125 (-6) m8 (fun x9 m10 => Q x9 m10)) ∧ (v5.toInt = (-1) → Q u0 m8)))
theorem zq_192_108 {d : Nat} (hd : 4 ≤ d) {v1 : Int32} {v2 : Int32} {v3 : Int32} {Q : Int32 → zf_Me → Prop} {v5 : Int32} {u0 : Int32} {m : zf_Me} (h : wq_192_108 v1 v2 v3 v5 u0 m Q) : zf_W none 0 0 d zt_192 108 [some (.inr (.inr (1, 63))), none, none, none, none, some (.inl v5), none] [.inl u0] m (zf_I Q) := by
  obtain ⟨e, rfl⟩ : ∃ z, d = z + 1 := ⟨d - 1, by omega⟩
  unfold wq_192_108 at h
  refine zf_st (pc' := 110) (L2 := [some (.inr (.inr (1, 63))), none, none, none, none, some (.inl v5), some (.inl u0)]) dX8_behind_108 rfl (fun _ _ _ => rfl) rfl rfl rfl rfl rfl rfl ?_
  refine zf_ld (pc' := 111) (v := .inr (.inr (1, 63))) dX8_behind_110 rfl (fun _ _ _ => rfl) rfl rfl rfl ?_
  refine zf_iv (k := 182) (pc' := 114) (r := []) dX8_behind_111 rfl rfl rfl rfl (by decide) rfl rfl rfl (zr_182 (by omega) h) (zf_kO (fun m8 h => ?_))
  refine zf_ld (pc' := 116) (v := .inl v5) dX8_behind_114 rfl (fun _ _ _ => rfl) rfl rfl rfl ?_
  refine zf_ic (v := (-1)) (pc' := 117) dX8_behind_116 rfl rfl ?_
  refine zf_icmp_ne (tgt := 125) (pc' := 120) dX8_behind_117 rfl rfl (fun g => ?_) (fun g => ?_)
  · replace h := h.1 g
    refine zf_ld (pc' := 126) (v := .inr (.inr (1, 63))) dX8_behind_125 rfl (fun _ _ _ => rfl) rfl rfl rfl ?_
    refine zf_bi (v := (-6)) (pc' := 128) dX8_behind_126 rfl rfl ?_
    refine zf_iv (k := 125) (pc' := 131) (r := []) dX8_behind_128 rfl rfl rfl rfl (by decide) rfl rfl rfl (zr_125 (by omega) h) (zf_kI (fun x9 m10 h => ?_))
    exact zf_ri dX8_behind_131 rfl h
  · replace h := h.2 g
    refine zf_ld (pc' := 122) (v := .inl u0) dX8_behind_120 rfl (fun _ _ _ => rfl) rfl rfl rfl ?_
    refine zf_goto (tgt := 131) dX8_behind_122 rfl ?_
    exact zf_ri dX8_behind_131 rfl h
def wq_192_39 (v1 : Int32) (v2 : Int32) (v3 : Int32) (v4 : Int32) (m : zf_Me) (Q : Int32 → zf_Me → Prop) : Prop := ((v4.toInt = 0 → wp_161 81 90 0 0 m (fun m4 => wp_189 v1 v2 m4 (fun x5 m6 => ((¬ v3.toInt = 0 → ((¬ v3.toInt = 1 → ((¬ v3.toInt = 2 → wq_192_108 v1 v2 v3 x5 (m6.1 63 3) m6 Q) ∧ (v3.toInt = 2 → wp_170 m6 (fun x11 m12 => wq_192_108 v1 v2 v3 x5 x11 m12 Q)))) ∧ (v3.toInt = 1 → wq_192_108 v1 v2 v3 x5 (m6.1 63 11) m6 Q))) ∧ (v3.toInt = 0 → wq_192_108 v1 v2 v3 x5 (m6.1 63 10) m6 Q))))) ∧ (¬ v4.toInt = 0 → wp_125 v4 m (fun x13 m14 => Q x13 m14)))
theorem zq_192_39 {d : Nat} (hd : 4 ≤ d) {v1 : Int32} {v2 : Int32} {v3 : Int32} {Q : Int32 → zf_Me → Prop} {v4 : Int32} {m : zf_Me} (h : wq_192_39 v1 v2 v3 v4 m Q) : zf_W none 0 0 d zt_192 39 [some (.inr (.inr (1, 63))), some (.inl v1), some (.inl v2), some (.inl v3), some (.inl v4), none, none] [] m (zf_I Q) := by
  obtain ⟨e, rfl⟩ : ∃ z, d = z + 1 := ⟨d - 1, by omega⟩
  unfold wq_192_39 at h
  refine zf_ld (pc' := 41) (v := .inl v4) dX8_behind_39 rfl (fun _ _ _ => rfl) rfl rfl rfl ?_
  refine zf_if_eq (tgt := 51) (pc' := 44) dX8_behind_41 rfl rfl (fun g => ?_) (fun g => ?_)
  · replace h := h.1 g
    refine zf_ld (pc' := 52) (v := .inr (.inr (1, 63))) dX8_behind_51 rfl (fun _ _ _ => rfl) rfl rfl rfl ?_
    refine zf_ld (pc' := 53) (v := .inr (.inr (1, 63))) dX8_behind_52 rfl (fun _ _ _ => rfl) rfl rfl rfl ?_
    refine zf_gfr (pc' := 56) (b := 81) dX8_behind_53 rfl rfl (by decide) rfl rfl ?_
    refine zf_ic (v := 0) (pc' := 57) dX8_behind_56 rfl rfl ?_
    refine zf_ic (v := 0) (pc' := 58) dX8_behind_57 rfl rfl ?_
    refine zf_iv (k := 161) (pc' := 61) (r := []) dX8_behind_58 rfl rfl rfl rfl (by decide) rfl rfl rfl (zr_161 (by omega) (⟨by decide, rfl⟩ : zf_arr 81 90) h) (zf_kO (fun m4 h => ?_))
    refine zf_ld (pc' := 62) (v := .inr (.inr (1, 63))) dX8_behind_61 rfl (fun _ _ _ => rfl) rfl rfl rfl ?_
    refine zf_ld (pc' := 63) (v := .inl v1) dX8_behind_62 rfl (fun _ _ _ => rfl) rfl rfl rfl ?_
    refine zf_ld (pc' := 64) (v := .inl v2) dX8_behind_63 rfl (fun _ _ _ => rfl) rfl rfl rfl ?_
    refine zf_iv (k := 189) (pc' := 67) (r := []) dX8_behind_64 rfl rfl rfl rfl (by decide) rfl rfl rfl (zr_189 (by omega) h) (zf_kI (fun x5 m6 h => ?_))
    refine zf_st (pc' := 69) (L2 := [some (.inr (.inr (1, 63))), some (.inl v1), some (.inl v2), some (.inl v3), some (.inl v4), some (.inl x5), none]) dX8_behind_67 rfl (fun _ _ _ => rfl) rfl rfl rfl rfl rfl rfl ?_
    refine zf_ld (pc' := 70) (v := .inl v3) dX8_behind_69 rfl (fun _ _ _ => rfl) rfl rfl rfl ?_
    refine zf_if_ne (tgt := 80) (pc' := 73) dX8_behind_70 rfl rfl (fun g => ?_) (fun g => ?_)
    · replace h := h.1 g
      refine zf_ld (pc' := 81) (v := .inl v3) dX8_behind_80 rfl (fun _ _ _ => rfl) rfl rfl rfl ?_
      refine zf_ic (v := 1) (pc' := 82) dX8_behind_81 rfl rfl ?_
      refine zf_icmp_ne (tgt := 92) (pc' := 85) dX8_behind_82 rfl rfl (fun g => ?_) (fun g => ?_)
      · replace h := h.1 g
        refine zf_ld (pc' := 93) (v := .inl v3) dX8_behind_92 rfl (fun _ _ _ => rfl) rfl rfl rfl ?_
        refine zf_ic (v := 2) (pc' := 94) dX8_behind_93 rfl rfl ?_
        refine zf_icmp_ne (tgt := 104) (pc' := 97) dX8_behind_94 rfl rfl (fun g => ?_) (fun g => ?_)
        · replace h := h.1 g
          refine zf_ld (pc' := 105) (v := .inr (.inr (1, 63))) dX8_behind_104 rfl (fun _ _ _ => rfl) rfl rfl rfl ?_
          refine zf_gfi (pc' := 108) dX8_behind_105 rfl rfl (by decide) rfl rfl ?_
          exact zf_lo (zq_192_108 (by omega) h) ⟨rfl, rfl, trivial⟩
        · replace h := h.2 g
          refine zf_ld (pc' := 98) (v := .inr (.inr (1, 63))) dX8_behind_97 rfl (fun _ _ _ => rfl) rfl rfl rfl ?_
          refine zf_iv (k := 170) (pc' := 101) (r := []) dX8_behind_98 rfl rfl rfl rfl (by decide) rfl rfl rfl (zr_170 (by omega) h) (zf_kI (fun x11 m12 h => ?_))
          refine zf_goto (tgt := 108) dX8_behind_101 rfl ?_
          exact zf_lo (zq_192_108 (by omega) h) ⟨rfl, rfl, trivial⟩
      · replace h := h.2 g
        refine zf_ld (pc' := 86) (v := .inr (.inr (1, 63))) dX8_behind_85 rfl (fun _ _ _ => rfl) rfl rfl rfl ?_
        refine zf_gfi (pc' := 89) dX8_behind_86 rfl rfl (by decide) rfl rfl ?_
        refine zf_goto (tgt := 108) dX8_behind_89 rfl ?_
        exact zf_lo (zq_192_108 (by omega) h) ⟨rfl, rfl, trivial⟩
    · replace h := h.2 g
      refine zf_ld (pc' := 74) (v := .inr (.inr (1, 63))) dX8_behind_73 rfl (fun _ _ _ => rfl) rfl rfl rfl ?_
      refine zf_gfi (pc' := 77) dX8_behind_74 rfl rfl (by decide) rfl rfl ?_
      refine zf_goto (tgt := 108) dX8_behind_77 rfl ?_
      exact zf_lo (zq_192_108 (by omega) h) ⟨rfl, rfl, trivial⟩
  · replace h := h.2 g
    refine zf_ld (pc' := 45) (v := .inr (.inr (1, 63))) dX8_behind_44 rfl (fun _ _ _ => rfl) rfl rfl rfl ?_
    refine zf_ld (pc' := 47) (v := .inl v4) dX8_behind_45 rfl (fun _ _ _ => rfl) rfl rfl rfl ?_
    refine zf_iv (k := 125) (pc' := 50) (r := []) dX8_behind_47 rfl rfl rfl rfl (by decide) rfl rfl rfl (zr_125 (by omega) h) (zf_kI (fun x13 m14 h => ?_))
    exact zf_ri dX8_behind_50 rfl h
def wq_192_26 (v1 : Int32) (v2 : Int32) (v3 : Int32) (v4 : Int32) (m : zf_Me) (Q : Int32 → zf_Me → Prop) : Prop := ((¬ v4.toInt = 0 → wq_192_39 v1 v2 v3 v4 m Q) ∧ (v4.toInt = 0 → wp_190 v1 v2 m (fun x15 m16 => wq_192_39 v1 v2 v3 x15 m16 Q)))
theorem zq_192_26 {d : Nat} (hd : 4 ≤ d) {v1 : Int32} {v2 : Int32} {v3 : Int32} {Q : Int32 → zf_Me → Prop} {v4 : Int32} {m : zf_Me} (h : wq_192_26 v1 v2 v3 v4 m Q) : zf_W none 0 0 d zt_192 26 [some (.inr (.inr (1, 63))), some (.inl v1), some (.inl v2), some (.inl v3), some (.inl v4), none, none] [] m (zf_I Q) := by
  obtain ⟨e, rfl⟩ : ∃ z, d = z + 1 := ⟨d - 1, by omega⟩
  unfold wq_192_26 at h
  refine zf_ld (pc' := 28) (v := .inl v4) dX8_behind_26 rfl (fun _ _ _ => rfl) rfl rfl rfl ?_
  refine zf_if_ne (tgt := 39) (pc' := 31) dX8_behind_28 rfl rfl (fun g => ?_) (fun g => ?_)
  · replace h := h.1 g
    exact zf_lo (zq_192_39 (by omega) h) ⟨rfl, rfl, rfl, rfl, rfl, trivial⟩
  · replace h := h.2 g
    refine zf_ld (pc' := 32) (v := .inr (.inr (1, 63))) dX8_behind_31 rfl (fun _ _ _ => rfl) rfl rfl rfl ?_
    refine zf_ld (pc' := 33) (v := .inl v1) dX8_behind_32 rfl (fun _ _ _ => rfl) rfl rfl rfl ?_
    refine zf_ld (pc' := 34) (v := .inl v2) dX8_behind_33 rfl (fun _ _ _ => rfl) rfl rfl rfl ?_
    refine zf_iv (k := 190) (pc' := 37) (r := []) dX8_behind_34 rfl rfl rfl rfl (by decide) rfl rfl rfl (zr_190 (by omega) h) (zf_kI (fun x15 m16 h => ?_))
    refine zf_st (pc' := 39) (L2 := [some (.inr (.inr (1, 63))), some (.inl v1), some (.inl v2), some (.inl v3), some (.inl x15), none, none]) dX8_behind_37 rfl (fun _ _ _ => rfl) rfl rfl rfl rfl rfl rfl ?_
    exact zf_lo (zq_192_39 (by omega) h) ⟨rfl, rfl, rfl, rfl, rfl, trivial⟩
def wq_192_22 (v1 : Int32) (v2 : Int32) (v3 : Int32) (m : zf_Me) (Q : Int32 → zf_Me → Prop) : Prop := wq_192_26 v1 v2 v3 (-5) m Q
theorem zq_192_22 {d : Nat} (hd : 4 ≤ d) {v1 : Int32} {v2 : Int32} {v3 : Int32} {Q : Int32 → zf_Me → Prop} {m : zf_Me} (h : wq_192_22 v1 v2 v3 m Q) : zf_W none 0 0 d zt_192 22 [some (.inr (.inr (1, 63))), some (.inl v1), some (.inl v2), some (.inl v3), none, none, none] [] m (zf_I Q) := by
  unfold wq_192_22 at h
  refine zf_bi (v := (-5)) (pc' := 24) dX8_behind_22 rfl rfl ?_
  refine zf_st (pc' := 26) (L2 := [some (.inr (.inr (1, 63))), some (.inl v1), some (.inl v2), some (.inl v3), some (.inl (-5)), none, none]) dX8_behind_24 rfl (fun _ _ _ => rfl) rfl rfl rfl rfl rfl rfl ?_
  exact zf_lo (zq_192_26 (by omega) h) ⟨rfl, rfl, rfl, rfl, rfl, trivial⟩
def wp_192 (v1 : Int32) (v2 : Int32) (v3 : Int32) (m : zf_Me) (Q : Int32 → zf_Me → Prop) : Prop := wp_139 v1 v2 m (fun x1 m2 => ((¬ x1.toInt = 0 → wq_192_26 v1 v2 v3 x1 m2 Q) ∧ (x1.toInt = 0 → ((v3.toInt < 0 → wq_192_22 v1 v2 v3 m2 Q) ∧ (v3.toInt ≥ 0 → ((v3.toInt ≤ 3 → wq_192_26 v1 v2 v3 x1 m2 Q) ∧ (v3.toInt > 3 → wq_192_22 v1 v2 v3 m2 Q)))))))
theorem zr_192 {d : Nat} (hd : 4 ≤ d) {v1 : Int32} {v2 : Int32} {v3 : Int32} {Q : Int32 → zf_Me → Prop} {m : zf_Me} (h : wp_192 v1 v2 v3 m Q) : zf_M d 192 [.inr (.inr (1, 63)), .inl v1, .inl v2, .inl v3] m (zf_I Q) := by
  obtain ⟨e, rfl⟩ : ∃ z, d = z + 1 := ⟨d - 1, by omega⟩
  unfold wp_192 at h
  refine zf_M_of (Nat.le_of_ble_eq_true rfl) zm_192 (L := [some (.inr (.inr (1, 63))), some (.inl v1), some (.inl v2), some (.inl v3), none, none, none]) rfl ?_
  refine zf_ld (pc' := 1) (v := .inr (.inr (1, 63))) dX8_behind_0 rfl (fun _ _ _ => rfl) rfl rfl rfl ?_
  refine zf_ld (pc' := 2) (v := .inl v1) dX8_behind_1 rfl (fun _ _ _ => rfl) rfl rfl rfl ?_
  refine zf_ld (pc' := 3) (v := .inl v2) dX8_behind_2 rfl (fun _ _ _ => rfl) rfl rfl rfl ?_
  refine zf_iv (k := 139) (pc' := 6) (r := []) dX8_behind_3 rfl rfl rfl rfl (by decide) rfl rfl rfl (zr_139 (by omega) h) (zf_kI (fun x1 m2 h => ?_))
  refine zf_st (pc' := 8) (L2 := [some (.inr (.inr (1, 63))), some (.inl v1), some (.inl v2), some (.inl v3), some (.inl x1), none, none]) dX8_behind_6 rfl (fun _ _ _ => rfl) rfl rfl rfl rfl rfl rfl ?_
  refine zf_ld (pc' := 10) (v := .inl x1) dX8_behind_8 rfl (fun _ _ _ => rfl) rfl rfl rfl ?_
  refine zf_if_ne (tgt := 26) (pc' := 13) dX8_behind_10 rfl rfl (fun g => ?_) (fun g => ?_)
  · replace h := h.1 g
    exact zf_lo (zq_192_26 (by omega) h) ⟨rfl, rfl, rfl, rfl, rfl, trivial⟩
  · replace h := h.2 g
    refine zf_ld (pc' := 14) (v := .inl v3) dX8_behind_13 rfl (fun _ _ _ => rfl) rfl rfl rfl ?_
    refine zf_if_lt (tgt := 22) (pc' := 17) dX8_behind_14 rfl rfl (fun g => ?_) (fun g => ?_)
    · replace h := h.1 g
      exact zf_lo (zq_192_22 (by omega) h) ⟨rfl, rfl, rfl, rfl, trivial⟩
    · replace h := h.2 g
      refine zf_ld (pc' := 18) (v := .inl v3) dX8_behind_17 rfl (fun _ _ _ => rfl) rfl rfl rfl ?_
      refine zf_ic (v := 3) (pc' := 19) dX8_behind_18 rfl rfl ?_
      refine zf_icmp_le (tgt := 26) (pc' := 22) dX8_behind_19 rfl rfl (fun g => ?_) (fun g => ?_)
      · replace h := h.1 g
        exact zf_lo (zq_192_26 (by omega) h) ⟨rfl, rfl, rfl, rfl, rfl, trivial⟩
      · replace h := h.2 g
        exact zf_lo (zq_192_22 (by omega) h) ⟨rfl, rfl, rfl, rfl, trivial⟩
