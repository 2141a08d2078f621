/-! part 41: methods 176..: laid by wip/flat/dec.py -/
def zt_176 : zx_MT := (8, yX8_freshest, cX8_freshest, 3, (some FieldType.int), 0, 0)
theorem zm_176 : zx_m 176 = zt_176 := rfl
theorem dX8_freshest_r0 : zdcP cX8_freshest 0 [(.iconst (-1), 1), (.istore_n 1, 1), (.iconst 0, 1), (.istore_n 2, 1), (.iload_n 2, 1), (.aload_n 0, 1), (.getfield 105, 3), (.if_icmp .ge 39, 3), (.aload_n 0, 1), (.iload_n 2, 1), (.invokevirtual 220, 3), (.ifCond .eq 25, 3), (.iload_n 1, 1), (.iconst (-1), 1), (.if_icmp .eq 18, 3), (.aload_n 0, 1)] := zdcA_ok (by decide +kernel)
theorem dX8_freshest_0 : decode cX8_freshest 0 = .ok (.iconst (-1), 1) := dX8_freshest_r0.1
theorem dX8_freshest_1 : decode cX8_freshest 1 = .ok (.istore_n 1, 1) := dX8_freshest_r0.2.1
theorem dX8_freshest_2 : decode cX8_freshest 2 = .ok (.iconst 0, 1) := dX8_freshest_r0.2.2.1
theorem dX8_freshest_3 : decode cX8_freshest 3 = .ok (.istore_n 2, 1) := dX8_freshest_r0.2.2.2.1
theorem dX8_freshest_4 : decode cX8_freshest 4 = .ok (.iload_n 2, 1) := dX8_freshest_r0.2.2.2.2.1
theorem dX8_freshest_5 : decode cX8_freshest 5 = .ok (.aload_n 0, 1) := dX8_freshest_r0.2.2.2.2.2.1
theorem dX8_freshest_6 : decode cX8_freshest 6 = .ok (.getfield 105, 3) := dX8_freshest_r0.2.2.2.2.2.2.1
theorem dX8_freshest_9 : decode cX8_freshest 9 = .ok (.if_icmp .ge 39, 3) := dX8_freshest_r0.2.2.2.2.2.2.2.1
theorem dX8_freshest_12 : decode cX8_freshest 12 = .ok (.aload_n 0, 1) := dX8_freshest_r0.2.2.2.2.2.2.2.2.1
theorem dX8_freshest_13 : decode cX8_freshest 13 = .ok (.iload_n 2, 1) := dX8_freshest_r0.2.2.2.2.2.2.2.2.2.1
theorem dX8_freshest_14 : decode cX8_freshest 14 = .ok (.invokevirtual 220, 3) := dX8_freshest_r0.2.2.2.2.2.2.2.2.2.2.1
theorem dX8_freshest_17 : decode cX8_freshest 17 = .ok (.ifCond .eq 25, 3) := dX8_freshest_r0.2.2.2.2.2.2.2.2.2.2.2.1
theorem dX8_freshest_20 : decode cX8_freshest 20 = .ok (.iload_n 1, 1) := dX8_freshest_r0.2.2.2.2.2.2.2.2.2.2.2.2.1
theorem dX8_freshest_21 : decode cX8_freshest 21 = .ok (.iconst (-1), 1) := dX8_freshest_r0.2.2.2.2.2.2.2.2.2.2.2.2.2.1
theorem dX8_freshest_22 : decode cX8_freshest 22 = .ok (.if_icmp .eq 18, 3) := dX8_freshest_r0.2.2.2.2.2.2.2.2.2.2.2.2.2.2.1
theorem dX8_freshest_25 : decode cX8_freshest 25 = .ok (.aload_n 0, 1) := dX8_freshest_r0.2.2.2.2.2.2.2.2.2.2.2.2.2.2.2.1
theorem dX8_freshest_r26 : zdcP cX8_freshest 26 [(.getfield 53, 3), (.iload_n 2, 1), (.iaload, 1), (.aload_n 0, 1), (.getfield 53, 3), (.iload_n 1, 1), (.iaload, 1), (.if_icmp .ge 5, 3), (.iload_n 2, 1), (.istore_n 1, 1), (.iinc 2 1, 3), (.goto (-41), 3), (.iload_n 1, 1), (.ireturn, 1)] := zdcA_ok (by decide +kernel)
theorem dX8_freshest_26 : decode cX8_freshest 26 = .ok (.getfield 53, 3) := dX8_freshest_r26.1
theorem dX8_freshest_29 : decode cX8_freshest 29 = .ok (.iload_n 2, 1) := dX8_freshest_r26.2.1
theorem dX8_freshest_30 : decode cX8_freshest 30 = .ok (.iaload, 1) := dX8_freshest_r26.2.2.1
theorem dX8_freshest_31 : decode cX8_freshest 31 = .ok (.aload_n 0, 1) := dX8_freshest_r26.2.2.2.1
theorem dX8_freshest_32 : decode cX8_freshest 32 = .ok (.getfield 53, 3) := dX8_freshest_r26.2.2.2.2.1
theorem dX8_freshest_35 : decode cX8_freshest 35 = .ok (.iload_n 1, 1) := dX8_freshest_r26.2.2.2.2.2.1
theorem dX8_freshest_36 : decode cX8_freshest 36 = .ok (.iaload, 1) := dX8_freshest_r26.2.2.2.2.2.2.1
theorem dX8_freshest_37 : decode cX8_freshest 37 = .ok (.if_icmp .ge 5, 3) := dX8_freshest_r26.2.2.2.2.2.2.2.1
theorem dX8_freshest_40 : decode cX8_freshest 40 = .ok (.iload_n 2, 1) := dX8_freshest_r26.2.2.2.2.2.2.2.2.1
theorem dX8_freshest_41 : decode cX8_freshest 41 = .ok (.istore_n 1, 1) := dX8_freshest_r26.2.2.2.2.2.2.2.2.2.1
theorem dX8_freshest_42 : decode cX8_freshest 42 = .ok (.iinc 2 1, 3) := dX8_freshest_r26.2.2.2.2.2.2.2.2.2.2.1
theorem dX8_freshest_45 : decode cX8_freshest 45 = .ok (.goto (-41), 3) := dX8_freshest_r26.2.2.2.2.2.2.2.2.2.2.2.1
theorem dX8_freshest_48 : decode cX8_freshest 48 = .ok (.iload_n 1, 1) := dX8_freshest_r26.2.2.2.2.2.2.2.2.2.2.2.2.1
theorem dX8_freshest_49 : decode cX8_freshest 49 = .ok (.ireturn, 1) := dX8_freshest_r26.2.2.2.2.2.2.2.2.2.2.2.2.2.1
def wq_176_4 (Q : Int32 → zf_Me → Prop) : Nat → Int32 → Int32 → zf_Me → Prop
  | 0, _, _, _ => False
  | n + 1, v1, v2, m => ((v2.toInt ≥ ((m.1 63 1)).toInt → Q v1 m) ∧ (v2.toInt < ((m.1 63 1)).toInt → wp_166 v2 m (fun b1 m2 => ((b1 = false → wq_176_4 Q n v1 (v2 + 1) m2) ∧ (b1 = true → ((v1.toInt = (-1) → wq_176_4 Q n v2 (v2 + 1) m2) ∧ (¬ v1.toInt = (-1) → ((0 ≤ (Int32.toInt v2) ∧ (Int32.toInt v2) < (6 : Int)) ∧ ((0 ≤ (Int32.toInt v1) ∧ (Int32.toInt v1) < (6 : Int)) ∧ ((((m2.1 69 (Int32.toInt v2).toNat)).toInt ≥ ((m2.1 69 (Int32.toInt v1).toNat)).toInt → wq_176_4 Q n v1 (v2 + 1) m2) ∧ (((m2.1 69 (Int32.toInt v2).toNat)).toInt < ((m2.1 69 (Int32.toInt v1).toNat)).toInt → wq_176_4 Q n v2 (v2 + 1) m2)))))))))))
theorem zq_176_4 {d : Nat} (hd : 2 ≤ d) {Q : Int32 → zf_Me → Prop} : ∀ (n : Nat) (v1 : Int32) (v2 : Int32) (m : zf_Me), wq_176_4 Q n v1 v2 m → zf_W none 0 0 d zt_176 4 [some (.inr (.inr (1, 63))), some (.inl v1), some (.inl v2)] [] m (zf_I Q) := by
  obtain ⟨e, rfl⟩ : ∃ z, d = z + 1 := ⟨d - 1, by omega⟩
  intro n
  induction n with
  | zero =>
    intro v1 v2 m h
    exact h.elim
  | succ n ih =>
    intro v1 v2 m h
    unfold wq_176_4 at h
    refine zf_ld (pc' := 5) (v := .inl v2) dX8_freshest_4 rfl (fun _ _ _ => rfl) rfl rfl rfl ?_
    refine zf_ld (pc' := 6) (v := .inr (.inr (1, 63))) dX8_freshest_5 rfl (fun _ _ _ => rfl) rfl rfl rfl ?_
    refine zf_gfi (pc' := 9) dX8_freshest_6 rfl rfl (by decide) rfl rfl ?_
    refine zf_icmp_ge (tgt := 48) (pc' := 12) dX8_freshest_9 rfl rfl (fun g => ?_) (fun g => ?_)
    · replace h := h.1 g
      refine zf_ld (pc' := 49) (v := .inl v1) dX8_freshest_48 rfl (fun _ _ _ => rfl) rfl rfl rfl ?_
      exact zf_ri dX8_freshest_49 rfl h
    · replace h := h.2 g
      refine zf_ld (pc' := 13) (v := .inr (.inr (1, 63))) dX8_freshest_12 rfl (fun _ _ _ => rfl) rfl rfl rfl ?_
      refine zf_ld (pc' := 14) (v := .inl v2) dX8_freshest_13 rfl (fun _ _ _ => rfl) rfl rfl rfl ?_
      refine zf_iv (k := 166) (pc' := 17) (r := []) dX8_freshest_14 rfl rfl rfl rfl (by decide) rfl rfl rfl (zr_166 (by omega) h) (zf_kB (fun b1 m2 h => ?_))
      refine zf_ib_eq (tgt := 42) (pc' := 20) dX8_freshest_17 rfl rfl (fun g => ?_) (fun g => ?_)
      · replace h := h.1 g
        refine zf_ii (y := (v2 + 1)) (L2 := [some (.inr (.inr (1, 63))), some (.inl v1), some (.inl (v2 + 1))]) (pc' := 45) dX8_freshest_42 rfl rfl rfl rfl rfl ?_
        refine zf_goto (tgt := 4) dX8_freshest_45 rfl ?_
        exact zf_lo (ih _ _ _ h) ⟨rfl, rfl, rfl, trivial⟩
      · replace h := h.2 g
        refine zf_ld (pc' := 21) (v := .inl v1) dX8_freshest_20 rfl (fun _ _ _ => rfl) rfl rfl rfl ?_
        refine zf_ic (v := (-1)) (pc' := 22) dX8_freshest_21 rfl rfl ?_
        refine zf_icmp_eq (tgt := 40) (pc' := 25) dX8_freshest_22 rfl rfl (fun g => ?_) (fun g => ?_)
        · replace h := h.1 g
          refine zf_ld (pc' := 41) (v := .inl v2) dX8_freshest_40 rfl (fun _ _ _ => rfl) rfl rfl rfl ?_
          refine zf_st (pc' := 42) (L2 := [some (.inr (.inr (1, 63))), some (.inl v2), some (.inl v2)]) dX8_freshest_41 rfl (fun _ _ _ => rfl) rfl rfl rfl rfl rfl rfl ?_
          refine zf_ii (y := (v2 + 1)) (L2 := [some (.inr (.inr (1, 63))), some (.inl v2), some (.inl (v2 + 1))]) (pc' := 45) dX8_freshest_42 rfl rfl rfl rfl rfl ?_
          refine zf_goto (tgt := 4) dX8_freshest_45 rfl ?_
          exact zf_lo (ih _ _ _ h) ⟨rfl, rfl, rfl, trivial⟩
        · replace h := h.2 g
          refine zf_ld (pc' := 26) (v := .inr (.inr (1, 63))) dX8_freshest_25 rfl (fun _ _ _ => rfl) rfl rfl rfl ?_
          refine zf_gfr (pc' := 29) (b := 69) dX8_freshest_26 rfl rfl (by decide) rfl rfl ?_
          refine zf_ld (pc' := 30) (v := .inl v2) dX8_freshest_29 rfl (fun _ _ _ => rfl) rfl rfl rfl ?_
          refine zf_ial (pc' := 31) dX8_freshest_30 rfl (⟨by decide, rfl⟩ : zf_arr 69 6).1 (⟨by decide, rfl⟩ : zf_arr 69 6).2 h.1 rfl ?_
          replace h := h.2
          refine zf_ld (pc' := 32) (v := .inr (.inr (1, 63))) dX8_freshest_31 rfl (fun _ _ _ => rfl) rfl rfl rfl ?_
          refine zf_gfr (pc' := 35) (b := 69) dX8_freshest_32 rfl rfl (by decide) rfl rfl ?_
          refine zf_ld (pc' := 36) (v := .inl v1) dX8_freshest_35 rfl (fun _ _ _ => rfl) rfl rfl rfl ?_
          refine zf_ial (pc' := 37) dX8_freshest_36 rfl (⟨by decide, rfl⟩ : zf_arr 69 6).1 (⟨by decide, rfl⟩ : zf_arr 69 6).2 h.1 rfl ?_
          replace h := h.2
          refine zf_icmp_ge (tgt := 42) (pc' := 40) dX8_freshest_37 rfl rfl (fun g => ?_) (fun g => ?_)
          · replace h := h.1 g
            refine zf_ii (y := (v2 + 1)) (L2 := [some (.inr (.inr (1, 63))), some (.inl v1), some (.inl (v2 + 1))]) (pc' := 45) dX8_freshest_42 rfl rfl rfl rfl rfl ?_
            refine zf_goto (tgt := 4) dX8_freshest_45 rfl ?_
            exact zf_lo (ih _ _ _ h) ⟨rfl, rfl, rfl, trivial⟩
          · replace h := h.2 g
            refine zf_ld (pc' := 41) (v := .inl v2) dX8_freshest_40 rfl (fun _ _ _ => rfl) rfl rfl rfl ?_
            refine zf_st (pc' := 42) (L2 := [some (.inr (.inr (1, 63))), some (.inl v2), some (.inl v2)]) dX8_freshest_41 rfl (fun _ _ _ => rfl) rfl rfl rfl rfl rfl rfl ?_
            refine zf_ii (y := (v2 + 1)) (L2 := [some (.inr (.inr (1, 63))), some (.inl v2), some (.inl (v2 + 1))]) (pc' := 45) dX8_freshest_42 rfl rfl rfl rfl rfl ?_
            refine zf_goto (tgt := 4) dX8_freshest_45 rfl ?_
            exact zf_lo (ih _ _ _ h) ⟨rfl, rfl, rfl, trivial⟩
def wp_176 (m : zf_Me) (Q : Int32 → zf_Me → Prop) : Prop := (∃ n4, wq_176_4 Q n4 (-1) 0 m)
theorem zr_176 {d : Nat} (hd : 2 ≤ d) {Q : Int32 → zf_Me → Prop} {m : zf_Me} (h : wp_176 m Q) : zf_M d 176 [.inr (.inr (1, 63))] m (zf_I Q) := by
  unfold wp_176 at h
  refine zf_M_of (Nat.le_of_ble_eq_true rfl) zm_176 (L := [some (.inr (.inr (1, 63))), none, none]) rfl ?_
  refine zf_ic (v := (-1)) (pc' := 1) dX8_freshest_0 rfl rfl ?_
  refine zf_st (pc' := 2) (L2 := [some (.inr (.inr (1, 63))), some (.inl (-1)), none]) dX8_freshest_1 rfl (fun _ _ _ => rfl) rfl rfl rfl rfl rfl rfl ?_
  refine zf_ic (v := 0) (pc' := 3) dX8_freshest_2 rfl rfl ?_
  refine zf_st (pc' := 4) (L2 := [some (.inr (.inr (1, 63))), some (.inl (-1)), some (.inl 0)]) dX8_freshest_3 rfl (fun _ _ _ => rfl) rfl rfl rfl rfl rfl rfl ?_
  obtain ⟨n4, h⟩ := h
  exact zf_lo (zq_176_4 (by omega) n4 _ _ _ h) ⟨rfl, rfl, rfl, trivial⟩
def zt_177 : zx_MT := (8, yX8_ruled, cX8_ruled, 4, (some FieldType.int), 1, 0)
theorem zm_177 : zx_m 177 = zt_177 := rfl
theorem dX8_ruled_r0 : zdcP cX8_ruled 0 [(.iload_n 1, 1), (.ifCond .ne 49, 3), (.iconst 0, 1), (.istore_n 2, 1), (.iload_n 2, 1), (.aload_n 0, 1), (.getfield 105, 3), (.if_icmp .ge 39, 3), (.aload_n 0, 1), (.getfield 248, 3), (.iload_n 2, 1), (.iadd, 1), (.aload_n 0, 1), (.getfield 105, 3), (.irem, 1), (.istore_n 3, 1)] := zdcA_ok (by decide +kernel)
theorem dX8_ruled_0 : decode cX8_ruled 0 = .ok (.iload_n 1, 1) := dX8_ruled_r0.1
theorem dX8_ruled_1 : decode cX8_ruled 1 = .ok (.ifCond .ne 49, 3) := dX8_ruled_r0.2.1
theorem dX8_ruled_4 : decode cX8_ruled 4 = .ok (.iconst 0, 1) := dX8_ruled_r0.2.2.1
theorem dX8_ruled_5 : decode cX8_ruled 5 = .ok (.istore_n 2, 1) := dX8_ruled_r0.2.2.2.1
theorem dX8_ruled_6 : decode cX8_ruled 6 = .ok (.iload_n 2, 1) := dX8_ruled_r0.2.2.2.2.1
theorem dX8_ruled_7 : decode cX8_ruled 7 = .ok (.aload_n 0, 1) := dX8_ruled_r0.2.2.2.2.2.1
theorem dX8_ruled_8 : decode cX8_ruled 8 = .ok (.getfield 105, 3) := dX8_ruled_r0.2.2.2.2.2.2.1
theorem dX8_ruled_11 : decode cX8_ruled 11 = .ok (.if_icmp .ge 39, 3) := dX8_ruled_r0.2.2.2.2.2.2.2.1
theorem dX8_ruled_14 : decode cX8_ruled 14 = .ok (.aload_n 0, 1) := dX8_ruled_r0.2.2.2.2.2.2.2.2.1
theorem dX8_ruled_15 : decode cX8_ruled 15 = .ok (.getfield 248, 3) := dX8_ruled_r0.2.2.2.2.2.2.2.2.2.1
theorem dX8_ruled_18 : decode cX8_ruled 18 = .ok (.iload_n 2, 1) := dX8_ruled_r0.2.2.2.2.2.2.2.2.2.2.1
theorem dX8_ruled_19 : decode cX8_ruled 19 = .ok (.iadd, 1) := dX8_ruled_r0.2.2.2.2.2.2.2.2.2.2.2.1
theorem dX8_ruled_20 : decode cX8_ruled 20 = .ok (.aload_n 0, 1) := dX8_ruled_r0.2.2.2.2.2.2.2.2.2.2.2.2.1
theorem dX8_ruled_21 : decode cX8_ruled 21 = .ok (.getfield 105, 3) := dX8_ruled_r0.2.2.2.2.2.2.2.2.2.2.2.2.2.1
theorem dX8_ruled_24 : decode cX8_ruled 24 = .ok (.irem, 1) := dX8_ruled_r0.2.2.2.2.2.2.2.2.2.2.2.2.2.2.1
theorem dX8_ruled_25 : decode cX8_ruled 25 = .ok (.istore_n 3, 1) := dX8_ruled_r0.2.2.2.2.2.2.2.2.2.2.2.2.2.2.2.1
theorem dX8_ruled_r26 : zdcP cX8_ruled 26 [(.aload_n 0, 1), (.iload_n 3, 1), (.invokevirtual 220, 3), (.ifCond .ne 6, 3), (.goto 10, 3), (.aload_n 0, 1), (.iload_n 3, 1), (.putfield 248, 3), (.iload_n 3, 1), (.ireturn, 1), (.iinc 2 1, 3), (.goto (-41), 3), (.iload_n 1, 1), (.iconst 1, 1), (.if_icmp .le 15, 3), (.aload_n 0, 1)] := zdcA_ok (by decide +kernel)
theorem dX8_ruled_26 : decode cX8_ruled 26 = .ok (.aload_n 0, 1) := dX8_ruled_r26.1
theorem dX8_ruled_27 : decode cX8_ruled 27 = .ok (.iload_n 3, 1) := dX8_ruled_r26.2.1
theorem dX8_ruled_28 : decode cX8_ruled 28 = .ok (.invokevirtual 220, 3) := dX8_ruled_r26.2.2.1
theorem dX8_ruled_31 : decode cX8_ruled 31 = .ok (.ifCond .ne 6, 3) := dX8_ruled_r26.2.2.2.1
theorem dX8_ruled_34 : decode cX8_ruled 34 = .ok (.goto 10, 3) := dX8_ruled_r26.2.2.2.2.1
theorem dX8_ruled_37 : decode cX8_ruled 37 = .ok (.aload_n 0, 1) := dX8_ruled_r26.2.2.2.2.2.1
theorem dX8_ruled_38 : decode cX8_ruled 38 = .ok (.iload_n 3, 1) := dX8_ruled_r26.2.2.2.2.2.2.1
theorem dX8_ruled_39 : decode cX8_ruled 39 = .ok (.putfield 248, 3) := dX8_ruled_r26.2.2.2.2.2.2.2.1
theorem dX8_ruled_42 : decode cX8_ruled 42 = .ok (.iload_n 3, 1) := dX8_ruled_r26.2.2.2.2.2.2.2.2.1
theorem dX8_ruled_43 : decode cX8_ruled 43 = .ok (.ireturn, 1) := dX8_ruled_r26.2.2.2.2.2.2.2.2.2.1
theorem dX8_ruled_44 : decode cX8_ruled 44 = .ok (.iinc 2 1, 3) := dX8_ruled_r26.2.2.2.2.2.2.2.2.2.2.1
theorem dX8_ruled_47 : decode cX8_ruled 47 = .ok (.goto (-41), 3) := dX8_ruled_r26.2.2.2.2.2.2.2.2.2.2.2.1
theorem dX8_ruled_50 : decode cX8_ruled 50 = .ok (.iload_n 1, 1) := dX8_ruled_r26.2.2.2.2.2.2.2.2.2.2.2.2.1
theorem dX8_ruled_51 : decode cX8_ruled 51 = .ok (.iconst 1, 1) := dX8_ruled_r26.2.2.2.2.2.2.2.2.2.2.2.2.2.1
theorem dX8_ruled_52 : decode cX8_ruled 52 = .ok (.if_icmp .le 15, 3) := dX8_ruled_r26.2.2.2.2.2.2.2.2.2.2.2.2.2.2.1
theorem dX8_ruled_55 : decode cX8_ruled 55 = .ok (.aload_n 0, 1) := dX8_ruled_r26.2.2.2.2.2.2.2.2.2.2.2.2.2.2.2.1
theorem dX8_ruled_r56 : zdcP cX8_ruled 56 [(.bipush 6, 2), (.invokevirtual 180, 3), (.ifCond .eq 6, 3), (.bipush 6, 2), (.ireturn, 1), (.iload_n 1, 1), (.iconst 3, 1), (.if_icmp .ne 15, 3), (.aload_n 0, 1), (.bipush 7, 2), (.invokevirtual 180, 3), (.ifCond .eq 6, 3), (.bipush 7, 2), (.ireturn, 1), (.iload_n 1, 1), (.iconst 3, 1)] := zdcA_ok (by decide +kernel)
theorem dX8_ruled_56 : decode cX8_ruled 56 = .ok (.bipush 6, 2) := dX8_ruled_r56.1
theorem dX8_ruled_58 : decode cX8_ruled 58 = .ok (.invokevirtual 180, 3) := dX8_ruled_r56.2.1
theorem dX8_ruled_61 : decode cX8_ruled 61 = .ok (.ifCond .eq 6, 3) := dX8_ruled_r56.2.2.1
theorem dX8_ruled_64 : decode cX8_ruled 64 = .ok (.bipush 6, 2) := dX8_ruled_r56.2.2.2.1
theorem dX8_ruled_66 : decode cX8_ruled 66 = .ok (.ireturn, 1) := dX8_ruled_r56.2.2.2.2.1
theorem dX8_ruled_67 : decode cX8_ruled 67 = .ok (.iload_n 1, 1) := dX8_ruled_r56.2.2.2.2.2.1
theorem dX8_ruled_68 : decode cX8_ruled 68 = .ok (.iconst 3, 1) := dX8_ruled_r56.2.2.2.2.2.2.1
theorem dX8_ruled_69 : decode cX8_ruled 69 = .ok (.if_icmp .ne 15, 3) := dX8_ruled_r56.2.2.2.2.2.2.2.1
theorem dX8_ruled_72 : decode cX8_ruled 72 = .ok (.aload_n 0, 1) := dX8_ruled_r56.2.2.2.2.2.2.2.2.1
theorem dX8_ruled_73 : decode cX8_ruled 73 = .ok (.bipush 7, 2) := dX8_ruled_r56.2.2.2.2.2.2.2.2.2.1
theorem dX8_ruled_75 : decode cX8_ruled 75 = .ok (.invokevirtual 180, 3) := dX8_ruled_r56.2.2.2.2.2.2.2.2.2.2.1
theorem dX8_ruled_78 : decode cX8_ruled 78 = .ok (.ifCond .eq 6, 3) := dX8_ruled_r56.2.2.2.2.2.2.2.2.2.2.2.1
theorem dX8_ruled_81 : decode cX8_ruled 81 = .ok (.bipush 7, 2) := dX8_ruled_r56.2.2.2.2.2.2.2.2.2.2.2.2.1
theorem dX8_ruled_83 : decode cX8_ruled 83 = .ok (.ireturn, 1) := dX8_ruled_r56.2.2.2.2.2.2.2.2.2.2.2.2.2.1
theorem dX8_ruled_84 : decode cX8_ruled 84 = .ok (.iload_n 1, 1) := dX8_ruled_r56.2.2.2.2.2.2.2.2.2.2.2.2.2.2.1
theorem dX8_ruled_85 : decode cX8_ruled 85 = .ok (.iconst 3, 1) := dX8_ruled_r56.2.2.2.2.2.2.2.2.2.2.2.2.2.2.2.1
theorem dX8_ruled_r86 : zdcP cX8_ruled 86 [(.if_icmp .ne 15, 3), (.aload_n 0, 1), (.bipush 8, 2), (.invokevirtual 180, 3), (.ifCond .eq 6, 3), (.bipush 8, 2), (.ireturn, 1), (.iload_n 1, 1), (.ifCond .le 15, 3), (.aload_n 0, 1), (.invokevirtual 251, 3), (.istore_n 2, 1), (.iload_n 2, 1), (.iconst (-1), 1), (.if_icmp .eq 5, 3), (.iload_n 2, 1)] := zdcA_ok (by decide +kernel)
theorem dX8_ruled_86 : decode cX8_ruled 86 = .ok (.if_icmp .ne 15, 3) := dX8_ruled_r86.1
theorem dX8_ruled_89 : decode cX8_ruled 89 = .ok (.aload_n 0, 1) := dX8_ruled_r86.2.1
theorem dX8_ruled_90 : decode cX8_ruled 90 = .ok (.bipush 8, 2) := dX8_ruled_r86.2.2.1
theorem dX8_ruled_92 : decode cX8_ruled 92 = .ok (.invokevirtual 180, 3) := dX8_ruled_r86.2.2.2.1
theorem dX8_ruled_95 : decode cX8_ruled 95 = .ok (.ifCond .eq 6, 3) := dX8_ruled_r86.2.2.2.2.1
theorem dX8_ruled_98 : decode cX8_ruled 98 = .ok (.bipush 8, 2) := dX8_ruled_r86.2.2.2.2.2.1
theorem dX8_ruled_100 : decode cX8_ruled 100 = .ok (.ireturn, 1) := dX8_ruled_r86.2.2.2.2.2.2.1
theorem dX8_ruled_101 : decode cX8_ruled 101 = .ok (.iload_n 1, 1) := dX8_ruled_r86.2.2.2.2.2.2.2.1
theorem dX8_ruled_102 : decode cX8_ruled 102 = .ok (.ifCond .le 15, 3) := dX8_ruled_r86.2.2.2.2.2.2.2.2.1
theorem dX8_ruled_105 : decode cX8_ruled 105 = .ok (.aload_n 0, 1) := dX8_ruled_r86.2.2.2.2.2.2.2.2.2.1
theorem dX8_ruled_106 : decode cX8_ruled 106 = .ok (.invokevirtual 251, 3) := dX8_ruled_r86.2.2.2.2.2.2.2.2.2.2.1
theorem dX8_ruled_109 : decode cX8_ruled 109 = .ok (.istore_n 2, 1) := dX8_ruled_r86.2.2.2.2.2.2.2.2.2.2.2.1
theorem dX8_ruled_110 : decode cX8_ruled 110 = .ok (.iload_n 2, 1) := dX8_ruled_r86.2.2.2.2.2.2.2.2.2.2.2.2.1
theorem dX8_ruled_111 : decode cX8_ruled 111 = .ok (.iconst (-1), 1) := dX8_ruled_r86.2.2.2.2.2.2.2.2.2.2.2.2.2.1
theorem dX8_ruled_112 : decode cX8_ruled 112 = .ok (.if_icmp .eq 5, 3) := dX8_ruled_r86.2.2.2.2.2.2.2.2.2.2.2.2.2.2.1
theorem dX8_ruled_115 : decode cX8_ruled 115 = .ok (.iload_n 2, 1) := dX8_ruled_r86.2.2.2.2.2.2.2.2.2.2.2.2.2.2.2.1
theorem dX8_ruled_r116 : zdcP cX8_ruled 116 [(.ireturn, 1), (.aload_n 0, 1), (.bipush 6, 2), (.invokevirtual 180, 3), (.ifCond .eq 8, 3), (.bipush 6, 2), (.goto 18, 3), (.aload_n 0, 1), (.bipush 9, 2), (.invokevirtual 180, 3), (.ifCond .eq 8, 3), (.bipush 9, 2), (.goto 4, 3), (.iconst (-1), 1), (.ireturn, 1)] := zdcA_ok (by decide +kernel)
theorem dX8_ruled_116 : decode cX8_ruled 116 = .ok (.ireturn, 1) := dX8_ruled_r116.1
theorem dX8_ruled_117 : decode cX8_ruled 117 = .ok (.aload_n 0, 1) := dX8_ruled_r116.2.1
theorem dX8_ruled_118 : decode cX8_ruled 118 = .ok (.bipush 6, 2) := dX8_ruled_r116.2.2.1
theorem dX8_ruled_120 : decode cX8_ruled 120 = .ok (.invokevirtual 180, 3) := dX8_ruled_r116.2.2.2.1
theorem dX8_ruled_123 : decode cX8_ruled 123 = .ok (.ifCond .eq 8, 3) := dX8_ruled_r116.2.2.2.2.1
theorem dX8_ruled_126 : decode cX8_ruled 126 = .ok (.bipush 6, 2) := dX8_ruled_r116.2.2.2.2.2.1
theorem dX8_ruled_128 : decode cX8_ruled 128 = .ok (.goto 18, 3) := dX8_ruled_r116.2.2.2.2.2.2.1
theorem dX8_ruled_131 : decode cX8_ruled 131 = .ok (.aload_n 0, 1) := dX8_ruled_r116.2.2.2.2.2.2.2.1
theorem dX8_ruled_132 : decode cX8_ruled 132 = .ok (.bipush 9, 2) := dX8_ruled_r116.2.2.2.2.2.2.2.2.1
theorem dX8_ruled_134 : decode cX8_ruled 134 = .ok (.invokevirtual 180, 3) := dX8_ruled_r116.2.2.2.2.2.2.2.2.2.1
theorem dX8_ruled_137 : decode cX8_ruled 137 = .ok (.ifCond .eq 8, 3) := dX8_ruled_r116.2.2.2.2.2.2.2.2.2.2.1
theorem dX8_ruled_140 : decode cX8_ruled 140 = .ok (.bipush 9, 2) := dX8_ruled_r116.2.2.2.2.2.2.2.2.2.2.2.1
theorem dX8_ruled_142 : decode cX8_ruled 142 = .ok (.goto 4, 3) := dX8_ruled_r116.2.2.2.2.2.2.2.2.2.2.2.2.1
theorem dX8_ruled_145 : decode cX8_ruled 145 = .ok (.iconst (-1), 1) := dX8_ruled_r116.2.2.2.2.2.2.2.2.2.2.2.2.2.1
theorem dX8_ruled_146 : decode cX8_ruled 146 = .ok (.ireturn, 1) := dX8_ruled_r116.2.2.2.2.2.2.2.2.2.2.2.2.2.2.1
def wq_177_117 (v1 : Int32) (m : zf_Me) (Q : Int32 → zf_Me → Prop) : Prop := wp_167 6 m (fun b1 m2 => ((b1 = false → wp_167 9 m2 (fun b3 m4 => ((b3 = false → Q (-1) m4) ∧ (b3 = true → Q 9 m4)))) ∧ (b1 = true → Q 6 m2)))
theorem zq_177_117 {d : Nat} (hd : 3 ≤ d) {v1 : Int32} {Q : Int32 → zf_Me → Prop} {m : zf_Me} (h : wq_177_117 v1 m Q) : zf_W none 0 0 d zt_177 117 [some (.inr (.inr (1, 63))), none, none, none] [] m (zf_I Q) := by
  obtain ⟨e, rfl⟩ : ∃ z, d = z + 1 := ⟨d - 1, by omega⟩
  unfold wq_177_117 at h
  refine zf_ld (pc' := 118) (v := .inr (.inr (1, 63))) dX8_ruled_117 rfl (fun _ _ _ => rfl) rfl rfl rfl ?_
  refine zf_bi (v := 6) (pc' := 120) dX8_ruled_118 rfl rfl ?_
  refine zf_iv (k := 167) (pc' := 123) (r := []) dX8_ruled_120 rfl rfl rfl rfl (by decide) rfl rfl rfl (zr_167 (by omega) h) (zf_kB (fun b1 m2 h => ?_))
  refine zf_ib_eq (tgt := 131) (pc' := 126) dX8_ruled_123 rfl rfl (fun g => ?_) (fun g => ?_)
  · replace h := h.1 g
    refine zf_ld (pc' := 132) (v := .inr (.inr (1, 63))) dX8_ruled_131 rfl (fun _ _ _ => rfl) rfl rfl rfl ?_
    refine zf_bi (v := 9) (pc' := 134) dX8_ruled_132 rfl rfl ?_
    refine zf_iv (k := 167) (pc' := 137) (r := []) dX8_ruled_134 rfl rfl rfl rfl (by decide) rfl rfl rfl (zr_167 (by omega) h) (zf_kB (fun b3 m4 h => ?_))
    refine zf_ib_eq (tgt := 145) (pc' := 140) dX8_ruled_137 rfl rfl (fun g => ?_) (fun g => ?_)
    · replace h := h.1 g
      refine zf_ic (v := (-1)) (pc' := 146) dX8_ruled_145 rfl rfl ?_
      exact zf_ri dX8_ruled_146 rfl h
    · replace h := h.2 g
      refine zf_bi (v := 9) (pc' := 142) dX8_ruled_140 rfl rfl ?_
      refine zf_goto (tgt := 146) dX8_ruled_142 rfl ?_
      exact zf_ri dX8_ruled_146 rfl h
  · replace h := h.2 g
    refine zf_bi (v := 6) (pc' := 128) dX8_ruled_126 rfl rfl ?_
    refine zf_goto (tgt := 146) dX8_ruled_128 rfl ?_
    exact zf_ri dX8_ruled_146 rfl h
def wq_177_101 (v1 : Int32) (m : zf_Me) (Q : Int32 → zf_Me → Prop) : Prop := ((v1.toInt ≤ 0 → wq_177_117 v1 m Q) ∧ (v1.toInt > 0 → wp_176 m (fun x5 m6 => ((x5.toInt = (-1) → wq_177_117 v1 m6 Q) ∧ (¬ x5.toInt = (-1) → Q x5 m6)))))
theorem zq_177_101 {d : Nat} (hd : 3 ≤ d) {v1 : Int32} {Q : Int32 → zf_Me → Prop} {m : zf_Me} (h : wq_177_101 v1 m Q) : zf_W none 0 0 d zt_177 101 [some (.inr (.inr (1, 63))), some (.inl v1), none, none] [] m (zf_I Q) := by
  obtain ⟨e, rfl⟩ : ∃ z, d = z + 1 := ⟨d - 1, by omega⟩
  unfold wq_177_101 at h
  refine zf_ld (pc' := 102) (v := .inl v1) dX8_ruled_101 rfl (fun _ _ _ => rfl) rfl rfl rfl ?_
  refine zf_if_le (tgt := 117) (pc' := 105) dX8_ruled_102 rfl rfl (fun g => ?_) (fun g => ?_)
  · replace h := h.1 g
    exact zf_lo (zq_177_117 (by omega) h) ⟨rfl, trivial⟩
  · replace h := h.2 g
    refine zf_ld (pc' := 106) (v := .inr (.inr (1, 63))) dX8_ruled_105 rfl (fun _ _ _ => rfl) rfl rfl rfl ?_
    refine zf_iv (k := 176) (pc' := 109) (r := []) dX8_ruled_106 rfl rfl rfl rfl (by decide) rfl rfl rfl (zr_176 (by omega) h) (zf_kI (fun x5 m6 h => ?_))
    refine zf_st (pc' := 110) (L2 := [some (.inr (.inr (1, 63))), some (.inl v1), some (.inl x5), none]) dX8_ruled_109 rfl (fun _ _ _ => rfl) rfl rfl rfl rfl rfl rfl ?_
    refine zf_ld (pc' := 111) (v := .inl x5) dX8_ruled_110 rfl (fun _ _ _ => rfl) rfl rfl rfl ?_
    refine zf_ic (v := (-1)) (pc' := 112) dX8_ruled_111 rfl rfl ?_
    refine zf_icmp_eq (tgt := 117) (pc' := 115) dX8_ruled_112 rfl rfl (fun g => ?_) (fun g => ?_)
    · replace h := h.1 g
      exact zf_lo (zq_177_117 (by omega) h) ⟨rfl, trivial⟩
    · replace h := h.2 g
      refine zf_ld (pc' := 116) (v := .inl x5) dX8_ruled_115 rfl (fun _ _ _ => rfl) rfl rfl rfl ?_
      exact zf_ri dX8_ruled_116 rfl h
def wq_177_84 (v1 : Int32) (m : zf_Me) (Q : Int32 → zf_Me → Prop) : Prop := ((¬ v1.toInt = 3 → wq_177_101 v1 m Q) ∧ (v1.toInt = 3 → wp_167 8 m (fun b7 m8 => ((b7 = false → wq_177_101 v1 m8 Q) ∧ (b7 = true → Q 8 m8)))))
theorem zq_177_84 {d : Nat} (hd : 3 ≤ d) {v1 : Int32} {Q : Int32 → zf_Me → Prop} {m : zf_Me} (h : wq_177_84 v1 m Q) : zf_W none 0 0 d zt_177 84 [some (.inr (.inr (1, 63))), some (.inl v1), none, none] [] m (zf_I Q) := by
  obtain ⟨e, rfl⟩ : ∃ z, d = z + 1 := ⟨d - 1, by omega⟩
  unfold wq_177_84 at h
  refine zf_ld (pc' := 85) (v := .inl v1) dX8_ruled_84 rfl (fun _ _ _ => rfl) rfl rfl rfl ?_
  refine zf_ic (v := 3) (pc' := 86) dX8_ruled_85 rfl rfl ?_
  refine zf_icmp_ne (tgt := 101) (pc' := 89) dX8_ruled_86 rfl rfl (fun g => ?_) (fun g => ?_)
  · replace h := h.1 g
    exact zf_lo (zq_177_101 (by omega) h) ⟨rfl, rfl, trivial⟩
  · replace h := h.2 g
    refine zf_ld (pc' := 90) (v := .inr (.inr (1, 63))) dX8_ruled_89 rfl (fun _ _ _ => rfl) rfl rfl rfl ?_
    refine zf_bi (v := 8) (pc' := 92) dX8_ruled_90 rfl rfl ?_
    refine zf_iv (k := 167) (pc' := 95) (r := []) dX8_ruled_92 rfl rfl rfl rfl (by decide) rfl rfl rfl (zr_167 (by omega) h) (zf_kB (fun b7 m8 h => ?_))
    refine zf_ib_eq (tgt := 101) (pc' := 98) dX8_ruled_95 rfl rfl (fun g => ?_) (fun g => ?_)
    · replace h := h.1 g
      exact zf_lo (zq_177_101 (by omega) h) ⟨rfl, rfl, trivial⟩
    · replace h := h.2 g
      refine zf_bi (v := 8) (pc' := 100) dX8_ruled_98 rfl rfl ?_
      exact zf_ri dX8_ruled_100 rfl h
def wq_177_67 (v1 : Int32) (m : zf_Me) (Q : Int32 → zf_Me → Prop) : Prop := ((¬ v1.toInt = 3 → wq_177_84 v1 m Q) ∧ (v1.toInt = 3 → wp_167 7 m (fun b9 m10 => ((b9 = false → wq_177_84 v1 m10 Q) ∧ (b9 = true → Q 7 m10)))))
theorem zq_177_67 {d : Nat} (hd : 3 ≤ d) {v1 : Int32} {Q : Int32 → zf_Me → Prop} {m : zf_Me} (h : wq_177_67 v1 m Q) : zf_W none 0 0 d zt_177 67 [some (.inr (.inr (1, 63))), some (.inl v1), none, none] [] m (zf_I Q) := by
  obtain ⟨e, rfl⟩ : ∃ z, d = z + 1 := ⟨d - 1, by omega⟩
  unfold wq_177_67 at h
  refine zf_ld (pc' := 68) (v := .inl v1) dX8_ruled_67 rfl (fun _ _ _ => rfl) rfl rfl rfl ?_
  refine zf_ic (v := 3) (pc' := 69) dX8_ruled_68 rfl rfl ?_
  refine zf_icmp_ne (tgt := 84) (pc' := 72) dX8_ruled_69 rfl rfl (fun g => ?_) (fun g => ?_)
  · replace h := h.1 g
    exact zf_lo (zq_177_84 (by omega) h) ⟨rfl, rfl, trivial⟩
  · replace h := h.2 g
    refine zf_ld (pc' := 73) (v := .inr (.inr (1, 63))) dX8_ruled_72 rfl (fun _ _ _ => rfl) rfl rfl rfl ?_
    refine zf_bi (v := 7) (pc' := 75) dX8_ruled_73 rfl rfl ?_
    refine zf_iv (k := 167) (pc' := 78) (r := []) dX8_ruled_75 rfl rfl rfl rfl (by decide) rfl rfl rfl (zr_167 (by omega) h) (zf_kB (fun b9 m10 h => ?_))
    refine zf_ib_eq (tgt := 84) (pc' := 81) dX8_ruled_78 rfl rfl (fun g => ?_) (fun g => ?_)
    · replace h := h.1 g
      exact zf_lo (zq_177_84 (by omega) h) ⟨rfl, rfl, trivial⟩
    · replace h := h.2 g
      refine zf_bi (v := 7) (pc' := 83) dX8_ruled_81 rfl rfl ?_
      exact zf_ri dX8_ruled_83 rfl h
def wq_177_50 (v1 : Int32) (m : zf_Me) (Q : Int32 → zf_Me → Prop) : Prop := ((v1.toInt ≤ 1 → wq_177_67 v1 m Q) ∧ (v1.toInt > 1 → wp_167 6 m (fun b11 m12 => ((b11 = false → wq_177_67 v1 m12 Q) ∧ (b11 = true → Q 6 m12)))))
theorem zq_177_50 {d : Nat} (hd : 3 ≤ d) {v1 : Int32} {Q : Int32 → zf_Me → Prop} {m : zf_Me} (h : wq_177_50 v1 m Q) : zf_W none 0 0 d zt_177 50 [some (.inr (.inr (1, 63))), some (.inl v1), none, none] [] m (zf_I Q) := by
  obtain ⟨e, rfl⟩ : ∃ z, d = z + 1 := ⟨d - 1, by omega⟩
  unfold wq_177_50 at h
  refine zf_ld (pc' := 51) (v := .inl v1) dX8_ruled_50 rfl (fun _ _ _ => rfl) rfl rfl rfl ?_
  refine zf_ic (v := 1) (pc' := 52) dX8_ruled_51 rfl rfl ?_
  refine zf_icmp_le (tgt := 67) (pc' := 55) dX8_ruled_52 rfl rfl (fun g => ?_) (fun g => ?_)
  · replace h := h.1 g
    exact zf_lo (zq_177_67 (by omega) h) ⟨rfl, rfl, trivial⟩
  · replace h := h.2 g
    refine zf_ld (pc' := 56) (v := .inr (.inr (1, 63))) dX8_ruled_55 rfl (fun _ _ _ => rfl) rfl rfl rfl ?_
    refine zf_bi (v := 6) (pc' := 58) dX8_ruled_56 rfl rfl ?_
    refine zf_iv (k := 167) (pc' := 61) (r := []) dX8_ruled_58 rfl rfl rfl rfl (by decide) rfl rfl rfl (zr_167 (by omega) h) (zf_kB (fun b11 m12 h => ?_))
    refine zf_ib_eq (tgt := 67) (pc' := 64) dX8_ruled_61 rfl rfl (fun g => ?_) (fun g => ?_)
    · replace h := h.1 g
      exact zf_lo (zq_177_67 (by omega) h) ⟨rfl, rfl, trivial⟩
    · replace h := h.2 g
      refine zf_bi (v := 6) (pc' := 66) dX8_ruled_64 rfl rfl ?_
      exact zf_ri dX8_ruled_66 rfl h
def wq_177_6 (v1 : Int32) (Q : Int32 → zf_Me → Prop) : Nat → Int32 → zf_Me → Prop
  | 0, _, _ => False
  | n + 1, v2, m => ((v2.toInt ≥ ((m.1 63 1)).toInt → wq_177_50 v1 m Q) ∧ (v2.toInt < ((m.1 63 1)).toInt → (¬ (Int32.toInt (m.1 63 1)) = 0 ∧ wp_166 (((m.1 63 44) + v2) - ((m.1 63 44) + v2) / (m.1 63 1) * (m.1 63 1)) m (fun b13 m14 => ((b13 = true → (∀ m15, m15 = zf_u m14 63 44 (((m.1 63 44) + v2) - ((m.1 63 44) + v2) / (m.1 63 1) * (m.1 63 1)) → Q (((m.1 63 44) + v2) - ((m.1 63 44) + v2) / (m.1 63 1) * (m.1 63 1)) m15)) ∧ (b13 = false → wq_177_6 v1 Q n (v2 + 1) m14))))))
theorem zq_177_6 {d : Nat} (hd : 3 ≤ d) {v1 : Int32} {Q : Int32 → zf_Me → Prop} : ∀ (n : Nat) (v2 : Int32) (m : zf_Me), wq_177_6 v1 Q n v2 m → zf_W none 0 0 d zt_177 6 [some (.inr (.inr (1, 63))), some (.inl v1), some (.inl v2), none] [] m (zf_I Q) := by
  obtain ⟨e, rfl⟩ : ∃ z, d = z + 1 := ⟨d - 1, by omega⟩
  intro n
  induction n with
  | zero =>
    intro v2 m h
    exact h.elim
  | succ n ih =>
    intro v2 m h
    unfold wq_177_6 at h
    refine zf_ld (pc' := 7) (v := .inl v2) dX8_ruled_6 rfl (fun _ _ _ => rfl) rfl rfl rfl ?_
    refine zf_ld (pc' := 8) (v := .inr (.inr (1, 63))) dX8_ruled_7 rfl (fun _ _ _ => rfl) rfl rfl rfl ?_
    refine zf_gfi (pc' := 11) dX8_ruled_8 rfl rfl (by decide) rfl rfl ?_
    refine zf_icmp_ge (tgt := 50) (pc' := 14) dX8_ruled_11 rfl rfl (fun g => ?_) (fun g => ?_)
    · replace h := h.1 g
      exact zf_lo (zq_177_50 (by omega) h) ⟨rfl, rfl, trivial⟩
    · replace h := h.2 g
      refine zf_ld (pc' := 15) (v := .inr (.inr (1, 63))) dX8_ruled_14 rfl (fun _ _ _ => rfl) rfl rfl rfl ?_
      refine zf_gfi (pc' := 18) dX8_ruled_15 rfl rfl (by decide) rfl rfl ?_
      refine zf_ld (pc' := 19) (v := .inl v2) dX8_ruled_18 rfl (fun _ _ _ => rfl) rfl rfl rfl ?_
      refine zf_in (pc' := 20) (S' := [.inl ((m.1 63 44) + v2)]) dX8_ruled_19 rfl (fun _ _ _ => rfl) ?_
      refine zf_ld (pc' := 21) (v := .inr (.inr (1, 63))) dX8_ruled_20 rfl (fun _ _ _ => rfl) rfl rfl rfl ?_
      refine zf_gfi (pc' := 24) dX8_ruled_21 rfl rfl (by decide) rfl rfl ?_
      refine zf_rem (pc' := 25) dX8_ruled_24 rfl (fun z => h.1 (congrArg Int32.toInt z)) ?_
      replace h := h.2
      refine zf_st (pc' := 26) (L2 := [some (.inr (.inr (1, 63))), some (.inl v1), some (.inl v2), some (.inl (((m.1 63 44) + v2) - ((m.1 63 44) + v2) / (m.1 63 1) * (m.1 63 1)))]) dX8_ruled_25 rfl (fun _ _ _ => rfl) rfl rfl rfl rfl rfl rfl ?_
      refine zf_ld (pc' := 27) (v := .inr (.inr (1, 63))) dX8_ruled_26 rfl (fun _ _ _ => rfl) rfl rfl rfl ?_
      refine zf_ld (pc' := 28) (v := .inl (((m.1 63 44) + v2) - ((m.1 63 44) + v2) / (m.1 63 1) * (m.1 63 1))) dX8_ruled_27 rfl (fun _ _ _ => rfl) rfl rfl rfl ?_
      refine zf_iv (k := 166) (pc' := 31) (r := []) dX8_ruled_28 rfl rfl rfl rfl (by decide) rfl rfl rfl (zr_166 (by omega) h) (zf_kB (fun b13 m14 h => ?_))
      refine zf_ib_ne (tgt := 37) (pc' := 34) dX8_ruled_31 rfl rfl (fun g => ?_) (fun g => ?_)
      · replace h := h.1 g
        refine zf_ld (pc' := 38) (v := .inr (.inr (1, 63))) dX8_ruled_37 rfl (fun _ _ _ => rfl) rfl rfl rfl ?_
        refine zf_ld (pc' := 39) (v := .inl (((m.1 63 44) + v2) - ((m.1 63 44) + v2) / (m.1 63 1) * (m.1 63 1))) dX8_ruled_38 rfl (fun _ _ _ => rfl) rfl rfl rfl ?_
        refine zf_pf (pc' := 42) dX8_ruled_39 rfl rfl (by decide) rfl rfl rfl (fun m15 e16 => ?_)
        replace h := h m15 e16
        refine zf_ld (pc' := 43) (v := .inl (((m.1 63 44) + v2) - ((m.1 63 44) + v2) / (m.1 63 1) * (m.1 63 1))) dX8_ruled_42 rfl (fun _ _ _ => rfl) rfl rfl rfl ?_
        exact zf_ri dX8_ruled_43 rfl h
      · replace h := h.2 g
        refine zf_goto (tgt := 44) dX8_ruled_34 rfl ?_
        refine zf_ii (y := (v2 + 1)) (L2 := [some (.inr (.inr (1, 63))), some (.inl v1), some (.inl (v2 + 1)), some (.inl (((m.1 63 44) + v2) - ((m.1 63 44) + v2) / (m.1 63 1) * (m.1 63 1)))]) (pc' := 47) dX8_ruled_44 rfl rfl rfl rfl rfl ?_
        refine zf_goto (tgt := 6) dX8_ruled_47 rfl ?_
        exact zf_lo (ih _ _ h) ⟨rfl, rfl, rfl, trivial⟩
def wp_177 (v1 : Int32) (m : zf_Me) (Q : Int32 → zf_Me → Prop) : Prop := ((¬ v1.toInt = 0 → wq_177_50 v1 m Q) ∧ (v1.toInt = 0 → (∃ n6, wq_177_6 v1 Q n6 0 m)))
theorem zr_177 {d : Nat} (hd : 3 ≤ d) {v1 : Int32} {Q : Int32 → zf_Me → Prop} {m : zf_Me} (h : wp_177 v1 m Q) : zf_M d 177 [.inr (.inr (1, 63)), .inl v1] m (zf_I Q) := by
  unfold wp_177 at h
  refine zf_M_of (Nat.le_of_ble_eq_true rfl) zm_177 (L := [some (.inr (.inr (1, 63))), some (.inl v1), none, none]) rfl ?_
  refine zf_ld (pc' := 1) (v := .inl v1) dX8_ruled_0 rfl (fun _ _ _ => rfl) rfl rfl rfl ?_
  refine zf_if_ne (tgt := 50) (pc' := 4) dX8_ruled_1 rfl rfl (fun g => ?_) (fun g => ?_)
  · replace h := h.1 g
    exact zf_lo (zq_177_50 (by omega) h) ⟨rfl, rfl, trivial⟩
  · replace h := h.2 g
    refine zf_ic (v := 0) (pc' := 5) dX8_ruled_4 rfl rfl ?_
    refine zf_st (pc' := 6) (L2 := [some (.inr (.inr (1, 63))), some (.inl v1), some (.inl 0), none]) dX8_ruled_5 rfl (fun _ _ _ => rfl) rfl rfl rfl rfl rfl rfl ?_
    obtain ⟨n6, h⟩ := h
    exact zf_lo (zq_177_6 (by omega) n6 _ _ h) ⟨rfl, rfl, rfl, trivial⟩
def zt_178 : zx_MT := (8, yX8_begins, cX8_begins, 1, none, 0, 0)
theorem zm_178 : zx_m 178 = zt_178 := rfl
theorem dX8_begins_r0 : zdcP cX8_begins 0 [(.aload_n 0, 1), (.iconst 0, 1), (.putfield 248, 3), (.aload_n 0, 1), (.iconst 0, 1), (.putfield 254, 3), (.aload_n 0, 1), (.aload_n 0, 1), (.invokevirtual 241, 3), (.putfield 257, 3), (.return_, 1)] := zdcA_ok (by decide +kernel)
theorem dX8_begins_0 : decode cX8_begins 0 = .ok (.aload_n 0, 1) := dX8_begins_r0.1
theorem dX8_begins_1 : decode cX8_begins 1 = .ok (.iconst 0, 1) := dX8_begins_r0.2.1
theorem dX8_begins_2 : decode cX8_begins 2 = .ok (.putfield 248, 3) := dX8_begins_r0.2.2.1
theorem dX8_begins_5 : decode cX8_begins 5 = .ok (.aload_n 0, 1) := dX8_begins_r0.2.2.2.1
theorem dX8_begins_6 : decode cX8_begins 6 = .ok (.iconst 0, 1) := dX8_begins_r0.2.2.2.2.1
theorem dX8_begins_7 : decode cX8_begins 7 = .ok (.putfield 254, 3) := dX8_begins_r0.2.2.2.2.2.1
theorem dX8_begins_10 : decode cX8_begins 10 = .ok (.aload_n 0, 1) := dX8_begins_r0.2.2.2.2.2.2.1
theorem dX8_begins_11 : decode cX8_begins 11 = .ok (.aload_n 0, 1) := dX8_begins_r0.2.2.2.2.2.2.2.1
theorem dX8_begins_12 : decode cX8_begins 12 = .ok (.invokevirtual 241, 3) := dX8_begins_r0.2.2.2.2.2.2.2.2.1
theorem dX8_begins_15 : decode cX8_begins 15 = .ok (.putfield 257, 3) := dX8_begins_r0.2.2.2.2.2.2.2.2.2.1
theorem dX8_begins_18 : decode cX8_begins 18 = .ok (.return_, 1) := dX8_begins_r0.2.2.2.2.2.2.2.2.2.2.1
def wp_178 (m : zf_Me) (Q : zf_Me → Prop) : Prop := (∀ m1, m1 = zf_u m 63 44 0 → (∀ m3, m3 = zf_u m1 63 46 0 → wp_170 m3 (fun x5 m6 => (∀ m7, m7 = zf_u m6 63 45 x5 → Q m7))))
theorem zr_178 {d : Nat} (hd : 1 ≤ d) {Q : zf_Me → Prop} {m : zf_Me} (h : wp_178 m Q) : zf_M d 178 [.inr (.inr (1, 63))] m (zf_O Q) := by
  obtain ⟨e, rfl⟩ : ∃ z, d = z + 1 := ⟨d - 1, by omega⟩
  unfold wp_178 at h
  refine zf_M_of (Nat.le_of_ble_eq_true rfl) zm_178 (L := [some (.inr (.inr (1, 63)))]) rfl ?_
  refine zf_ld (pc' := 1) (v := .inr (.inr (1, 63))) dX8_begins_0 rfl (fun _ _ _ => rfl) rfl rfl rfl ?_
  refine zf_ic (v := 0) (pc' := 2) dX8_begins_1 rfl rfl ?_
  refine zf_pf (pc' := 5) dX8_begins_2 rfl rfl (by decide) rfl rfl rfl (fun m1 e2 => ?_)
  replace h := h m1 e2
  refine zf_ld (pc' := 6) (v := .inr (.inr (1, 63))) dX8_begins_5 rfl (fun _ _ _ => rfl) rfl rfl rfl ?_
  refine zf_ic (v := 0) (pc' := 7) dX8_begins_6 rfl rfl ?_
  refine zf_pf (pc' := 10) dX8_begins_7 rfl rfl (by decide) rfl rfl rfl (fun m3 e4 => ?_)
  replace h := h m3 e4
  refine zf_ld (pc' := 11) (v := .inr (.inr (1, 63))) dX8_begins_10 rfl (fun _ _ _ => rfl) rfl rfl rfl ?_
  refine zf_ld (pc' := 12) (v := .inr (.inr (1, 63))) dX8_begins_11 rfl (fun _ _ _ => rfl) rfl rfl rfl ?_
  refine zf_iv (k := 170) (pc' := 15) (r := [.inr (.inr (1, 63))]) dX8_begins_12 rfl rfl rfl rfl (by decide) rfl rfl rfl (zr_170 (by omega) h) (zf_kI (fun x5 m6 h => ?_))
  refine zf_pf (pc' := 18) dX8_begins_15 rfl rfl (by decide) rfl rfl rfl (fun m7 e8 => ?_)
  replace h := h m7 e8
  exact zf_rv dX8_begins_18 rfl h
def zt_179 : zx_MT := (8, yX8_goes, cX8_goes, 4, (some FieldType.boolean), 1, 0)
theorem zm_179 : zx_m 179 = zt_179 := rfl
theorem dX8_goes_r0 : zdcP cX8_goes 0 [(.aload_n 0, 1), (.getfield 254, 3), (.bipush 60, 2), (.if_icmp .eq 14, 3), (.aload_n 0, 1), (.getfield 207, 3), (.aload_n 0, 1), (.getfield 108, 3), (.if_icmp .ne 5, 3), (.iconst 0, 1), (.ireturn, 1), (.aload_n 0, 1), (.iload_n 1, 1), (.invokevirtual 260, 3), (.istore_n 2, 1), (.iload_n 2, 1)] := zdcA_ok (by decide +kernel)
theorem dX8_goes_0 : decode cX8_goes 0 = .ok (.aload_n 0, 1) := dX8_goes_r0.1
theorem dX8_goes_1 : decode cX8_goes 1 = .ok (.getfield 254, 3) := dX8_goes_r0.2.1
theorem dX8_goes_4 : decode cX8_goes 4 = .ok (.bipush 60, 2) := dX8_goes_r0.2.2.1
theorem dX8_goes_6 : decode cX8_goes 6 = .ok (.if_icmp .eq 14, 3) := dX8_goes_r0.2.2.2.1
theorem dX8_goes_9 : decode cX8_goes 9 = .ok (.aload_n 0, 1) := dX8_goes_r0.2.2.2.2.1
theorem dX8_goes_10 : decode cX8_goes 10 = .ok (.getfield 207, 3) := dX8_goes_r0.2.2.2.2.2.1
theorem dX8_goes_13 : decode cX8_goes 13 = .ok (.aload_n 0, 1) := dX8_goes_r0.2.2.2.2.2.2.1
theorem dX8_goes_14 : decode cX8_goes 14 = .ok (.getfield 108, 3) := dX8_goes_r0.2.2.2.2.2.2.2.1
theorem dX8_goes_17 : decode cX8_goes 17 = .ok (.if_icmp .ne 5, 3) := dX8_goes_r0.2.2.2.2.2.2.2.2.1
theorem dX8_goes_20 : decode cX8_goes 20 = .ok (.iconst 0, 1) := dX8_goes_r0.2.2.2.2.2.2.2.2.2.1
theorem dX8_goes_21 : decode cX8_goes 21 = .ok (.ireturn, 1) := dX8_goes_r0.2.2.2.2.2.2.2.2.2.2.1
theorem dX8_goes_22 : decode cX8_goes 22 = .ok (.aload_n 0, 1) := dX8_goes_r0.2.2.2.2.2.2.2.2.2.2.2.1
theorem dX8_goes_23 : decode cX8_goes 23 = .ok (.iload_n 1, 1) := dX8_goes_r0.2.2.2.2.2.2.2.2.2.2.2.2.1
theorem dX8_goes_24 : decode cX8_goes 24 = .ok (.invokevirtual 260, 3) := dX8_goes_r0.2.2.2.2.2.2.2.2.2.2.2.2.2.1
theorem dX8_goes_27 : decode cX8_goes 27 = .ok (.istore_n 2, 1) := dX8_goes_r0.2.2.2.2.2.2.2.2.2.2.2.2.2.2.1
theorem dX8_goes_28 : decode cX8_goes 28 = .ok (.iload_n 2, 1) := dX8_goes_r0.2.2.2.2.2.2.2.2.2.2.2.2.2.2.2.1
theorem dX8_goes_r29 : zdcP cX8_goes 29 [(.iconst (-1), 1), (.if_icmp .ne 5, 3), (.iconst 0, 1), (.ireturn, 1), (.aload_n 0, 1), (.iload_n 2, 1), (.invokevirtual 196, 3), (.aload_n 0, 1), (.dup, 1), (.getfield 254, 3), (.iconst 1, 1), (.iadd, 1), (.putfield 254, 3), (.iload_n 2, 1), (.bipush 9, 2), (.if_icmp .eq 40, 3)] := zdcA_ok (by decide +kernel)
theorem dX8_goes_29 : decode cX8_goes 29 = .ok (.iconst (-1), 1) := dX8_goes_r29.1
theorem dX8_goes_30 : decode cX8_goes 30 = .ok (.if_icmp .ne 5, 3) := dX8_goes_r29.2.1
theorem dX8_goes_33 : decode cX8_goes 33 = .ok (.iconst 0, 1) := dX8_goes_r29.2.2.1
theorem dX8_goes_34 : decode cX8_goes 34 = .ok (.ireturn, 1) := dX8_goes_r29.2.2.2.1
theorem dX8_goes_35 : decode cX8_goes 35 = .ok (.aload_n 0, 1) := dX8_goes_r29.2.2.2.2.1
theorem dX8_goes_36 : decode cX8_goes 36 = .ok (.iload_n 2, 1) := dX8_goes_r29.2.2.2.2.2.1
theorem dX8_goes_37 : decode cX8_goes 37 = .ok (.invokevirtual 196, 3) := dX8_goes_r29.2.2.2.2.2.2.1
theorem dX8_goes_40 : decode cX8_goes 40 = .ok (.aload_n 0, 1) := dX8_goes_r29.2.2.2.2.2.2.2.1
theorem dX8_goes_41 : decode cX8_goes 41 = .ok (.dup, 1) := dX8_goes_r29.2.2.2.2.2.2.2.2.1
theorem dX8_goes_42 : decode cX8_goes 42 = .ok (.getfield 254, 3) := dX8_goes_r29.2.2.2.2.2.2.2.2.2.1
theorem dX8_goes_45 : decode cX8_goes 45 = .ok (.iconst 1, 1) := dX8_goes_r29.2.2.2.2.2.2.2.2.2.2.1
theorem dX8_goes_46 : decode cX8_goes 46 = .ok (.iadd, 1) := dX8_goes_r29.2.2.2.2.2.2.2.2.2.2.2.1
theorem dX8_goes_47 : decode cX8_goes 47 = .ok (.putfield 254, 3) := dX8_goes_r29.2.2.2.2.2.2.2.2.2.2.2.2.1
theorem dX8_goes_50 : decode cX8_goes 50 = .ok (.iload_n 2, 1) := dX8_goes_r29.2.2.2.2.2.2.2.2.2.2.2.2.2.1
theorem dX8_goes_51 : decode cX8_goes 51 = .ok (.bipush 9, 2) := dX8_goes_r29.2.2.2.2.2.2.2.2.2.2.2.2.2.2.1
theorem dX8_goes_53 : decode cX8_goes 53 = .ok (.if_icmp .eq 40, 3) := dX8_goes_r29.2.2.2.2.2.2.2.2.2.2.2.2.2.2.2.1
theorem dX8_goes_r56 : zdcP cX8_goes 56 [(.aload_n 0, 1), (.getfield 44, 3), (.aload_n 0, 1), (.getfield 207, 3), (.iconst 1, 1), (.isub, 1), (.iaload, 1), (.iconst 1, 1), (.if_icmp .ne 25, 3), (.aload_n 0, 1), (.getfield 105, 3), (.ifCond .le 18, 3), (.aload_n 0, 1), (.aload_n 0, 1), (.getfield 248, 3), (.iconst 1, 1)] := zdcA_ok (by decide +kernel)
theorem dX8_goes_56 : decode cX8_goes 56 = .ok (.aload_n 0, 1) := dX8_goes_r56.1
theorem dX8_goes_57 : decode cX8_goes 57 = .ok (.getfield 44, 3) := dX8_goes_r56.2.1
theorem dX8_goes_60 : decode cX8_goes 60 = .ok (.aload_n 0, 1) := dX8_goes_r56.2.2.1
theorem dX8_goes_61 : decode cX8_goes 61 = .ok (.getfield 207, 3) := dX8_goes_r56.2.2.2.1
theorem dX8_goes_64 : decode cX8_goes 64 = .ok (.iconst 1, 1) := dX8_goes_r56.2.2.2.2.1
theorem dX8_goes_65 : decode cX8_goes 65 = .ok (.isub, 1) := dX8_goes_r56.2.2.2.2.2.1
theorem dX8_goes_66 : decode cX8_goes 66 = .ok (.iaload, 1) := dX8_goes_r56.2.2.2.2.2.2.1
theorem dX8_goes_67 : decode cX8_goes 67 = .ok (.iconst 1, 1) := dX8_goes_r56.2.2.2.2.2.2.2.1
theorem dX8_goes_68 : decode cX8_goes 68 = .ok (.if_icmp .ne 25, 3) := dX8_goes_r56.2.2.2.2.2.2.2.2.1
theorem dX8_goes_71 : decode cX8_goes 71 = .ok (.aload_n 0, 1) := dX8_goes_r56.2.2.2.2.2.2.2.2.2.1
theorem dX8_goes_72 : decode cX8_goes 72 = .ok (.getfield 105, 3) := dX8_goes_r56.2.2.2.2.2.2.2.2.2.2.1
theorem dX8_goes_75 : decode cX8_goes 75 = .ok (.ifCond .le 18, 3) := dX8_goes_r56.2.2.2.2.2.2.2.2.2.2.2.1
theorem dX8_goes_78 : decode cX8_goes 78 = .ok (.aload_n 0, 1) := dX8_goes_r56.2.2.2.2.2.2.2.2.2.2.2.2.1
theorem dX8_goes_79 : decode cX8_goes 79 = .ok (.aload_n 0, 1) := dX8_goes_r56.2.2.2.2.2.2.2.2.2.2.2.2.2.1
theorem dX8_goes_80 : decode cX8_goes 80 = .ok (.getfield 248, 3) := dX8_goes_r56.2.2.2.2.2.2.2.2.2.2.2.2.2.2.1
theorem dX8_goes_83 : decode cX8_goes 83 = .ok (.iconst 1, 1) := dX8_goes_r56.2.2.2.2.2.2.2.2.2.2.2.2.2.2.2.1
theorem dX8_goes_r84 : zdcP cX8_goes 84 [(.iadd, 1), (.aload_n 0, 1), (.getfield 105, 3), (.irem, 1), (.putfield 248, 3), (.aload_n 0, 1), (.invokevirtual 241, 3), (.istore_n 3, 1), (.aload_n 0, 1), (.iload_n 3, 1), (.aload_n 0, 1), (.getfield 257, 3), (.if_icmp .le 7, 3), (.iload_n 3, 1), (.goto 7, 3), (.aload_n 0, 1)] := zdcA_ok (by decide +kernel)
theorem dX8_goes_84 : decode cX8_goes 84 = .ok (.iadd, 1) := dX8_goes_r84.1
theorem dX8_goes_85 : decode cX8_goes 85 = .ok (.aload_n 0, 1) := dX8_goes_r84.2.1
theorem dX8_goes_86 : decode cX8_goes 86 = .ok (.getfield 105, 3) := dX8_goes_r84.2.2.1
theorem dX8_goes_89 : decode cX8_goes 89 = .ok (.irem, 1) := dX8_goes_r84.2.2.2.1
theorem dX8_goes_90 : decode cX8_goes 90 = .ok (.putfield 248, 3) := dX8_goes_r84.2.2.2.2.1
theorem dX8_goes_93 : decode cX8_goes 93 = .ok (.aload_n 0, 1) := dX8_goes_r84.2.2.2.2.2.1
theorem dX8_goes_94 : decode cX8_goes 94 = .ok (.invokevirtual 241, 3) := dX8_goes_r84.2.2.2.2.2.2.1
theorem dX8_goes_97 : decode cX8_goes 97 = .ok (.istore_n 3, 1) := dX8_goes_r84.2.2.2.2.2.2.2.1
theorem dX8_goes_98 : decode cX8_goes 98 = .ok (.aload_n 0, 1) := dX8_goes_r84.2.2.2.2.2.2.2.2.1
theorem dX8_goes_99 : decode cX8_goes 99 = .ok (.iload_n 3, 1) := dX8_goes_r84.2.2.2.2.2.2.2.2.2.1
theorem dX8_goes_100 : decode cX8_goes 100 = .ok (.aload_n 0, 1) := dX8_goes_r84.2.2.2.2.2.2.2.2.2.2.1
theorem dX8_goes_101 : decode cX8_goes 101 = .ok (.getfield 257, 3) := dX8_goes_r84.2.2.2.2.2.2.2.2.2.2.2.1
theorem dX8_goes_104 : decode cX8_goes 104 = .ok (.if_icmp .le 7, 3) := dX8_goes_r84.2.2.2.2.2.2.2.2.2.2.2.2.1
theorem dX8_goes_107 : decode cX8_goes 107 = .ok (.iload_n 3, 1) := dX8_goes_r84.2.2.2.2.2.2.2.2.2.2.2.2.2.1
theorem dX8_goes_108 : decode cX8_goes 108 = .ok (.goto 7, 3) := dX8_goes_r84.2.2.2.2.2.2.2.2.2.2.2.2.2.2.1
theorem dX8_goes_111 : decode cX8_goes 111 = .ok (.aload_n 0, 1) := dX8_goes_r84.2.2.2.2.2.2.2.2.2.2.2.2.2.2.2.1
theorem dX8_goes_r112 : zdcP cX8_goes 112 [(.getfield 257, 3), (.putfield 257, 3), (.iconst 1, 1), (.ireturn, 1)] := zdcA_ok (by decide +kernel)
theorem dX8_goes_112 : decode cX8_goes 112 = .ok (.getfield 257, 3) := dX8_goes_r112.1
theorem dX8_goes_115 : decode cX8_goes 115 = .ok (.putfield 257, 3) := dX8_goes_r112.2.1
theorem dX8_goes_118 : decode cX8_goes 118 = .ok (.iconst 1, 1) := dX8_goes_r112.2.2.1
theorem dX8_goes_119 : decode cX8_goes 119 = .ok (.ireturn, 1) := dX8_goes_r112.2.2.2.1
def wq_179_93 (v1 : Int32) (m : zf_Me) (Q : Bool → zf_Me → Prop) : Prop := wp_170 m (fun x7 m8 => ((x7.toInt ≤ ((m8.1 63 45)).toInt → (∀ m9, m9 = zf_u m8 63 45 (m8.1 63 45) → Q true m9)) ∧ (x7.toInt > ((m8.1 63 45)).toInt → (∀ m11, m11 = zf_u m8 63 45 x7 → Q true m11))))
theorem zq_179_93 {d : Nat} (hd : 4 ≤ d) {v1 : Int32} {Q : Bool → zf_Me → Prop} {m : zf_Me} (h : wq_179_93 v1 m Q) : zf_W none 0 0 d zt_179 93 [some (.inr (.inr (1, 63))), none, none, none] [] m (zf_B Q) := by
  obtain ⟨e, rfl⟩ : ∃ z, d = z + 1 := ⟨d - 1, by omega⟩
  unfold wq_179_93 at h
  refine zf_ld (pc' := 94) (v := .inr (.inr (1, 63))) dX8_goes_93 rfl (fun _ _ _ => rfl) rfl rfl rfl ?_
  refine zf_iv (k := 170) (pc' := 97) (r := []) dX8_goes_94 rfl rfl rfl rfl (by decide) rfl rfl rfl (zr_170 (by omega) h) (zf_kI (fun x7 m8 h => ?_))
  refine zf_st (pc' := 98) (L2 := [some (.inr (.inr (1, 63))), none, none, some (.inl x7)]) dX8_goes_97 rfl (fun _ _ _ => rfl) rfl rfl rfl rfl rfl rfl ?_
  refine zf_ld (pc' := 99) (v := .inr (.inr (1, 63))) dX8_goes_98 rfl (fun _ _ _ => rfl) rfl rfl rfl ?_
  refine zf_ld (pc' := 100) (v := .inl x7) dX8_goes_99 rfl (fun _ _ _ => rfl) rfl rfl rfl ?_
  refine zf_ld (pc' := 101) (v := .inr (.inr (1, 63))) dX8_goes_100 rfl (fun _ _ _ => rfl) rfl rfl rfl ?_
  refine zf_gfi (pc' := 104) dX8_goes_101 rfl rfl (by decide) rfl rfl ?_
  refine zf_icmp_le (tgt := 111) (pc' := 107) dX8_goes_104 rfl rfl (fun g => ?_) (fun g => ?_)
  · replace h := h.1 g
    refine zf_ld (pc' := 112) (v := .inr (.inr (1, 63))) dX8_goes_111 rfl (fun _ _ _ => rfl) rfl rfl rfl ?_
    refine zf_gfi (pc' := 115) dX8_goes_112 rfl rfl (by decide) rfl rfl ?_
    refine zf_pf (pc' := 118) dX8_goes_115 rfl rfl (by decide) rfl rfl rfl (fun m9 e10 => ?_)
    replace h := h m9 e10
    refine zf_ic (v := 1) (pc' := 119) dX8_goes_118 rfl rfl ?_
    exact zf_rb (b := true) dX8_goes_119 rfl h
  · replace h := h.2 g
    refine zf_ld (pc' := 108) (v := .inl x7) dX8_goes_107 rfl (fun _ _ _ => rfl) rfl rfl rfl ?_
    refine zf_goto (tgt := 115) dX8_goes_108 rfl ?_
    refine zf_pf (pc' := 118) dX8_goes_115 rfl rfl (by decide) rfl rfl rfl (fun m11 e12 => ?_)
    replace h := h m11 e12
    refine zf_ic (v := 1) (pc' := 119) dX8_goes_118 rfl rfl ?_
    exact zf_rb (b := true) dX8_goes_119 rfl h
def wp_179 (v1 : Int32) (m : zf_Me) (Q : Bool → zf_Me → Prop) : Prop := ((((m.1 63 46)).toInt = 60 → Q false m) ∧ (¬ ((m.1 63 46)).toInt = 60 → ((¬ ((m.1 63 10)).toInt = ((m.1 63 0)).toInt → wp_177 v1 m (fun x1 m2 => ((¬ x1.toInt = (-1) → wp_169 x1 m2 (fun m4 => (∀ m5, m5 = zf_u m4 63 46 ((m4.1 63 46) + 1) → ((x1.toInt = 9 → wq_179_93 v1 m5 Q) ∧ (¬ x1.toInt = 9 → ((0 ≤ (Int32.toInt ((m5.1 63 10) - 1)) ∧ (Int32.toInt ((m5.1 63 10) - 1)) < (24 : Int)) ∧ ((¬ ((m5.1 66 (Int32.toInt ((m5.1 63 10) - 1)).toNat)).toInt = 1 → wq_179_93 v1 m5 Q) ∧ (((m5.1 66 (Int32.toInt ((m5.1 63 10) - 1)).toNat)).toInt = 1 → ((((m5.1 63 1)).toInt ≤ 0 → wq_179_93 v1 m5 Q) ∧ (((m5.1 63 1)).toInt > 0 → (¬ (Int32.toInt (m5.1 63 1)) = 0 ∧ (∀ m13, m13 = zf_u m5 63 44 (((m5.1 63 44) + 1) - ((m5.1 63 44) + 1) / (m5.1 63 1) * (m5.1 63 1)) → wq_179_93 v1 m13 Q)))))))))))) ∧ (x1.toInt = (-1) → Q false m2)))) ∧ (((m.1 63 10)).toInt = ((m.1 63 0)).toInt → Q false m))))
theorem zr_179 {d : Nat} (hd : 4 ≤ d) {v1 : Int32} {Q : Bool → zf_Me → Prop} {m : zf_Me} (h : wp_179 v1 m Q) : zf_M d 179 [.inr (.inr (1, 63)), .inl v1] m (zf_B Q) := by
  obtain ⟨e, rfl⟩ : ∃ z, d = z + 1 := ⟨d - 1, by omega⟩
  unfold wp_179 at h
  refine zf_M_of (Nat.le_of_ble_eq_true rfl) zm_179 (L := [some (.inr (.inr (1, 63))), some (.inl v1), none, none]) rfl ?_
  refine zf_ld (pc' := 1) (v := .inr (.inr (1, 63))) dX8_goes_0 rfl (fun _ _ _ => rfl) rfl rfl rfl ?_
  refine zf_gfi (pc' := 4) dX8_goes_1 rfl rfl (by decide) rfl rfl ?_
  refine zf_bi (v := 60) (pc' := 6) dX8_goes_4 rfl rfl ?_
  refine zf_icmp_eq (tgt := 20) (pc' := 9) dX8_goes_6 rfl rfl (fun g => ?_) (fun g => ?_)
  · replace h := h.1 g
    refine zf_ic (v := 0) (pc' := 21) dX8_goes_20 rfl rfl ?_
    exact zf_rb (b := false) dX8_goes_21 rfl h
  · replace h := h.2 g
    refine zf_ld (pc' := 10) (v := .inr (.inr (1, 63))) dX8_goes_9 rfl (fun _ _ _ => rfl) rfl rfl rfl ?_
    refine zf_gfi (pc' := 13) dX8_goes_10 rfl rfl (by decide) rfl rfl ?_
    refine zf_ld (pc' := 14) (v := .inr (.inr (1, 63))) dX8_goes_13 rfl (fun _ _ _ => rfl) rfl rfl rfl ?_
    refine zf_gfi (pc' := 17) dX8_goes_14 rfl rfl (by decide) rfl rfl ?_
    refine zf_icmp_ne (tgt := 22) (pc' := 20) dX8_goes_17 rfl rfl (fun g => ?_) (fun g => ?_)
    · replace h := h.1 g
      refine zf_ld (pc' := 23) (v := .inr (.inr (1, 63))) dX8_goes_22 rfl (fun _ _ _ => rfl) rfl rfl rfl ?_
      refine zf_ld (pc' := 24) (v := .inl v1) dX8_goes_23 rfl (fun _ _ _ => rfl) rfl rfl rfl ?_
      refine zf_iv (k := 177) (pc' := 27) (r := []) dX8_goes_24 rfl rfl rfl rfl (by decide) rfl rfl rfl (zr_177 (by omega) h) (zf_kI (fun x1 m2 h => ?_))
      refine zf_st (pc' := 28) (L2 := [some (.inr (.inr (1, 63))), some (.inl v1), some (.inl x1), none]) dX8_goes_27 rfl (fun _ _ _ => rfl) rfl rfl rfl rfl rfl rfl ?_
      refine zf_ld (pc' := 29) (v := .inl x1) dX8_goes_28 rfl (fun _ _ _ => rfl) rfl rfl rfl ?_
      refine zf_ic (v := (-1)) (pc' := 30) dX8_goes_29 rfl rfl ?_
      refine zf_icmp_ne (tgt := 35) (pc' := 33) dX8_goes_30 rfl rfl (fun g => ?_) (fun g => ?_)
      · replace h := h.1 g
        refine zf_ld (pc' := 36) (v := .inr (.inr (1, 63))) dX8_goes_35 rfl (fun _ _ _ => rfl) rfl rfl rfl ?_
        refine zf_ld (pc' := 37) (v := .inl x1) dX8_goes_36 rfl (fun _ _ _ => rfl) rfl rfl rfl ?_
        refine zf_iv (k := 169) (pc' := 40) (r := []) dX8_goes_37 rfl rfl rfl rfl (by decide) rfl rfl rfl (zr_169 (by omega) h) (zf_kO (fun m4 h => ?_))
        refine zf_ld (pc' := 41) (v := .inr (.inr (1, 63))) dX8_goes_40 rfl (fun _ _ _ => rfl) rfl rfl rfl ?_
        refine zf_in (pc' := 42) (S' := [.inr (.inr (1, 63)), .inr (.inr (1, 63))]) dX8_goes_41 rfl (fun _ _ _ => rfl) ?_
        refine zf_gfi (pc' := 45) dX8_goes_42 rfl rfl (by decide) rfl rfl ?_
        refine zf_ic (v := 1) (pc' := 46) dX8_goes_45 rfl rfl ?_
        refine zf_in (pc' := 47) (S' := [.inl ((m4.1 63 46) + 1), .inr (.inr (1, 63))]) dX8_goes_46 rfl (fun _ _ _ => rfl) ?_
        refine zf_pf (pc' := 50) dX8_goes_47 rfl rfl (by decide) rfl rfl rfl (fun m5 e6 => ?_)
        replace h := h m5 e6
        refine zf_ld (pc' := 51) (v := .inl x1) dX8_goes_50 rfl (fun _ _ _ => rfl) rfl rfl rfl ?_
        refine zf_bi (v := 9) (pc' := 53) dX8_goes_51 rfl rfl ?_
        refine zf_icmp_eq (tgt := 93) (pc' := 56) dX8_goes_53 rfl rfl (fun g => ?_) (fun g => ?_)
        · replace h := h.1 g
          exact zf_lo (zq_179_93 (by omega) h) ⟨rfl, trivial⟩
        · replace h := h.2 g
          refine zf_ld (pc' := 57) (v := .inr (.inr (1, 63))) dX8_goes_56 rfl (fun _ _ _ => rfl) rfl rfl rfl ?_
          refine zf_gfr (pc' := 60) (b := 66) dX8_goes_57 rfl rfl (by decide) rfl rfl ?_
          refine zf_ld (pc' := 61) (v := .inr (.inr (1, 63))) dX8_goes_60 rfl (fun _ _ _ => rfl) rfl rfl rfl ?_
          refine zf_gfi (pc' := 64) dX8_goes_61 rfl rfl (by decide) rfl rfl ?_
          refine zf_ic (v := 1) (pc' := 65) dX8_goes_64 rfl rfl ?_
          refine zf_in (pc' := 66) (S' := [.inl ((m5.1 63 10) - 1), .inr (.inr (1, 66))]) dX8_goes_65 rfl (fun _ _ _ => rfl) ?_
          refine zf_ial (pc' := 67) dX8_goes_66 rfl (⟨by decide, rfl⟩ : zf_arr 66 24).1 (⟨by decide, rfl⟩ : zf_arr 66 24).2 h.1 rfl ?_
          replace h := h.2
          refine zf_ic (v := 1) (pc' := 68) dX8_goes_67 rfl rfl ?_
          refine zf_icmp_ne (tgt := 93) (pc' := 71) dX8_goes_68 rfl rfl (fun g => ?_) (fun g => ?_)
          · replace h := h.1 g
            exact zf_lo (zq_179_93 (by omega) h) ⟨rfl, trivial⟩
          · replace h := h.2 g
            refine zf_ld (pc' := 72) (v := .inr (.inr (1, 63))) dX8_goes_71 rfl (fun _ _ _ => rfl) rfl rfl rfl ?_
            refine zf_gfi (pc' := 75) dX8_goes_72 rfl rfl (by decide) rfl rfl ?_
            refine zf_if_le (tgt := 93) (pc' := 78) dX8_goes_75 rfl rfl (fun g => ?_) (fun g => ?_)
            · replace h := h.1 g
              exact zf_lo (zq_179_93 (by omega) h) ⟨rfl, trivial⟩
            · replace h := h.2 g
              refine zf_ld (pc' := 79) (v := .inr (.inr (1, 63))) dX8_goes_78 rfl (fun _ _ _ => rfl) rfl rfl rfl ?_
              refine zf_ld (pc' := 80) (v := .inr (.inr (1, 63))) dX8_goes_79 rfl (fun _ _ _ => rfl) rfl rfl rfl ?_
              refine zf_gfi (pc' := 83) dX8_goes_80 rfl rfl (by decide) rfl rfl ?_
              refine zf_ic (v := 1) (pc' := 84) dX8_goes_83 rfl rfl ?_
              refine zf_in (pc' := 85) (S' := [.inl ((m5.1 63 44) + 1), .inr (.inr (1, 63))]) dX8_goes_84 rfl (fun _ _ _ => rfl) ?_
              refine zf_ld (pc' := 86) (v := .inr (.inr (1, 63))) dX8_goes_85 rfl (fun _ _ _ => rfl) rfl rfl rfl ?_
              refine zf_gfi (pc' := 89) dX8_goes_86 rfl rfl (by decide) rfl rfl ?_
              refine zf_rem (pc' := 90) dX8_goes_89 rfl (fun z => h.1 (congrArg Int32.toInt z)) ?_
              replace h := h.2
              refine zf_pf (pc' := 93) dX8_goes_90 rfl rfl (by decide) rfl rfl rfl (fun m13 e14 => ?_)
              replace h := h m13 e14
              exact zf_lo (zq_179_93 (by omega) h) ⟨rfl, trivial⟩
      · replace h := h.2 g
        refine zf_ic (v := 0) (pc' := 34) dX8_goes_33 rfl rfl ?_
        exact zf_rb (b := false) dX8_goes_34 rfl h
    · replace h := h.2 g
      refine zf_ic (v := 0) (pc' := 21) dX8_goes_20 rfl rfl ?_
      exact zf_rb (b := false) dX8_goes_21 rfl h
def zt_180 : zx_MT := (8, yX8_isRule, cX8_isRule, 2, (some FieldType.boolean), 1, 0)
theorem zm_180 : zx_m 180 = zt_180 := rfl
theorem dX8_isRule_r0 : zdcP cX8_isRule 0 [(.iload_n 1, 1), (.ifCond .lt 12, 3), (.iload_n 1, 1), (.iconst 3, 1), (.if_icmp .gt 7, 3), (.iconst 1, 1), (.goto 4, 3), (.iconst 0, 1), (.ireturn, 1)] := zdcA_ok (by decide +kernel)
theorem dX8_isRule_0 : decode cX8_isRule 0 = .ok (.iload_n 1, 1) := dX8_isRule_r0.1
theorem dX8_isRule_1 : decode cX8_isRule 1 = .ok (.ifCond .lt 12, 3) := dX8_isRule_r0.2.1
theorem dX8_isRule_4 : decode cX8_isRule 4 = .ok (.iload_n 1, 1) := dX8_isRule_r0.2.2.1
theorem dX8_isRule_5 : decode cX8_isRule 5 = .ok (.iconst 3, 1) := dX8_isRule_r0.2.2.2.1
theorem dX8_isRule_6 : decode cX8_isRule 6 = .ok (.if_icmp .gt 7, 3) := dX8_isRule_r0.2.2.2.2.1
theorem dX8_isRule_9 : decode cX8_isRule 9 = .ok (.iconst 1, 1) := dX8_isRule_r0.2.2.2.2.2.1
theorem dX8_isRule_10 : decode cX8_isRule 10 = .ok (.goto 4, 3) := dX8_isRule_r0.2.2.2.2.2.2.1
theorem dX8_isRule_13 : decode cX8_isRule 13 = .ok (.iconst 0, 1) := dX8_isRule_r0.2.2.2.2.2.2.2.1
theorem dX8_isRule_14 : decode cX8_isRule 14 = .ok (.ireturn, 1) := dX8_isRule_r0.2.2.2.2.2.2.2.2.1
def wp_180 (v1 : Int32) (m : zf_Me) (Q : Bool → zf_Me → Prop) : Prop := ((v1.toInt < 0 → Q false m) ∧ (v1.toInt ≥ 0 → ((v1.toInt > 3 → Q false m) ∧ (v1.toInt ≤ 3 → Q true m))))
theorem zr_180 {d : Nat} (hd : 0 ≤ d) {v1 : Int32} {Q : Bool → zf_Me → Prop} {m : zf_Me} (h : wp_180 v1 m Q) : zf_M d 180 [.inr (.inr (1, 63)), .inl v1] m (zf_B Q) := by
  unfold wp_180 at h
  refine zf_M_of (Nat.le_of_ble_eq_true rfl) zm_180 (L := [some (.inr (.inr (1, 63))), some (.inl v1)]) rfl ?_
  refine zf_ld (pc' := 1) (v := .inl v1) dX8_isRule_0 rfl (fun _ _ _ => rfl) rfl rfl rfl ?_
  refine zf_if_lt (tgt := 13) (pc' := 4) dX8_isRule_1 rfl rfl (fun g => ?_) (fun g => ?_)
  · replace h := h.1 g
    refine zf_ic (v := 0) (pc' := 14) dX8_isRule_13 rfl rfl ?_
    exact zf_rb (b := false) dX8_isRule_14 rfl h
  · replace h := h.2 g
    refine zf_ld (pc' := 5) (v := .inl v1) dX8_isRule_4 rfl (fun _ _ _ => rfl) rfl rfl rfl ?_
    refine zf_ic (v := 3) (pc' := 6) dX8_isRule_5 rfl rfl ?_
    refine zf_icmp_gt (tgt := 13) (pc' := 9) dX8_isRule_6 rfl rfl (fun g => ?_) (fun g => ?_)
    · replace h := h.1 g
      refine zf_ic (v := 0) (pc' := 14) dX8_isRule_13 rfl rfl ?_
      exact zf_rb (b := false) dX8_isRule_14 rfl h
    · replace h := h.2 g
      refine zf_ic (v := 1) (pc' := 10) dX8_isRule_9 rfl rfl ?_
      refine zf_goto (tgt := 14) dX8_isRule_10 rfl ?_
      exact zf_rb (b := true) dX8_isRule_14 rfl h
def zt_181 : zx_MT := (8, yX8_leads, cX8_leads, 3, none, 1, 0)
theorem zm_181 : zx_m 181 = zt_181 := rfl
theorem dX8_leads_r0 : zdcP cX8_leads 0 [(.aload_n 0, 1), (.aload_n 0, 1), (.getfield 90, 3), (.iconst 0, 1), (.iconst 0, 1), (.invokevirtual 213, 3), (.aload_n 0, 1), (.invokevirtual 263, 3), (.iconst 1, 1), (.istore_n 2, 1), (.iload_n 2, 1), (.ifCond .eq 12, 3), (.aload_n 0, 1), (.iload_n 1, 1), (.invokevirtual 266, 3), (.istore_n 2, 1)] := zdcA_ok (by decide +kernel)
theorem dX8_leads_0 : decode cX8_leads 0 = .ok (.aload_n 0, 1) := dX8_leads_r0.1
theorem dX8_leads_1 : decode cX8_leads 1 = .ok (.aload_n 0, 1) := dX8_leads_r0.2.1
theorem dX8_leads_2 : decode cX8_leads 2 = .ok (.getfield 90, 3) := dX8_leads_r0.2.2.1
theorem dX8_leads_5 : decode cX8_leads 5 = .ok (.iconst 0, 1) := dX8_leads_r0.2.2.2.1
theorem dX8_leads_6 : decode cX8_leads 6 = .ok (.iconst 0, 1) := dX8_leads_r0.2.2.2.2.1
theorem dX8_leads_7 : decode cX8_leads 7 = .ok (.invokevirtual 213, 3) := dX8_leads_r0.2.2.2.2.2.1
theorem dX8_leads_10 : decode cX8_leads 10 = .ok (.aload_n 0, 1) := dX8_leads_r0.2.2.2.2.2.2.1
theorem dX8_leads_11 : decode cX8_leads 11 = .ok (.invokevirtual 263, 3) := dX8_leads_r0.2.2.2.2.2.2.2.1
theorem dX8_leads_14 : decode cX8_leads 14 = .ok (.iconst 1, 1) := dX8_leads_r0.2.2.2.2.2.2.2.2.1
theorem dX8_leads_15 : decode cX8_leads 15 = .ok (.istore_n 2, 1) := dX8_leads_r0.2.2.2.2.2.2.2.2.2.1
theorem dX8_leads_16 : decode cX8_leads 16 = .ok (.iload_n 2, 1) := dX8_leads_r0.2.2.2.2.2.2.2.2.2.2.1
theorem dX8_leads_17 : decode cX8_leads 17 = .ok (.ifCond .eq 12, 3) := dX8_leads_r0.2.2.2.2.2.2.2.2.2.2.2.1
theorem dX8_leads_20 : decode cX8_leads 20 = .ok (.aload_n 0, 1) := dX8_leads_r0.2.2.2.2.2.2.2.2.2.2.2.2.1
theorem dX8_leads_21 : decode cX8_leads 21 = .ok (.iload_n 1, 1) := dX8_leads_r0.2.2.2.2.2.2.2.2.2.2.2.2.2.1
theorem dX8_leads_22 : decode cX8_leads 22 = .ok (.invokevirtual 266, 3) := dX8_leads_r0.2.2.2.2.2.2.2.2.2.2.2.2.2.2.1
theorem dX8_leads_25 : decode cX8_leads 25 = .ok (.istore_n 2, 1) := dX8_leads_r0.2.2.2.2.2.2.2.2.2.2.2.2.2.2.2.1
theorem dX8_leads_r26 : zdcP cX8_leads 26 [(.goto (-10), 3), (.aload_n 0, 1), (.aload_n 0, 1), (.getfield 207, 3), (.putfield 269, 3), (.aload_n 0, 1), (.aload_n 0, 1), (.getfield 210, 3), (.putfield 272, 3), (.aload_n 0, 1), (.aload_n 0, 1), (.getfield 257, 3), (.putfield 275, 3), (.return_, 1)] := zdcA_ok (by decide +kernel)
theorem dX8_leads_26 : decode cX8_leads 26 = .ok (.goto (-10), 3) := dX8_leads_r26.1
theorem dX8_leads_29 : decode cX8_leads 29 = .ok (.aload_n 0, 1) := dX8_leads_r26.2.1
theorem dX8_leads_30 : decode cX8_leads 30 = .ok (.aload_n 0, 1) := dX8_leads_r26.2.2.1
theorem dX8_leads_31 : decode cX8_leads 31 = .ok (.getfield 207, 3) := dX8_leads_r26.2.2.2.1
theorem dX8_leads_34 : decode cX8_leads 34 = .ok (.putfield 269, 3) := dX8_leads_r26.2.2.2.2.1
theorem dX8_leads_37 : decode cX8_leads 37 = .ok (.aload_n 0, 1) := dX8_leads_r26.2.2.2.2.2.1
theorem dX8_leads_38 : decode cX8_leads 38 = .ok (.aload_n 0, 1) := dX8_leads_r26.2.2.2.2.2.2.1
theorem dX8_leads_39 : decode cX8_leads 39 = .ok (.getfield 210, 3) := dX8_leads_r26.2.2.2.2.2.2.2.1
theorem dX8_leads_42 : decode cX8_leads 42 = .ok (.putfield 272, 3) := dX8_leads_r26.2.2.2.2.2.2.2.2.1
theorem dX8_leads_45 : decode cX8_leads 45 = .ok (.aload_n 0, 1) := dX8_leads_r26.2.2.2.2.2.2.2.2.2.1
theorem dX8_leads_46 : decode cX8_leads 46 = .ok (.aload_n 0, 1) := dX8_leads_r26.2.2.2.2.2.2.2.2.2.2.1
theorem dX8_leads_47 : decode cX8_leads 47 = .ok (.getfield 257, 3) := dX8_leads_r26.2.2.2.2.2.2.2.2.2.2.2.1
theorem dX8_leads_50 : decode cX8_leads 50 = .ok (.putfield 275, 3) := dX8_leads_r26.2.2.2.2.2.2.2.2.2.2.2.2.1
theorem dX8_leads_53 : decode cX8_leads 53 = .ok (.return_, 1) := dX8_leads_r26.2.2.2.2.2.2.2.2.2.2.2.2.2.1
def wq_181_16 (v1 : Int32) (Q : zf_Me → Prop) : Nat → Int32 → zf_Me → Prop
  | 0, _, _ => False
  | n + 1, v2, m => ((v2.toInt = 0 → (∀ m5, m5 = zf_u m 63 47 (m.1 63 10) → (∀ m7, m7 = zf_u m5 63 48 (m5.1 63 11) → (∀ m9, m9 = zf_u m7 63 49 (m7.1 63 45) → Q m9)))) ∧ (¬ v2.toInt = 0 → wp_179 v1 m (fun b11 m12 => wq_181_16 v1 Q n (zb b11) m12)))
theorem zq_181_16 {d : Nat} (hd : 5 ≤ d) {v1 : Int32} {Q : zf_Me → Prop} : ∀ (n : Nat) (v2 : Int32) (m : zf_Me), wq_181_16 v1 Q n v2 m → zf_W none 0 0 d zt_181 16 [some (.inr (.inr (1, 63))), some (.inl v1), some (.inl v2)] [] m (zf_O Q) := by
  obtain ⟨e, rfl⟩ : ∃ z, d = z + 1 := ⟨d - 1, by omega⟩
  intro n
  induction n with
  | zero =>
    intro v2 m h
    exact h.elim
  | succ n ih =>
    intro v2 m h
    unfold wq_181_16 at h
    refine zf_ld (pc' := 17) (v := .inl v2) dX8_leads_16 rfl (fun _ _ _ => rfl) rfl rfl rfl ?_
    refine zf_if_eq (tgt := 29) (pc' := 20) dX8_leads_17 rfl rfl (fun g => ?_) (fun g => ?_)
    · replace h := h.1 g
      refine zf_ld (pc' := 30) (v := .inr (.inr (1, 63))) dX8_leads_29 rfl (fun _ _ _ => rfl) rfl rfl rfl ?_
      refine zf_ld (pc' := 31) (v := .inr (.inr (1, 63))) dX8_leads_30 rfl (fun _ _ _ => rfl) rfl rfl rfl ?_
      refine zf_gfi (pc' := 34) dX8_leads_31 rfl rfl (by decide) rfl rfl ?_
      refine zf_pf (pc' := 37) dX8_leads_34 rfl rfl (by decide) rfl rfl rfl (fun m5 e6 => ?_)
      replace h := h m5 e6
      refine zf_ld (pc' := 38) (v := .inr (.inr (1, 63))) dX8_leads_37 rfl (fun _ _ _ => rfl) rfl rfl rfl ?_
      refine zf_ld (pc' := 39) (v := .inr (.inr (1, 63))) dX8_leads_38 rfl (fun _ _ _ => rfl) rfl rfl rfl ?_
      refine zf_gfi (pc' := 42) dX8_leads_39 rfl rfl (by decide) rfl rfl ?_
      refine zf_pf (pc' := 45) dX8_leads_42 rfl rfl (by decide) rfl rfl rfl (fun m7 e8 => ?_)
      replace h := h m7 e8
      refine zf_ld (pc' := 46) (v := .inr (.inr (1, 63))) dX8_leads_45 rfl (fun _ _ _ => rfl) rfl rfl rfl ?_
      refine zf_ld (pc' := 47) (v := .inr (.inr (1, 63))) dX8_leads_46 rfl (fun _ _ _ => rfl) rfl rfl rfl ?_
      refine zf_gfi (pc' := 50) dX8_leads_47 rfl rfl (by decide) rfl rfl ?_
      refine zf_pf (pc' := 53) dX8_leads_50 rfl rfl (by decide) rfl rfl rfl (fun m9 e10 => ?_)
      replace h := h m9 e10
      exact zf_rv dX8_leads_53 rfl h
    · replace h := h.2 g
      refine zf_ld (pc' := 21) (v := .inr (.inr (1, 63))) dX8_leads_20 rfl (fun _ _ _ => rfl) rfl rfl rfl ?_
      refine zf_ld (pc' := 22) (v := .inl v1) dX8_leads_21 rfl (fun _ _ _ => rfl) rfl rfl rfl ?_
      refine zf_iv (k := 179) (pc' := 25) (r := []) dX8_leads_22 rfl rfl rfl rfl (by decide) rfl rfl rfl (zr_179 (by omega) h) (zf_kB (fun b11 m12 h => ?_))
      refine zf_st (pc' := 26) (L2 := [some (.inr (.inr (1, 63))), some (.inl v1), some (.inl (zb b11))]) dX8_leads_25 rfl (fun _ _ _ => rfl) rfl rfl rfl rfl rfl rfl ?_
      refine zf_goto (tgt := 16) dX8_leads_26 rfl ?_
      exact zf_lo (ih _ _ h) ⟨rfl, rfl, rfl, trivial⟩
def wp_181 (v1 : Int32) (m : zf_Me) (Q : zf_Me → Prop) : Prop := wp_161 81 90 0 0 m (fun m2 => wp_178 m2 (fun m4 => (∃ n16, wq_181_16 v1 Q n16 1 m4)))
theorem zr_181 {d : Nat} (hd : 5 ≤ d) {v1 : Int32} {Q : zf_Me → Prop} {m : zf_Me} (h : wp_181 v1 m Q) : zf_M d 181 [.inr (.inr (1, 63)), .inl v1] m (zf_O Q) := by
  obtain ⟨e, rfl⟩ : ∃ z, d = z + 1 := ⟨d - 1, by omega⟩
  unfold wp_181 at h
  refine zf_M_of (Nat.le_of_ble_eq_true rfl) zm_181 (L := [some (.inr (.inr (1, 63))), some (.inl v1), none]) rfl ?_
  refine zf_ld (pc' := 1) (v := .inr (.inr (1, 63))) dX8_leads_0 rfl (fun _ _ _ => rfl) rfl rfl rfl ?_
  refine zf_ld (pc' := 2) (v := .inr (.inr (1, 63))) dX8_leads_1 rfl (fun _ _ _ => rfl) rfl rfl rfl ?_
  refine zf_gfr (pc' := 5) (b := 81) dX8_leads_2 rfl rfl (by decide) rfl rfl ?_
  refine zf_ic (v := 0) (pc' := 6) dX8_leads_5 rfl rfl ?_
  refine zf_ic (v := 0) (pc' := 7) dX8_leads_6 rfl rfl ?_
  refine zf_iv (k := 161) (pc' := 10) (r := []) dX8_leads_7 rfl rfl rfl rfl (by decide) rfl rfl rfl (zr_161 (by omega) (⟨by decide, rfl⟩ : zf_arr 81 90) h) (zf_kO (fun m2 h => ?_))
  refine zf_ld (pc' := 11) (v := .inr (.inr (1, 63))) dX8_leads_10 rfl (fun _ _ _ => rfl) rfl rfl rfl ?_
  refine zf_iv (k := 178) (pc' := 14) (r := []) dX8_leads_11 rfl rfl rfl rfl (by decide) rfl rfl rfl (zr_178 (by omega) h) (zf_kO (fun m4 h => ?_))
  refine zf_ic (v := 1) (pc' := 15) dX8_leads_14 rfl rfl ?_
  refine zf_st (pc' := 16) (L2 := [some (.inr (.inr (1, 63))), some (.inl v1), some (.inl 1)]) dX8_leads_15 rfl (fun _ _ _ => rfl) rfl rfl rfl rfl rfl rfl ?_
  obtain ⟨n16, h⟩ := h
  exact zf_lo (zq_181_16 (by omega) n16 _ _ h) ⟨rfl, rfl, rfl, trivial⟩
def zt_182 : zx_MT := (8, yX8_takesBack, cX8_takesBack, 1, none, 0, 0)
theorem zm_182 : zx_m 182 = zt_182 := rfl
theorem dX8_takesBack_r0 : zdcP cX8_takesBack 0 [(.aload_n 0, 1), (.aload_n 0, 1), (.getfield 90, 3), (.iconst 0, 1), (.iconst 1, 1), (.invokevirtual 213, 3), (.return_, 1)] := zdcA_ok (by decide +kernel)
theorem dX8_takesBack_0 : decode cX8_takesBack 0 = .ok (.aload_n 0, 1) := dX8_takesBack_r0.1
theorem dX8_takesBack_1 : decode cX8_takesBack 1 = .ok (.aload_n 0, 1) := dX8_takesBack_r0.2.1
theorem dX8_takesBack_2 : decode cX8_takesBack 2 = .ok (.getfield 90, 3) := dX8_takesBack_r0.2.2.1
theorem dX8_takesBack_5 : decode cX8_takesBack 5 = .ok (.iconst 0, 1) := dX8_takesBack_r0.2.2.2.1
theorem dX8_takesBack_6 : decode cX8_takesBack 6 = .ok (.iconst 1, 1) := dX8_takesBack_r0.2.2.2.2.1
theorem dX8_takesBack_7 : decode cX8_takesBack 7 = .ok (.invokevirtual 213, 3) := dX8_takesBack_r0.2.2.2.2.2.1
theorem dX8_takesBack_10 : decode cX8_takesBack 10 = .ok (.return_, 1) := dX8_takesBack_r0.2.2.2.2.2.2.1
def wp_182 (m : zf_Me) (Q : zf_Me → Prop) : Prop := wp_161 81 90 0 1 m (fun m2 => Q m2)
theorem zr_182 {d : Nat} (hd : 2 ≤ d) {Q : zf_Me → Prop} {m : zf_Me} (h : wp_182 m Q) : zf_M d 182 [.inr (.inr (1, 63))] m (zf_O Q) := by
  obtain ⟨e, rfl⟩ : ∃ z, d = z + 1 := ⟨d - 1, by omega⟩
  unfold wp_182 at h
  refine zf_M_of (Nat.le_of_ble_eq_true rfl) zm_182 (L := [some (.inr (.inr (1, 63)))]) rfl ?_
  refine zf_ld (pc' := 1) (v := .inr (.inr (1, 63))) dX8_takesBack_0 rfl (fun _ _ _ => rfl) rfl rfl rfl ?_
  refine zf_ld (pc' := 2) (v := .inr (.inr (1, 63))) dX8_takesBack_1 rfl (fun _ _ _ => rfl) rfl rfl rfl ?_
  refine zf_gfr (pc' := 5) (b := 81) dX8_takesBack_2 rfl rfl (by decide) rfl rfl ?_
  refine zf_ic (v := 0) (pc' := 6) dX8_takesBack_5 rfl rfl ?_
  refine zf_ic (v := 1) (pc' := 7) dX8_takesBack_6 rfl rfl ?_
  refine zf_iv (k := 161) (pc' := 10) (r := []) dX8_takesBack_7 rfl rfl rfl rfl (by decide) rfl rfl rfl (zr_161 (by omega) (⟨by decide, rfl⟩ : zf_arr 81 90) h) (zf_kO (fun m2 h => ?_))
  exact zf_rv dX8_takesBack_10 rfl h
def zt_183 : zx_MT := (8, yX8_by, cX8_by, 4, (some FieldType.int), 2, 0)
theorem zm_183 : zx_m 183 = zt_183 := rfl
theorem dX8_by_r0 : zdcP cX8_by 0 [(.iload_n 2, 1), (.ifCond .lt 19, 3), (.iload_n 2, 1), (.iconst 3, 1), (.if_icmp .le 21, 3), (.aload_n 0, 1), (.iload_n 2, 1), (.bipush 10, 2), (.isub, 1), (.invokevirtual 119, 3), (.ifCond .ne 10, 3), (.aload_n 0, 1), (.bipush (-5), 2), (.invokevirtual 115, 3), (.ireturn, 1), (.aload_n 0, 1)] := zdcA_ok (by decide +kernel)
theorem dX8_by_0 : decode cX8_by 0 = .ok (.iload_n 2, 1) := dX8_by_r0.1
theorem dX8_by_1 : decode cX8_by 1 = .ok (.ifCond .lt 19, 3) := dX8_by_r0.2.1
theorem dX8_by_4 : decode cX8_by 4 = .ok (.iload_n 2, 1) := dX8_by_r0.2.2.1
theorem dX8_by_5 : decode cX8_by 5 = .ok (.iconst 3, 1) := dX8_by_r0.2.2.2.1
theorem dX8_by_6 : decode cX8_by 6 = .ok (.if_icmp .le 21, 3) := dX8_by_r0.2.2.2.2.1
theorem dX8_by_9 : decode cX8_by 9 = .ok (.aload_n 0, 1) := dX8_by_r0.2.2.2.2.2.1
theorem dX8_by_10 : decode cX8_by 10 = .ok (.iload_n 2, 1) := dX8_by_r0.2.2.2.2.2.2.1
theorem dX8_by_11 : decode cX8_by 11 = .ok (.bipush 10, 2) := dX8_by_r0.2.2.2.2.2.2.2.1
theorem dX8_by_13 : decode cX8_by 13 = .ok (.isub, 1) := dX8_by_r0.2.2.2.2.2.2.2.2.1
theorem dX8_by_14 : decode cX8_by 14 = .ok (.invokevirtual 119, 3) := dX8_by_r0.2.2.2.2.2.2.2.2.2.1
theorem dX8_by_17 : decode cX8_by 17 = .ok (.ifCond .ne 10, 3) := dX8_by_r0.2.2.2.2.2.2.2.2.2.2.1
theorem dX8_by_20 : decode cX8_by 20 = .ok (.aload_n 0, 1) := dX8_by_r0.2.2.2.2.2.2.2.2.2.2.2.1
theorem dX8_by_21 : decode cX8_by 21 = .ok (.bipush (-5), 2) := dX8_by_r0.2.2.2.2.2.2.2.2.2.2.2.2.1
theorem dX8_by_23 : decode cX8_by 23 = .ok (.invokevirtual 115, 3) := dX8_by_r0.2.2.2.2.2.2.2.2.2.2.2.2.2.1
theorem dX8_by_26 : decode cX8_by 26 = .ok (.ireturn, 1) := dX8_by_r0.2.2.2.2.2.2.2.2.2.2.2.2.2.2.1
theorem dX8_by_27 : decode cX8_by 27 = .ok (.aload_n 0, 1) := dX8_by_r0.2.2.2.2.2.2.2.2.2.2.2.2.2.2.2.1
theorem dX8_by_r28 : zdcP cX8_by 28 [(.iload_n 1, 1), (.invokevirtual 278, 3), (.ifCond .ne 10, 3), (.aload_n 0, 1), (.bipush (-6), 2), (.invokevirtual 115, 3), (.ireturn, 1), (.aload_n 0, 1), (.iload_n 1, 1), (.invokevirtual 281, 3), (.iload_n 2, 1), (.ifCond .ne 10, 3), (.aload_n 0, 1), (.getfield 207, 3), (.goto 48, 3), (.iload_n 2, 1)] := zdcA_ok (by decide +kernel)
theorem dX8_by_28 : decode cX8_by 28 = .ok (.iload_n 1, 1) := dX8_by_r28.1
theorem dX8_by_29 : decode cX8_by 29 = .ok (.invokevirtual 278, 3) := dX8_by_r28.2.1
theorem dX8_by_32 : decode cX8_by 32 = .ok (.ifCond .ne 10, 3) := dX8_by_r28.2.2.1
theorem dX8_by_35 : decode cX8_by 35 = .ok (.aload_n 0, 1) := dX8_by_r28.2.2.2.1
theorem dX8_by_36 : decode cX8_by 36 = .ok (.bipush (-6), 2) := dX8_by_r28.2.2.2.2.1
theorem dX8_by_38 : decode cX8_by 38 = .ok (.invokevirtual 115, 3) := dX8_by_r28.2.2.2.2.2.1
theorem dX8_by_41 : decode cX8_by 41 = .ok (.ireturn, 1) := dX8_by_r28.2.2.2.2.2.2.1
theorem dX8_by_42 : decode cX8_by 42 = .ok (.aload_n 0, 1) := dX8_by_r28.2.2.2.2.2.2.2.1
theorem dX8_by_43 : decode cX8_by 43 = .ok (.iload_n 1, 1) := dX8_by_r28.2.2.2.2.2.2.2.2.1
theorem dX8_by_44 : decode cX8_by 44 = .ok (.invokevirtual 281, 3) := dX8_by_r28.2.2.2.2.2.2.2.2.2.1
theorem dX8_by_47 : decode cX8_by 47 = .ok (.iload_n 2, 1) := dX8_by_r28.2.2.2.2.2.2.2.2.2.2.1
theorem dX8_by_48 : decode cX8_by 48 = .ok (.ifCond .ne 10, 3) := dX8_by_r28.2.2.2.2.2.2.2.2.2.2.2.1
theorem dX8_by_51 : decode cX8_by 51 = .ok (.aload_n 0, 1) := dX8_by_r28.2.2.2.2.2.2.2.2.2.2.2.2.1
theorem dX8_by_52 : decode cX8_by 52 = .ok (.getfield 207, 3) := dX8_by_r28.2.2.2.2.2.2.2.2.2.2.2.2.2.1
theorem dX8_by_55 : decode cX8_by 55 = .ok (.goto 48, 3) := dX8_by_r28.2.2.2.2.2.2.2.2.2.2.2.2.2.2.1
theorem dX8_by_58 : decode cX8_by 58 = .ok (.iload_n 2, 1) := dX8_by_r28.2.2.2.2.2.2.2.2.2.2.2.2.2.2.2.1
theorem dX8_by_r59 : zdcP cX8_by 59 [(.iconst 1, 1), (.if_icmp .ne 10, 3), (.aload_n 0, 1), (.getfield 210, 3), (.goto 36, 3), (.iload_n 2, 1), (.iconst 2, 1), (.if_icmp .ne 10, 3), (.aload_n 0, 1), (.getfield 257, 3), (.goto 24, 3), (.iload_n 2, 1), (.iconst 3, 1), (.if_icmp .ne 10, 3), (.aload_n 0, 1), (.getfield 254, 3)] := zdcA_ok (by decide +kernel)
theorem dX8_by_59 : decode cX8_by 59 = .ok (.iconst 1, 1) := dX8_by_r59.1
theorem dX8_by_60 : decode cX8_by 60 = .ok (.if_icmp .ne 10, 3) := dX8_by_r59.2.1
theorem dX8_by_63 : decode cX8_by 63 = .ok (.aload_n 0, 1) := dX8_by_r59.2.2.1
theorem dX8_by_64 : decode cX8_by 64 = .ok (.getfield 210, 3) := dX8_by_r59.2.2.2.1
theorem dX8_by_67 : decode cX8_by 67 = .ok (.goto 36, 3) := dX8_by_r59.2.2.2.2.1
theorem dX8_by_70 : decode cX8_by 70 = .ok (.iload_n 2, 1) := dX8_by_r59.2.2.2.2.2.1
theorem dX8_by_71 : decode cX8_by 71 = .ok (.iconst 2, 1) := dX8_by_r59.2.2.2.2.2.2.1
theorem dX8_by_72 : decode cX8_by 72 = .ok (.if_icmp .ne 10, 3) := dX8_by_r59.2.2.2.2.2.2.2.1
theorem dX8_by_75 : decode cX8_by 75 = .ok (.aload_n 0, 1) := dX8_by_r59.2.2.2.2.2.2.2.2.1
theorem dX8_by_76 : decode cX8_by 76 = .ok (.getfield 257, 3) := dX8_by_r59.2.2.2.2.2.2.2.2.2.1
theorem dX8_by_79 : decode cX8_by 79 = .ok (.goto 24, 3) := dX8_by_r59.2.2.2.2.2.2.2.2.2.2.1
theorem dX8_by_82 : decode cX8_by 82 = .ok (.iload_n 2, 1) := dX8_by_r59.2.2.2.2.2.2.2.2.2.2.2.1
theorem dX8_by_83 : decode cX8_by 83 = .ok (.iconst 3, 1) := dX8_by_r59.2.2.2.2.2.2.2.2.2.2.2.2.1
theorem dX8_by_84 : decode cX8_by 84 = .ok (.if_icmp .ne 10, 3) := dX8_by_r59.2.2.2.2.2.2.2.2.2.2.2.2.2.1
theorem dX8_by_87 : decode cX8_by 87 = .ok (.aload_n 0, 1) := dX8_by_r59.2.2.2.2.2.2.2.2.2.2.2.2.2.2.1
theorem dX8_by_88 : decode cX8_by 88 = .ok (.getfield 254, 3) := dX8_by_r59.2.2.2.2.2.2.2.2.2.2.2.2.2.2.2.1
theorem dX8_by_r91 : zdcP cX8_by 91 [(.goto 12, 3), (.aload_n 0, 1), (.getfield 53, 3), (.iload_n 2, 1), (.bipush 10, 2), (.isub, 1), (.iaload, 1), (.istore_n 3, 1), (.aload_n 0, 1), (.invokevirtual 284, 3), (.iload_n 3, 1), (.ireturn, 1)] := zdcA_ok (by decide +kernel)
theorem dX8_by_91 : decode cX8_by 91 = .ok (.goto 12, 3) := dX8_by_r91.1
theorem dX8_by_94 : decode cX8_by 94 = .ok (.aload_n 0, 1) := dX8_by_r91.2.1
theorem dX8_by_95 : decode cX8_by 95 = .ok (.getfield 53, 3) := dX8_by_r91.2.2.1
theorem dX8_by_98 : decode cX8_by 98 = .ok (.iload_n 2, 1) := dX8_by_r91.2.2.2.1
theorem dX8_by_99 : decode cX8_by 99 = .ok (.bipush 10, 2) := dX8_by_r91.2.2.2.2.1
theorem dX8_by_101 : decode cX8_by 101 = .ok (.isub, 1) := dX8_by_r91.2.2.2.2.2.1
theorem dX8_by_102 : decode cX8_by 102 = .ok (.iaload, 1) := dX8_by_r91.2.2.2.2.2.2.1
theorem dX8_by_103 : decode cX8_by 103 = .ok (.istore_n 3, 1) := dX8_by_r91.2.2.2.2.2.2.2.1
theorem dX8_by_104 : decode cX8_by 104 = .ok (.aload_n 0, 1) := dX8_by_r91.2.2.2.2.2.2.2.2.1
theorem dX8_by_105 : decode cX8_by 105 = .ok (.invokevirtual 284, 3) := dX8_by_r91.2.2.2.2.2.2.2.2.2.1
theorem dX8_by_108 : decode cX8_by 108 = .ok (.iload_n 3, 1) := dX8_by_r91.2.2.2.2.2.2.2.2.2.2.1
theorem dX8_by_109 : decode cX8_by 109 = .ok (.ireturn, 1) := dX8_by_r91.2.2.2.2.2.2.2.2.2.2.2.1
def wq_183_27 (v1 : Int32) (v2 : Int32) (m : zf_Me) (Q : Int32 → zf_Me → Prop) : Prop := wp_180 v1 m (fun b3 m4 => ((b3 = true → wp_181 v1 m4 (fun m6 => ((¬ v2.toInt = 0 → ((¬ v2.toInt = 1 → ((¬ v2.toInt = 2 → ((¬ v2.toInt = 3 → ((0 ≤ (Int32.toInt (v2 - 10)) ∧ (Int32.toInt (v2 - 10)) < (6 : Int)) ∧ wp_182 m6 (fun m8 => Q (m6.1 69 (Int32.toInt (v2 - 10)).toNat) m8))) ∧ (v2.toInt = 3 → wp_182 m6 (fun m10 => Q (m6.1 63 46) m10)))) ∧ (v2.toInt = 2 → wp_182 m6 (fun m12 => Q (m6.1 63 45) m12)))) ∧ (v2.toInt = 1 → wp_182 m6 (fun m14 => Q (m6.1 63 11) m14)))) ∧ (v2.toInt = 0 → wp_182 m6 (fun m16 => Q (m6.1 63 10) m16))))) ∧ (b3 = false → wp_125 (-6) m4 (fun x17 m18 => Q x17 m18))))
theorem zq_183_27 {d : Nat} (hd : 6 ≤ d) {v1 : Int32} {v2 : Int32} {Q : Int32 → zf_Me → Prop} {m : zf_Me} (h : wq_183_27 v1 v2 m Q) : zf_W none 0 0 d zt_183 27 [some (.inr (.inr (1, 63))), some (.inl v1), some (.inl v2), none] [] m (zf_I Q) := by
  obtain ⟨e, rfl⟩ : ∃ z, d = z + 1 := ⟨d - 1, by omega⟩
  unfold wq_183_27 at h
  refine zf_ld (pc' := 28) (v := .inr (.inr (1, 63))) dX8_by_27 rfl (fun _ _ _ => rfl) rfl rfl rfl ?_
  refine zf_ld (pc' := 29) (v := .inl v1) dX8_by_28 rfl (fun _ _ _ => rfl) rfl rfl rfl ?_
  refine zf_iv (k := 180) (pc' := 32) (r := []) dX8_by_29 rfl rfl rfl rfl (by decide) rfl rfl rfl (zr_180 (by omega) h) (zf_kB (fun b3 m4 h => ?_))
  refine zf_ib_ne (tgt := 42) (pc' := 35) dX8_by_32 rfl rfl (fun g => ?_) (fun g => ?_)
  · replace h := h.1 g
    refine zf_ld (pc' := 43) (v := .inr (.inr (1, 63))) dX8_by_42 rfl (fun _ _ _ => rfl) rfl rfl rfl ?_
    refine zf_ld (pc' := 44) (v := .inl v1) dX8_by_43 rfl (fun _ _ _ => rfl) rfl rfl rfl ?_
    refine zf_iv (k := 181) (pc' := 47) (r := []) dX8_by_44 rfl rfl rfl rfl (by decide) rfl rfl rfl (zr_181 (by omega) h) (zf_kO (fun m6 h => ?_))
    refine zf_ld (pc' := 48) (v := .inl v2) dX8_by_47 rfl (fun _ _ _ => rfl) rfl rfl rfl ?_
    refine zf_if_ne (tgt := 58) (pc' := 51) dX8_by_48 rfl rfl (fun g => ?_) (fun g => ?_)
    · replace h := h.1 g
      refine zf_ld (pc' := 59) (v := .inl v2) dX8_by_58 rfl (fun _ _ _ => rfl) rfl rfl rfl ?_
      refine zf_ic (v := 1) (pc' := 60) dX8_by_59 rfl rfl ?_
      refine zf_icmp_ne (tgt := 70) (pc' := 63) dX8_by_60 rfl rfl (fun g => ?_) (fun g => ?_)
      · replace h := h.1 g
        refine zf_ld (pc' := 71) (v := .inl v2) dX8_by_70 rfl (fun _ _ _ => rfl) rfl rfl rfl ?_
        refine zf_ic (v := 2) (pc' := 72) dX8_by_71 rfl rfl ?_
        refine zf_icmp_ne (tgt := 82) (pc' := 75) dX8_by_72 rfl rfl (fun g => ?_) (fun g => ?_)
        · replace h := h.1 g
          refine zf_ld (pc' := 83) (v := .inl v2) dX8_by_82 rfl (fun _ _ _ => rfl) rfl rfl rfl ?_
          refine zf_ic (v := 3) (pc' := 84) dX8_by_83 rfl rfl ?_
          refine zf_icmp_ne (tgt := 94) (pc' := 87) dX8_by_84 rfl rfl (fun g => ?_) (fun g => ?_)
          · replace h := h.1 g
            refine zf_ld (pc' := 95) (v := .inr (.inr (1, 63))) dX8_by_94 rfl (fun _ _ _ => rfl) rfl rfl rfl ?_
            refine zf_gfr (pc' := 98) (b := 69) dX8_by_95 rfl rfl (by decide) rfl rfl ?_
            refine zf_ld (pc' := 99) (v := .inl v2) dX8_by_98 rfl (fun _ _ _ => rfl) rfl rfl rfl ?_
            refine zf_bi (v := 10) (pc' := 101) dX8_by_99 rfl rfl ?_
            refine zf_in (pc' := 102) (S' := [.inl (v2 - 10), .inr (.inr (1, 69))]) dX8_by_101 rfl (fun _ _ _ => rfl) ?_
            refine zf_ial (pc' := 103) dX8_by_102 rfl (⟨by decide, rfl⟩ : zf_arr 69 6).1 (⟨by decide, rfl⟩ : zf_arr 69 6).2 h.1 rfl ?_
            replace h := h.2
            refine zf_st (pc' := 104) (L2 := [some (.inr (.inr (1, 63))), some (.inl v1), some (.inl v2), some (.inl (m6.1 69 (Int32.toInt (v2 - 10)).toNat))]) dX8_by_103 rfl (fun _ _ _ => rfl) rfl rfl rfl rfl rfl rfl ?_
            refine zf_ld (pc' := 105) (v := .inr (.inr (1, 63))) dX8_by_104 rfl (fun _ _ _ => rfl) rfl rfl rfl ?_
            refine zf_iv (k := 182) (pc' := 108) (r := []) dX8_by_105 rfl rfl rfl rfl (by decide) rfl rfl rfl (zr_182 (by omega) h) (zf_kO (fun m8 h => ?_))
            refine zf_ld (pc' := 109) (v := .inl (m6.1 69 (Int32.toInt (v2 - 10)).toNat)) dX8_by_108 rfl (fun _ _ _ => rfl) rfl rfl rfl ?_
            exact zf_ri dX8_by_109 rfl h
          · replace h := h.2 g
            refine zf_ld (pc' := 88) (v := .inr (.inr (1, 63))) dX8_by_87 rfl (fun _ _ _ => rfl) rfl rfl rfl ?_
            refine zf_gfi (pc' := 91) dX8_by_88 rfl rfl (by decide) rfl rfl ?_
            refine zf_goto (tgt := 103) dX8_by_91 rfl ?_
            refine zf_st (pc' := 104) (L2 := [some (.inr (.inr (1, 63))), some (.inl v1), some (.inl v2), some (.inl (m6.1 63 46))]) dX8_by_103 rfl (fun _ _ _ => rfl) rfl rfl rfl rfl rfl rfl ?_
            refine zf_ld (pc' := 105) (v := .inr (.inr (1, 63))) dX8_by_104 rfl (fun _ _ _ => rfl) rfl rfl rfl ?_
            refine zf_iv (k := 182) (pc' := 108) (r := []) dX8_by_105 rfl rfl rfl rfl (by decide) rfl rfl rfl (zr_182 (by omega) h) (zf_kO (fun m10 h => ?_))
            refine zf_ld (pc' := 109) (v := .inl (m6.1 63 46)) dX8_by_108 rfl (fun _ _ _ => rfl) rfl rfl rfl ?_
            exact zf_ri dX8_by_109 rfl h
        · replace h := h.2 g
          refine zf_ld (pc' := 76) (v := .inr (.inr (1, 63))) dX8_by_75 rfl (fun _ _ _ => rfl) rfl rfl rfl ?_
          refine zf_gfi (pc' := 79) dX8_by_76 rfl rfl (by decide) rfl rfl ?_
          refine zf_goto (tgt := 103) dX8_by_79 rfl ?_
          refine zf_st (pc' := 104) (L2 := [some (.inr (.inr (1, 63))), some (.inl v1), some (.inl v2), some (.inl (m6.1 63 45))]) dX8_by_103 rfl (fun _ _ _ => rfl) rfl rfl rfl rfl rfl rfl ?_
          refine zf_ld (pc' := 105) (v := .inr (.inr (1, 63))) dX8_by_104 rfl (fun _ _ _ => rfl) rfl rfl rfl ?_
          refine zf_iv (k := 182) (pc' := 108) (r := []) dX8_by_105 rfl rfl rfl rfl (by decide) rfl rfl rfl (zr_182 (by omega) h) (zf_kO (fun m12 h => ?_))
          refine zf_ld (pc' := 109) (v := .inl (m6.1 63 45)) dX8_by_108 rfl (fun _ _ _ => rfl) rfl rfl rfl ?_
          exact zf_ri dX8_by_109 rfl h
      · replace h := h.2 g
        refine zf_ld (pc' := 64) (v := .inr (.inr (1, 63))) dX8_by_63 rfl (fun _ _ _ => rfl) rfl rfl rfl ?_
        refine zf_gfi (pc' := 67) dX8_by_64 rfl rfl (by decide) rfl rfl ?_
        refine zf_goto (tgt := 103) dX8_by_67 rfl ?_
        refine zf_st (pc' := 104) (L2 := [some (.inr (.inr (1, 63))), some (.inl v1), some (.inl v2), some (.inl (m6.1 63 11))]) dX8_by_103 rfl (fun _ _ _ => rfl) rfl rfl rfl rfl rfl rfl ?_
        refine zf_ld (pc' := 105) (v := .inr (.inr (1, 63))) dX8_by_104 rfl (fun _ _ _ => rfl) rfl rfl rfl ?_
        refine zf_iv (k := 182) (pc' := 108) (r := []) dX8_by_105 rfl rfl rfl rfl (by decide) rfl rfl rfl (zr_182 (by omega) h) (zf_kO (fun m14 h => ?_))
        refine zf_ld (pc' := 109) (v := .inl (m6.1 63 11)) dX8_by_108 rfl (fun _ _ _ => rfl) rfl rfl rfl ?_
        exact zf_ri dX8_by_109 rfl h
    · replace h := h.2 g
      refine zf_ld (pc' := 52) (v := .inr (.inr (1, 63))) dX8_by_51 rfl (fun _ _ _ => rfl) rfl rfl rfl ?_
      refine zf_gfi (pc' := 55) dX8_by_52 rfl rfl (by decide) rfl rfl ?_
      refine zf_goto (tgt := 103) dX8_by_55 rfl ?_
      refine zf_st (pc' := 104) (L2 := [some (.inr (.inr (1, 63))), some (.inl v1), some (.inl v2), some (.inl (m6.1 63 10))]) dX8_by_103 rfl (fun _ _ _ => rfl) rfl rfl rfl rfl rfl rfl ?_
      refine zf_ld (pc' := 105) (v := .inr (.inr (1, 63))) dX8_by_104 rfl (fun _ _ _ => rfl) rfl rfl rfl ?_
      refine zf_iv (k := 182) (pc' := 108) (r := []) dX8_by_105 rfl rfl rfl rfl (by decide) rfl rfl rfl (zr_182 (by omega) h) (zf_kO (fun m16 h => ?_))
      refine zf_ld (pc' := 109) (v := .inl (m6.1 63 10)) dX8_by_108 rfl (fun _ _ _ => rfl) rfl rfl rfl ?_
      exact zf_ri dX8_by_109 rfl h
  · replace h := h.2 g
    refine zf_ld (pc' := 36) (v := .inr (.inr (1, 63))) dX8_by_35 rfl (fun _ _ _ => rfl) rfl rfl rfl ?_
    refine zf_bi (v := (-6)) (pc' := 38) dX8_by_36 rfl rfl ?_
    refine zf_iv (k := 125) (pc' := 41) (r := []) dX8_by_38 rfl rfl rfl rfl (by decide) rfl rfl rfl (zr_125 (by omega) h) (zf_kI (fun x17 m18 h => ?_))
    exact zf_ri dX8_by_41 rfl h
def wp_183 (v1 : Int32) (v2 : Int32) (m : zf_Me) (Q : Int32 → zf_Me → Prop) : Prop := ((v2.toInt < 0 → wp_125 (-5) m (fun x1 m2 => Q x1 m2)) ∧ (v2.toInt ≥ 0 → ((v2.toInt ≤ 3 → wq_183_27 v1 v2 m Q) ∧ (v2.toInt > 3 → wp_128 (v2 - 10) m (fun b19 m20 => ((b19 = true → wq_183_27 v1 v2 m20 Q) ∧ (b19 = false → wp_125 (-5) m20 (fun x21 m22 => Q x21 m22))))))))
theorem zr_183 {d : Nat} (hd : 6 ≤ d) {v1 : Int32} {v2 : Int32} {Q : Int32 → zf_Me → Prop} {m : zf_Me} (h : wp_183 v1 v2 m Q) : zf_M d 183 [.inr (.inr (1, 63)), .inl v1, .inl v2] m (zf_I Q) := by
  obtain ⟨e, rfl⟩ : ∃ z, d = z + 1 := ⟨d - 1, by omega⟩
  unfold wp_183 at h
  refine zf_M_of (Nat.le_of_ble_eq_true rfl) zm_183 (L := [some (.inr (.inr (1, 63))), some (.inl v1), some (.inl v2), none]) rfl ?_
  refine zf_ld (pc' := 1) (v := .inl v2) dX8_by_0 rfl (fun _ _ _ => rfl) rfl rfl rfl ?_
  refine zf_if_lt (tgt := 20) (pc' := 4) dX8_by_1 rfl rfl (fun g => ?_) (fun g => ?_)
  · replace h := h.1 g
    refine zf_ld (pc' := 21) (v := .inr (.inr (1, 63))) dX8_by_20 rfl (fun _ _ _ => rfl) rfl rfl rfl ?_
    refine zf_bi (v := (-5)) (pc' := 23) dX8_by_21 rfl rfl ?_
    refine zf_iv (k := 125) (pc' := 26) (r := []) dX8_by_23 rfl rfl rfl rfl (by decide) rfl rfl rfl (zr_125 (by omega) h) (zf_kI (fun x1 m2 h => ?_))
    exact zf_ri dX8_by_26 rfl h
  · replace h := h.2 g
    refine zf_ld (pc' := 5) (v := .inl v2) dX8_by_4 rfl (fun _ _ _ => rfl) rfl rfl rfl ?_
    refine zf_ic (v := 3) (pc' := 6) dX8_by_5 rfl rfl ?_
    refine zf_icmp_le (tgt := 27) (pc' := 9) dX8_by_6 rfl rfl (fun g => ?_) (fun g => ?_)
    · replace h := h.1 g
      exact zf_lo (zq_183_27 (by omega) h) ⟨rfl, rfl, rfl, trivial⟩
    · replace h := h.2 g
      refine zf_ld (pc' := 10) (v := .inr (.inr (1, 63))) dX8_by_9 rfl (fun _ _ _ => rfl) rfl rfl rfl ?_
      refine zf_ld (pc' := 11) (v := .inl v2) dX8_by_10 rfl (fun _ _ _ => rfl) rfl rfl rfl ?_
      refine zf_bi (v := 10) (pc' := 13) dX8_by_11 rfl rfl ?_
      refine zf_in (pc' := 14) (S' := [.inl (v2 - 10), .inr (.inr (1, 63))]) dX8_by_13 rfl (fun _ _ _ => rfl) ?_
      refine zf_iv (k := 128) (pc' := 17) (r := []) dX8_by_14 rfl rfl rfl rfl (by decide) rfl rfl rfl (zr_128 (by omega) h) (zf_kB (fun b19 m20 h => ?_))
      refine zf_ib_ne (tgt := 27) (pc' := 20) dX8_by_17 rfl rfl (fun g => ?_) (fun g => ?_)
      · replace h := h.1 g
        exact zf_lo (zq_183_27 (by omega) h) ⟨rfl, rfl, rfl, trivial⟩
      · replace h := h.2 g
        refine zf_ld (pc' := 21) (v := .inr (.inr (1, 63))) dX8_by_20 rfl (fun _ _ _ => rfl) rfl rfl rfl ?_
        refine zf_bi (v := (-5)) (pc' := 23) dX8_by_21 rfl rfl ?_
        refine zf_iv (k := 125) (pc' := 26) (r := []) dX8_by_23 rfl rfl rfl rfl (by decide) rfl rfl rfl (zr_125 (by omega) h) (zf_kI (fun x21 m22 h => ?_))
        exact zf_ri dX8_by_26 rfl h
def zt_184 : zx_MT := (8, yX8_best, cX8_best, 7, (some FieldType.int), 1, 0)
theorem zm_184 : zx_m 184 = zt_184 := rfl
theorem dX8_best_r0 : zdcP cX8_best 0 [(.iload_n 1, 1), (.ifCond .lt 8, 3), (.iload_n 1, 1), (.iconst 1, 1), (.if_icmp .le 10, 3), (.aload_n 0, 1), (.bipush (-5), 2), (.invokevirtual 115, 3), (.ireturn, 1), (.iconst (-1), 1), (.istore_n 2, 1), (.iconst 0, 1), (.istore_n 3, 1), (.iconst 0, 1), (.istore 4, 2), (.iconst 0, 1)] := zdcA_ok (by decide +kernel)
theorem dX8_best_0 : decode cX8_best 0 = .ok (.iload_n 1, 1) := dX8_best_r0.1
theorem dX8_best_1 : decode cX8_best 1 = .ok (.ifCond .lt 8, 3) := dX8_best_r0.2.1
theorem dX8_best_4 : decode cX8_best 4 = .ok (.iload_n 1, 1) := dX8_best_r0.2.2.1
theorem dX8_best_5 : decode cX8_best 5 = .ok (.iconst 1, 1) := dX8_best_r0.2.2.2.1
theorem dX8_best_6 : decode cX8_best 6 = .ok (.if_icmp .le 10, 3) := dX8_best_r0.2.2.2.2.1
theorem dX8_best_9 : decode cX8_best 9 = .ok (.aload_n 0, 1) := dX8_best_r0.2.2.2.2.2.1
theorem dX8_best_10 : decode cX8_best 10 = .ok (.bipush (-5), 2) := dX8_best_r0.2.2.2.2.2.2.1
theorem dX8_best_12 : decode cX8_best 12 = .ok (.invokevirtual 115, 3) := dX8_best_r0.2.2.2.2.2.2.2.1
theorem dX8_best_15 : decode cX8_best 15 = .ok (.ireturn, 1) := dX8_best_r0.2.2.2.2.2.2.2.2.1
theorem dX8_best_16 : decode cX8_best 16 = .ok (.iconst (-1), 1) := dX8_best_r0.2.2.2.2.2.2.2.2.2.1
theorem dX8_best_17 : decode cX8_best 17 = .ok (.istore_n 2, 1) := dX8_best_r0.2.2.2.2.2.2.2.2.2.2.1
theorem dX8_best_18 : decode cX8_best 18 = .ok (.iconst 0, 1) := dX8_best_r0.2.2.2.2.2.2.2.2.2.2.2.1
theorem dX8_best_19 : decode cX8_best 19 = .ok (.istore_n 3, 1) := dX8_best_r0.2.2.2.2.2.2.2.2.2.2.2.2.1
theorem dX8_best_20 : decode cX8_best 20 = .ok (.iconst 0, 1) := dX8_best_r0.2.2.2.2.2.2.2.2.2.2.2.2.2.1
theorem dX8_best_21 : decode cX8_best 21 = .ok (.istore 4, 2) := dX8_best_r0.2.2.2.2.2.2.2.2.2.2.2.2.2.2.1
theorem dX8_best_23 : decode cX8_best 23 = .ok (.iconst 0, 1) := dX8_best_r0.2.2.2.2.2.2.2.2.2.2.2.2.2.2.2.1
theorem dX8_best_r24 : zdcP cX8_best 24 [(.istore 5, 2), (.iload 5, 2), (.iconst 4, 1), (.if_icmp .ge 79, 3), (.aload_n 0, 1), (.iload 5, 2), (.invokevirtual 281, 3), (.aload_n 0, 1), (.invokevirtual 284, 3), (.iload_n 1, 1), (.ifCond .ne 10, 3), (.aload_n 0, 1), (.getfield 275, 3), (.goto 7, 3), (.aload_n 0, 1), (.getfield 272, 3)] := zdcA_ok (by decide +kernel)
theorem dX8_best_24 : decode cX8_best 24 = .ok (.istore 5, 2) := dX8_best_r24.1
theorem dX8_best_26 : decode cX8_best 26 = .ok (.iload 5, 2) := dX8_best_r24.2.1
theorem dX8_best_28 : decode cX8_best 28 = .ok (.iconst 4, 1) := dX8_best_r24.2.2.1
theorem dX8_best_29 : decode cX8_best 29 = .ok (.if_icmp .ge 79, 3) := dX8_best_r24.2.2.2.1
theorem dX8_best_32 : decode cX8_best 32 = .ok (.aload_n 0, 1) := dX8_best_r24.2.2.2.2.1
theorem dX8_best_33 : decode cX8_best 33 = .ok (.iload 5, 2) := dX8_best_r24.2.2.2.2.2.1
theorem dX8_best_35 : decode cX8_best 35 = .ok (.invokevirtual 281, 3) := dX8_best_r24.2.2.2.2.2.2.1
theorem dX8_best_38 : decode cX8_best 38 = .ok (.aload_n 0, 1) := dX8_best_r24.2.2.2.2.2.2.2.1
theorem dX8_best_39 : decode cX8_best 39 = .ok (.invokevirtual 284, 3) := dX8_best_r24.2.2.2.2.2.2.2.2.1
theorem dX8_best_42 : decode cX8_best 42 = .ok (.iload_n 1, 1) := dX8_best_r24.2.2.2.2.2.2.2.2.2.1
theorem dX8_best_43 : decode cX8_best 43 = .ok (.ifCond .ne 10, 3) := dX8_best_r24.2.2.2.2.2.2.2.2.2.2.1
theorem dX8_best_46 : decode cX8_best 46 = .ok (.aload_n 0, 1) := dX8_best_r24.2.2.2.2.2.2.2.2.2.2.2.1
theorem dX8_best_47 : decode cX8_best 47 = .ok (.getfield 275, 3) := dX8_best_r24.2.2.2.2.2.2.2.2.2.2.2.2.1
theorem dX8_best_50 : decode cX8_best 50 = .ok (.goto 7, 3) := dX8_best_r24.2.2.2.2.2.2.2.2.2.2.2.2.2.1
theorem dX8_best_53 : decode cX8_best 53 = .ok (.aload_n 0, 1) := dX8_best_r24.2.2.2.2.2.2.2.2.2.2.2.2.2.2.1
theorem dX8_best_54 : decode cX8_best 54 = .ok (.getfield 272, 3) := dX8_best_r24.2.2.2.2.2.2.2.2.2.2.2.2.2.2.2.1
theorem dX8_best_r57 : zdcP cX8_best 57 [(.istore 6, 2), (.iload_n 2, 1), (.iconst (-1), 1), (.if_icmp .eq 29, 3), (.aload_n 0, 1), (.getfield 269, 3), (.iload_n 3, 1), (.if_icmp .lt 33, 3), (.aload_n 0, 1), (.getfield 269, 3), (.iload_n 3, 1), (.if_icmp .ne 13, 3), (.iload 6, 2), (.iload 4, 2), (.if_icmp .lt 6, 3), (.goto 15, 3)] := zdcA_ok (by decide +kernel)
theorem dX8_best_57 : decode cX8_best 57 = .ok (.istore 6, 2) := dX8_best_r57.1
theorem dX8_best_59 : decode cX8_best 59 = .ok (.iload_n 2, 1) := dX8_best_r57.2.1
theorem dX8_best_60 : decode cX8_best 60 = .ok (.iconst (-1), 1) := dX8_best_r57.2.2.1
theorem dX8_best_61 : decode cX8_best 61 = .ok (.if_icmp .eq 29, 3) := dX8_best_r57.2.2.2.1
theorem dX8_best_64 : decode cX8_best 64 = .ok (.aload_n 0, 1) := dX8_best_r57.2.2.2.2.1
theorem dX8_best_65 : decode cX8_best 65 = .ok (.getfield 269, 3) := dX8_best_r57.2.2.2.2.2.1
theorem dX8_best_68 : decode cX8_best 68 = .ok (.iload_n 3, 1) := dX8_best_r57.2.2.2.2.2.2.1
theorem dX8_best_69 : decode cX8_best 69 = .ok (.if_icmp .lt 33, 3) := dX8_best_r57.2.2.2.2.2.2.2.1
theorem dX8_best_72 : decode cX8_best 72 = .ok (.aload_n 0, 1) := dX8_best_r57.2.2.2.2.2.2.2.2.1
theorem dX8_best_73 : decode cX8_best 73 = .ok (.getfield 269, 3) := dX8_best_r57.2.2.2.2.2.2.2.2.2.1
theorem dX8_best_76 : decode cX8_best 76 = .ok (.iload_n 3, 1) := dX8_best_r57.2.2.2.2.2.2.2.2.2.2.1
theorem dX8_best_77 : decode cX8_best 77 = .ok (.if_icmp .ne 13, 3) := dX8_best_r57.2.2.2.2.2.2.2.2.2.2.2.1
theorem dX8_best_80 : decode cX8_best 80 = .ok (.iload 6, 2) := dX8_best_r57.2.2.2.2.2.2.2.2.2.2.2.2.1
theorem dX8_best_82 : decode cX8_best 82 = .ok (.iload 4, 2) := dX8_best_r57.2.2.2.2.2.2.2.2.2.2.2.2.2.1
theorem dX8_best_84 : decode cX8_best 84 = .ok (.if_icmp .lt 6, 3) := dX8_best_r57.2.2.2.2.2.2.2.2.2.2.2.2.2.2.1
theorem dX8_best_87 : decode cX8_best 87 = .ok (.goto 15, 3) := dX8_best_r57.2.2.2.2.2.2.2.2.2.2.2.2.2.2.2.1
theorem dX8_best_r90 : zdcP cX8_best 90 [(.iload 5, 2), (.istore_n 2, 1), (.aload_n 0, 1), (.getfield 269, 3), (.istore_n 3, 1), (.iload 6, 2), (.istore 4, 2), (.iinc 5 1, 3), (.goto (-79), 3), (.iload_n 2, 1), (.ireturn, 1)] := zdcA_ok (by decide +kernel)
theorem dX8_best_90 : decode cX8_best 90 = .ok (.iload 5, 2) := dX8_best_r90.1
theorem dX8_best_92 : decode cX8_best 92 = .ok (.istore_n 2, 1) := dX8_best_r90.2.1
theorem dX8_best_93 : decode cX8_best 93 = .ok (.aload_n 0, 1) := dX8_best_r90.2.2.1
theorem dX8_best_94 : decode cX8_best 94 = .ok (.getfield 269, 3) := dX8_best_r90.2.2.2.1
theorem dX8_best_97 : decode cX8_best 97 = .ok (.istore_n 3, 1) := dX8_best_r90.2.2.2.2.1
theorem dX8_best_98 : decode cX8_best 98 = .ok (.iload 6, 2) := dX8_best_r90.2.2.2.2.2.1
theorem dX8_best_100 : decode cX8_best 100 = .ok (.istore 4, 2) := dX8_best_r90.2.2.2.2.2.2.1
theorem dX8_best_102 : decode cX8_best 102 = .ok (.iinc 5 1, 3) := dX8_best_r90.2.2.2.2.2.2.2.1
theorem dX8_best_105 : decode cX8_best 105 = .ok (.goto (-79), 3) := dX8_best_r90.2.2.2.2.2.2.2.2.1
theorem dX8_best_108 : decode cX8_best 108 = .ok (.iload_n 2, 1) := dX8_best_r90.2.2.2.2.2.2.2.2.2.1
theorem dX8_best_109 : decode cX8_best 109 = .ok (.ireturn, 1) := dX8_best_r90.2.2.2.2.2.2.2.2.2.2.1
def wq_184_90 (v1 : Int32) (F26 : Int32 → Int32 → Int32 → Int32 → zf_Me → Prop) (v5 : Int32) (v6 : Int32) (m : zf_Me) (Q : Int32 → zf_Me → Prop) : Prop := F26 v5 (m.1 63 47) v6 (v5 + 1) m
theorem zq_184_90 {d : Nat} (hd : 6 ≤ d) {v1 : Int32} {F26 : Int32 → Int32 → Int32 → Int32 → zf_Me → Prop} {Q : Int32 → zf_Me → Prop} (hF26 : ∀ (v2 : Int32) (v3 : Int32) (v4 : Int32) (v5 : Int32) (m : zf_Me), F26 v2 v3 v4 v5 m → zf_W none 0 0 d zt_184 26 [some (.inr (.inr (1, 63))), some (.inl v1), some (.inl v2), some (.inl v3), some (.inl v4), some (.inl v5), none] [] m (zf_I Q)) {v5 : Int32} {v6 : Int32} {m : zf_Me} (h : wq_184_90 v1 F26 v5 v6 m Q) : zf_W none 0 0 d zt_184 90 [some (.inr (.inr (1, 63))), some (.inl v1), none, none, none, some (.inl v5), some (.inl v6)] [] m (zf_I Q) := by
  unfold wq_184_90 at h
  refine zf_ld (pc' := 92) (v := .inl v5) dX8_best_90 rfl (fun _ _ _ => rfl) rfl rfl rfl ?_
  refine zf_st (pc' := 93) (L2 := [some (.inr (.inr (1, 63))), some (.inl v1), some (.inl v5), none, none, some (.inl v5), some (.inl v6)]) dX8_best_92 rfl (fun _ _ _ => rfl) rfl rfl rfl rfl rfl rfl ?_
  refine zf_ld (pc' := 94) (v := .inr (.inr (1, 63))) dX8_best_93 rfl (fun _ _ _ => rfl) rfl rfl rfl ?_
  refine zf_gfi (pc' := 97) dX8_best_94 rfl rfl (by decide) rfl rfl ?_
  refine zf_st (pc' := 98) (L2 := [some (.inr (.inr (1, 63))), some (.inl v1), some (.inl v5), some (.inl (m.1 63 47)), none, some (.inl v5), some (.inl v6)]) dX8_best_97 rfl (fun _ _ _ => rfl) rfl rfl rfl rfl rfl rfl ?_
  refine zf_ld (pc' := 100) (v := .inl v6) dX8_best_98 rfl (fun _ _ _ => rfl) rfl rfl rfl ?_
  refine zf_st (pc' := 102) (L2 := [some (.inr (.inr (1, 63))), some (.inl v1), some (.inl v5), some (.inl (m.1 63 47)), some (.inl v6), some (.inl v5), some (.inl v6)]) dX8_best_100 rfl (fun _ _ _ => rfl) rfl rfl rfl rfl rfl rfl ?_
  refine zf_ii (y := (v5 + 1)) (L2 := [some (.inr (.inr (1, 63))), some (.inl v1), some (.inl v5), some (.inl (m.1 63 47)), some (.inl v6), some (.inl (v5 + 1)), some (.inl v6)]) (pc' := 105) dX8_best_102 rfl rfl rfl rfl rfl ?_
  refine zf_goto (tgt := 26) dX8_best_105 rfl ?_
  exact zf_lo (hF26 _ _ _ _ _ h) ⟨rfl, rfl, rfl, rfl, rfl, rfl, trivial⟩
def wq_184_57 (v1 : Int32) (F26 : Int32 → Int32 → Int32 → Int32 → zf_Me → Prop) (v2 : Int32) (v3 : Int32) (v4 : Int32) (v5 : Int32) (u0 : Int32) (m : zf_Me) (Q : Int32 → zf_Me → Prop) : Prop := ((v2.toInt = (-1) → wq_184_90 v1 F26 v5 u0 m Q) ∧ (¬ v2.toInt = (-1) → ((((m.1 63 47)).toInt < v3.toInt → F26 v2 v3 v4 (v5 + 1) m) ∧ (((m.1 63 47)).toInt ≥ v3.toInt → ((¬ ((m.1 63 47)).toInt = v3.toInt → wq_184_90 v1 F26 v5 u0 m Q) ∧ (((m.1 63 47)).toInt = v3.toInt → ((u0.toInt < v4.toInt → wq_184_90 v1 F26 v5 u0 m Q) ∧ (u0.toInt ≥ v4.toInt → F26 v2 v3 v4 (v5 + 1) m))))))))
theorem zq_184_57 {d : Nat} (hd : 6 ≤ d) {v1 : Int32} {F26 : Int32 → Int32 → Int32 → Int32 → zf_Me → Prop} {Q : Int32 → zf_Me → Prop} (hF26 : ∀ (v2 : Int32) (v3 : Int32) (v4 : Int32) (v5 : Int32) (m : zf_Me), F26 v2 v3 v4 v5 m → zf_W none 0 0 d zt_184 26 [some (.inr (.inr (1, 63))), some (.inl v1), some (.inl v2), some (.inl v3), some (.inl v4), some (.inl v5), none] [] m (zf_I Q)) {v2 : Int32} {v3 : Int32} {v4 : Int32} {v5 : Int32} {u0 : Int32} {m : zf_Me} (h : wq_184_57 v1 F26 v2 v3 v4 v5 u0 m Q) : zf_W none 0 0 d zt_184 57 [some (.inr (.inr (1, 63))), some (.inl v1), some (.inl v2), some (.inl v3), some (.inl v4), some (.inl v5), none] [.inl u0] m (zf_I Q) := by
  unfold wq_184_57 at h
  refine zf_st (pc' := 59) (L2 := [some (.inr (.inr (1, 63))), some (.inl v1), some (.inl v2), some (.inl v3), some (.inl v4), some (.inl v5), some (.inl u0)]) dX8_best_57 rfl (fun _ _ _ => rfl) rfl rfl rfl rfl rfl rfl ?_
  refine zf_ld (pc' := 60) (v := .inl v2) dX8_best_59 rfl (fun _ _ _ => rfl) rfl rfl rfl ?_
  refine zf_ic (v := (-1)) (pc' := 61) dX8_best_60 rfl rfl ?_
  refine zf_icmp_eq (tgt := 90) (pc' := 64) dX8_best_61 rfl rfl (fun g => ?_) (fun g => ?_)
  · replace h := h.1 g
    exact zf_lo (zq_184_90 (by omega) hF26 h) ⟨rfl, rfl, rfl, rfl, trivial⟩
  · replace h := h.2 g
    refine zf_ld (pc' := 65) (v := .inr (.inr (1, 63))) dX8_best_64 rfl (fun _ _ _ => rfl) rfl rfl rfl ?_
    refine zf_gfi (pc' := 68) dX8_best_65 rfl rfl (by decide) rfl rfl ?_
    refine zf_ld (pc' := 69) (v := .inl v3) dX8_best_68 rfl (fun _ _ _ => rfl) rfl rfl rfl ?_
    refine zf_icmp_lt (tgt := 102) (pc' := 72) dX8_best_69 rfl rfl (fun g => ?_) (fun g => ?_)
    · replace h := h.1 g
      refine zf_ii (y := (v5 + 1)) (L2 := [some (.inr (.inr (1, 63))), some (.inl v1), some (.inl v2), some (.inl v3), some (.inl v4), some (.inl (v5 + 1)), some (.inl u0)]) (pc' := 105) dX8_best_102 rfl rfl rfl rfl rfl ?_
      refine zf_goto (tgt := 26) dX8_best_105 rfl ?_
      exact zf_lo (hF26 _ _ _ _ _ h) ⟨rfl, rfl, rfl, rfl, rfl, rfl, trivial⟩
    · replace h := h.2 g
      refine zf_ld (pc' := 73) (v := .inr (.inr (1, 63))) dX8_best_72 rfl (fun _ _ _ => rfl) rfl rfl rfl ?_
      refine zf_gfi (pc' := 76) dX8_best_73 rfl rfl (by decide) rfl rfl ?_
      refine zf_ld (pc' := 77) (v := .inl v3) dX8_best_76 rfl (fun _ _ _ => rfl) rfl rfl rfl ?_
      refine zf_icmp_ne (tgt := 90) (pc' := 80) dX8_best_77 rfl rfl (fun g => ?_) (fun g => ?_)
      · replace h := h.1 g
        exact zf_lo (zq_184_90 (by omega) hF26 h) ⟨rfl, rfl, rfl, rfl, trivial⟩
      · replace h := h.2 g
        refine zf_ld (pc' := 82) (v := .inl u0) dX8_best_80 rfl (fun _ _ _ => rfl) rfl rfl rfl ?_
        refine zf_ld (pc' := 84) (v := .inl v4) dX8_best_82 rfl (fun _ _ _ => rfl) rfl rfl rfl ?_
        refine zf_icmp_lt (tgt := 90) (pc' := 87) dX8_best_84 rfl rfl (fun g => ?_) (fun g => ?_)
        · replace h := h.1 g
          exact zf_lo (zq_184_90 (by omega) hF26 h) ⟨rfl, rfl, rfl, rfl, trivial⟩
        · replace h := h.2 g
          refine zf_goto (tgt := 102) dX8_best_87 rfl ?_
          refine zf_ii (y := (v5 + 1)) (L2 := [some (.inr (.inr (1, 63))), some (.inl v1), some (.inl v2), some (.inl v3), some (.inl v4), some (.inl (v5 + 1)), some (.inl u0)]) (pc' := 105) dX8_best_102 rfl rfl rfl rfl rfl ?_
          refine zf_goto (tgt := 26) dX8_best_105 rfl ?_
          exact zf_lo (hF26 _ _ _ _ _ h) ⟨rfl, rfl, rfl, rfl, rfl, rfl, trivial⟩
def wq_184_26 (v1 : Int32) (Q : Int32 → zf_Me → Prop) : Nat → Int32 → Int32 → Int32 → Int32 → zf_Me → Prop
  | 0, _, _, _, _, _ => False
  | n + 1, v2, v3, v4, v5, m => ((v5.toInt ≥ 4 → Q v2 m) ∧ (v5.toInt < 4 → wp_181 v5 m (fun m4 => wp_182 m4 (fun m6 => ((¬ v1.toInt = 0 → wq_184_57 v1 (wq_184_26 v1 Q n) v2 v3 v4 v5 (m6.1 63 48) m6 Q) ∧ (v1.toInt = 0 → wq_184_57 v1 (wq_184_26 v1 Q n) v2 v3 v4 v5 (m6.1 63 49) m6 Q))))))
theorem zq_184_26 {d : Nat} (hd : 6 ≤ d) {v1 : Int32} {Q : Int32 → zf_Me → Prop} : ∀ (n : Nat) (v2 : Int32) (v3 : Int32) (v4 : Int32) (v5 : Int32) (m : zf_Me), wq_184_26 v1 Q n v2 v3 v4 v5 m → zf_W none 0 0 d zt_184 26 [some (.inr (.inr (1, 63))), some (.inl v1), some (.inl v2), some (.inl v3), some (.inl v4), some (.inl v5), none] [] m (zf_I Q) := by
  obtain ⟨e, rfl⟩ : ∃ z, d = z + 1 := ⟨d - 1, by omega⟩
  intro n
  induction n with
  | zero =>
    intro v2 v3 v4 v5 m h
    exact h.elim
  | succ n ih =>
    intro v2 v3 v4 v5 m h
    unfold wq_184_26 at h
    refine zf_ld (pc' := 28) (v := .inl v5) dX8_best_26 rfl (fun _ _ _ => rfl) rfl rfl rfl ?_
    refine zf_ic (v := 4) (pc' := 29) dX8_best_28 rfl rfl ?_
    refine zf_icmp_ge (tgt := 108) (pc' := 32) dX8_best_29 rfl rfl (fun g => ?_) (fun g => ?_)
    · replace h := h.1 g
      refine zf_ld (pc' := 109) (v := .inl v2) dX8_best_108 rfl (fun _ _ _ => rfl) rfl rfl rfl ?_
      exact zf_ri dX8_best_109 rfl h
    · replace h := h.2 g
      refine zf_ld (pc' := 33) (v := .inr (.inr (1, 63))) dX8_best_32 rfl (fun _ _ _ => rfl) rfl rfl rfl ?_
      refine zf_ld (pc' := 35) (v := .inl v5) dX8_best_33 rfl (fun _ _ _ => rfl) rfl rfl rfl ?_
      refine zf_iv (k := 181) (pc' := 38) (r := []) dX8_best_35 rfl rfl rfl rfl (by decide) rfl rfl rfl (zr_181 (by omega) h) (zf_kO (fun m4 h => ?_))
      refine zf_ld (pc' := 39) (v := .inr (.inr (1, 63))) dX8_best_38 rfl (fun _ _ _ => rfl) rfl rfl rfl ?_
      refine zf_iv (k := 182) (pc' := 42) (r := []) dX8_best_39 rfl rfl rfl rfl (by decide) rfl rfl rfl (zr_182 (by omega) h) (zf_kO (fun m6 h => ?_))
      refine zf_ld (pc' := 43) (v := .inl v1) dX8_best_42 rfl (fun _ _ _ => rfl) rfl rfl rfl ?_
      refine zf_if_ne (tgt := 53) (pc' := 46) dX8_best_43 rfl rfl (fun g => ?_) (fun g => ?_)
      · replace h := h.1 g
        refine zf_ld (pc' := 54) (v := .inr (.inr (1, 63))) dX8_best_53 rfl (fun _ _ _ => rfl) rfl rfl rfl ?_
        refine zf_gfi (pc' := 57) dX8_best_54 rfl rfl (by decide) rfl rfl ?_
        exact zf_lo (zq_184_57 (by omega) ih h) ⟨rfl, rfl, rfl, rfl, rfl, rfl, trivial⟩
      · replace h := h.2 g
        refine zf_ld (pc' := 47) (v := .inr (.inr (1, 63))) dX8_best_46 rfl (fun _ _ _ => rfl) rfl rfl rfl ?_
        refine zf_gfi (pc' := 50) dX8_best_47 rfl rfl (by decide) rfl rfl ?_
        refine zf_goto (tgt := 57) dX8_best_50 rfl ?_
        exact zf_lo (zq_184_57 (by omega) ih h) ⟨rfl, rfl, rfl, rfl, rfl, rfl, trivial⟩
def wp_184 (v1 : Int32) (m : zf_Me) (Q : Int32 → zf_Me → Prop) : Prop := ((v1.toInt < 0 → wp_125 (-5) m (fun x1 m2 => Q x1 m2)) ∧ (v1.toInt ≥ 0 → ((v1.toInt ≤ 1 → (∃ n26, wq_184_26 v1 Q n26 (-1) 0 0 0 m)) ∧ (v1.toInt > 1 → wp_125 (-5) m (fun x7 m8 => Q x7 m8)))))
theorem zr_184 {d : Nat} (hd : 6 ≤ d) {v1 : Int32} {Q : Int32 → zf_Me → Prop} {m : zf_Me} (h : wp_184 v1 m Q) : zf_M d 184 [.inr (.inr (1, 63)), .inl v1] m (zf_I Q) := by
  obtain ⟨e, rfl⟩ : ∃ z, d = z + 1 := ⟨d - 1, by omega⟩
  unfold wp_184 at h
  refine zf_M_of (Nat.le_of_ble_eq_true rfl) zm_184 (L := [some (.inr (.inr (1, 63))), some (.inl v1), none, none, none, none, none]) rfl ?_
  refine zf_ld (pc' := 1) (v := .inl v1) dX8_best_0 rfl (fun _ _ _ => rfl) rfl rfl rfl ?_
  refine zf_if_lt (tgt := 9) (pc' := 4) dX8_best_1 rfl rfl (fun g => ?_) (fun g => ?_)
  · replace h := h.1 g
    refine zf_ld (pc' := 10) (v := .inr (.inr (1, 63))) dX8_best_9 rfl (fun _ _ _ => rfl) rfl rfl rfl ?_
    refine zf_bi (v := (-5)) (pc' := 12) dX8_best_10 rfl rfl ?_
    refine zf_iv (k := 125) (pc' := 15) (r := []) dX8_best_12 rfl rfl rfl rfl (by decide) rfl rfl rfl (zr_125 (by omega) h) (zf_kI (fun x1 m2 h => ?_))
    exact zf_ri dX8_best_15 rfl h
  · replace h := h.2 g
    refine zf_ld (pc' := 5) (v := .inl v1) dX8_best_4 rfl (fun _ _ _ => rfl) rfl rfl rfl ?_
    refine zf_ic (v := 1) (pc' := 6) dX8_best_5 rfl rfl ?_
    refine zf_icmp_le (tgt := 16) (pc' := 9) dX8_best_6 rfl rfl (fun g => ?_) (fun g => ?_)
    · replace h := h.1 g
      refine zf_ic (v := (-1)) (pc' := 17) dX8_best_16 rfl rfl ?_
      refine zf_st (pc' := 18) (L2 := [some (.inr (.inr (1, 63))), some (.inl v1), some (.inl (-1)), none, none, none, none]) dX8_best_17 rfl (fun _ _ _ => rfl) rfl rfl rfl rfl rfl rfl ?_
      refine zf_ic (v := 0) (pc' := 19) dX8_best_18 rfl rfl ?_
      refine zf_st (pc' := 20) (L2 := [some (.inr (.inr (1, 63))), some (.inl v1), some (.inl (-1)), some (.inl 0), none, none, none]) dX8_best_19 rfl (fun _ _ _ => rfl) rfl rfl rfl rfl rfl rfl ?_
      refine zf_ic (v := 0) (pc' := 21) dX8_best_20 rfl rfl ?_
      refine zf_st (pc' := 23) (L2 := [some (.inr (.inr (1, 63))), some (.inl v1), some (.inl (-1)), some (.inl 0), some (.inl 0), none, none]) dX8_best_21 rfl (fun _ _ _ => rfl) rfl rfl rfl rfl rfl rfl ?_
      refine zf_ic (v := 0) (pc' := 24) dX8_best_23 rfl rfl ?_
      refine zf_st (pc' := 26) (L2 := [some (.inr (.inr (1, 63))), some (.inl v1), some (.inl (-1)), some (.inl 0), some (.inl 0), some (.inl 0), none]) dX8_best_24 rfl (fun _ _ _ => rfl) rfl rfl rfl rfl rfl rfl ?_
      obtain ⟨n26, h⟩ := h
      exact zf_lo (zq_184_26 (by omega) n26 _ _ _ _ _ h) ⟨rfl, rfl, rfl, rfl, rfl, rfl, trivial⟩
    · replace h := h.2 g
      refine zf_ld (pc' := 10) (v := .inr (.inr (1, 63))) dX8_best_9 rfl (fun _ _ _ => rfl) rfl rfl rfl ?_
      refine zf_bi (v := (-5)) (pc' := 12) dX8_best_10 rfl rfl ?_
      refine zf_iv (k := 125) (pc' := 15) (r := []) dX8_best_12 rfl rfl rfl rfl (by decide) rfl rfl rfl (zr_125 (by omega) h) (zf_kI (fun x7 m8 h => ?_))
      exact zf_ri dX8_best_15 rfl h
