section
/-! part 30: methods 70..: laid by wip/flat/dec.py -/
def zt_70 : zx_MT := (7, yX7_copy, cX7_copy, 9, (some FieldType.int), 5, 0)
theorem zm_70 : zx_m 70 = zt_70 := rfl
theorem dX7_copy_r0 : zdcP cX7_copy 0 [(.aload_n 0, 1), (.iload_n 1, 1), (.iload_n 2, 1), (.invokevirtual 100, 3), (.istore 6, 2), (.iload 6, 2), (.ifCond .eq 10, 3), (.aload_n 0, 1), (.iload 6, 2), (.invokevirtual 82, 3), (.ireturn, 1), (.iload 5, 2), (.ifCond .ge 9, 3), (.aload_n 0, 1), (.iconst 4, 1), (.invokevirtual 82, 3)] := zdcA_ok (by decide +kernel)
theorem dX7_copy_0 : decode cX7_copy 0 = .ok (.aload_n 0, 1) := dX7_copy_r0.1
theorem dX7_copy_1 : decode cX7_copy 1 = .ok (.iload_n 1, 1) := dX7_copy_r0.2.1
theorem dX7_copy_2 : decode cX7_copy 2 = .ok (.iload_n 2, 1) := dX7_copy_r0.2.2.1
theorem dX7_copy_3 : decode cX7_copy 3 = .ok (.invokevirtual 100, 3) := dX7_copy_r0.2.2.2.1
theorem dX7_copy_6 : decode cX7_copy 6 = .ok (.istore 6, 2) := dX7_copy_r0.2.2.2.2.1
theorem dX7_copy_8 : decode cX7_copy 8 = .ok (.iload 6, 2) := dX7_copy_r0.2.2.2.2.2.1
theorem dX7_copy_10 : decode cX7_copy 10 = .ok (.ifCond .eq 10, 3) := dX7_copy_r0.2.2.2.2.2.2.1
theorem dX7_copy_13 : decode cX7_copy 13 = .ok (.aload_n 0, 1) := dX7_copy_r0.2.2.2.2.2.2.2.1
theorem dX7_copy_14 : decode cX7_copy 14 = .ok (.iload 6, 2) := dX7_copy_r0.2.2.2.2.2.2.2.2.1
theorem dX7_copy_16 : decode cX7_copy 16 = .ok (.invokevirtual 82, 3) := dX7_copy_r0.2.2.2.2.2.2.2.2.2.1
theorem dX7_copy_19 : decode cX7_copy 19 = .ok (.ireturn, 1) := dX7_copy_r0.2.2.2.2.2.2.2.2.2.2.1
theorem dX7_copy_20 : decode cX7_copy 20 = .ok (.iload 5, 2) := dX7_copy_r0.2.2.2.2.2.2.2.2.2.2.2.1
theorem dX7_copy_22 : decode cX7_copy 22 = .ok (.ifCond .ge 9, 3) := dX7_copy_r0.2.2.2.2.2.2.2.2.2.2.2.2.1
theorem dX7_copy_25 : decode cX7_copy 25 = .ok (.aload_n 0, 1) := dX7_copy_r0.2.2.2.2.2.2.2.2.2.2.2.2.2.1
theorem dX7_copy_26 : decode cX7_copy 26 = .ok (.iconst 4, 1) := dX7_copy_r0.2.2.2.2.2.2.2.2.2.2.2.2.2.2.1
theorem dX7_copy_27 : decode cX7_copy 27 = .ok (.invokevirtual 82, 3) := dX7_copy_r0.2.2.2.2.2.2.2.2.2.2.2.2.2.2.2.1
theorem dX7_copy_r30 : zdcP cX7_copy 30 [(.ireturn, 1), (.aload_n 0, 1), (.getfield 11, 3), (.iload_n 1, 1), (.aaload, 1), (.astore 7, 2), (.aload_n 0, 1), (.getfield 11, 3), (.iload_n 2, 1), (.aaload, 1), (.astore 8, 2), (.aload 7, 2), (.iload_n 3, 1), (.iload 5, 2), (.invokevirtual 104, 3), (.ifCond .eq 15, 3)] := zdcA_ok (by decide +kernel)
theorem dX7_copy_30 : decode cX7_copy 30 = .ok (.ireturn, 1) := dX7_copy_r30.1
theorem dX7_copy_31 : decode cX7_copy 31 = .ok (.aload_n 0, 1) := dX7_copy_r30.2.1
theorem dX7_copy_32 : decode cX7_copy 32 = .ok (.getfield 11, 3) := dX7_copy_r30.2.2.1
theorem dX7_copy_35 : decode cX7_copy 35 = .ok (.iload_n 1, 1) := dX7_copy_r30.2.2.2.1
theorem dX7_copy_36 : decode cX7_copy 36 = .ok (.aaload, 1) := dX7_copy_r30.2.2.2.2.1
theorem dX7_copy_37 : decode cX7_copy 37 = .ok (.astore 7, 2) := dX7_copy_r30.2.2.2.2.2.1
theorem dX7_copy_39 : decode cX7_copy 39 = .ok (.aload_n 0, 1) := dX7_copy_r30.2.2.2.2.2.2.1
theorem dX7_copy_40 : decode cX7_copy 40 = .ok (.getfield 11, 3) := dX7_copy_r30.2.2.2.2.2.2.2.1
theorem dX7_copy_43 : decode cX7_copy 43 = .ok (.iload_n 2, 1) := dX7_copy_r30.2.2.2.2.2.2.2.2.1
theorem dX7_copy_44 : decode cX7_copy 44 = .ok (.aaload, 1) := dX7_copy_r30.2.2.2.2.2.2.2.2.2.1
theorem dX7_copy_45 : decode cX7_copy 45 = .ok (.astore 8, 2) := dX7_copy_r30.2.2.2.2.2.2.2.2.2.2.1
theorem dX7_copy_47 : decode cX7_copy 47 = .ok (.aload 7, 2) := dX7_copy_r30.2.2.2.2.2.2.2.2.2.2.2.1
theorem dX7_copy_49 : decode cX7_copy 49 = .ok (.iload_n 3, 1) := dX7_copy_r30.2.2.2.2.2.2.2.2.2.2.2.2.1
theorem dX7_copy_50 : decode cX7_copy 50 = .ok (.iload 5, 2) := dX7_copy_r30.2.2.2.2.2.2.2.2.2.2.2.2.2.1
theorem dX7_copy_52 : decode cX7_copy 52 = .ok (.invokevirtual 104, 3) := dX7_copy_r30.2.2.2.2.2.2.2.2.2.2.2.2.2.2.1
theorem dX7_copy_55 : decode cX7_copy 55 = .ok (.ifCond .eq 15, 3) := dX7_copy_r30.2.2.2.2.2.2.2.2.2.2.2.2.2.2.2.1
theorem dX7_copy_r58 : zdcP cX7_copy 58 [(.aload 8, 2), (.iload 4, 2), (.iload 5, 2), (.invokevirtual 104, 3), (.ifCond .ne 9, 3), (.aload_n 0, 1), (.iconst 5, 1), (.invokevirtual 82, 3), (.ireturn, 1), (.aload 7, 2), (.getfield 108, 3), (.iload_n 3, 1), (.aload 8, 2), (.getfield 108, 3), (.iload 4, 2), (.iload 5, 2)] := zdcA_ok (by decide +kernel)
theorem dX7_copy_58 : decode cX7_copy 58 = .ok (.aload 8, 2) := dX7_copy_r58.1
theorem dX7_copy_60 : decode cX7_copy 60 = .ok (.iload 4, 2) := dX7_copy_r58.2.1
theorem dX7_copy_62 : decode cX7_copy 62 = .ok (.iload 5, 2) := dX7_copy_r58.2.2.1
theorem dX7_copy_64 : decode cX7_copy 64 = .ok (.invokevirtual 104, 3) := dX7_copy_r58.2.2.2.1
theorem dX7_copy_67 : decode cX7_copy 67 = .ok (.ifCond .ne 9, 3) := dX7_copy_r58.2.2.2.2.1
theorem dX7_copy_70 : decode cX7_copy 70 = .ok (.aload_n 0, 1) := dX7_copy_r58.2.2.2.2.2.1
theorem dX7_copy_71 : decode cX7_copy 71 = .ok (.iconst 5, 1) := dX7_copy_r58.2.2.2.2.2.2.1
theorem dX7_copy_72 : decode cX7_copy 72 = .ok (.invokevirtual 82, 3) := dX7_copy_r58.2.2.2.2.2.2.2.1
theorem dX7_copy_75 : decode cX7_copy 75 = .ok (.ireturn, 1) := dX7_copy_r58.2.2.2.2.2.2.2.2.1
theorem dX7_copy_76 : decode cX7_copy 76 = .ok (.aload 7, 2) := dX7_copy_r58.2.2.2.2.2.2.2.2.2.1
theorem dX7_copy_78 : decode cX7_copy 78 = .ok (.getfield 108, 3) := dX7_copy_r58.2.2.2.2.2.2.2.2.2.2.1
theorem dX7_copy_81 : decode cX7_copy 81 = .ok (.iload_n 3, 1) := dX7_copy_r58.2.2.2.2.2.2.2.2.2.2.2.1
theorem dX7_copy_82 : decode cX7_copy 82 = .ok (.aload 8, 2) := dX7_copy_r58.2.2.2.2.2.2.2.2.2.2.2.2.1
theorem dX7_copy_84 : decode cX7_copy 84 = .ok (.getfield 108, 3) := dX7_copy_r58.2.2.2.2.2.2.2.2.2.2.2.2.2.1
theorem dX7_copy_87 : decode cX7_copy 87 = .ok (.iload 4, 2) := dX7_copy_r58.2.2.2.2.2.2.2.2.2.2.2.2.2.2.1
theorem dX7_copy_89 : decode cX7_copy 89 = .ok (.iload 5, 2) := dX7_copy_r58.2.2.2.2.2.2.2.2.2.2.2.2.2.2.2.1
theorem dX7_copy_r91 : zdcP cX7_copy 91 [(.invokestatic 112, 3), (.iconst 1, 1), (.ireturn, 1)] := zdcA_ok (by decide +kernel)
theorem dX7_copy_91 : decode cX7_copy 91 = .ok (.invokestatic 112, 3) := dX7_copy_r91.1
theorem dX7_copy_94 : decode cX7_copy 94 = .ok (.iconst 1, 1) := dX7_copy_r91.2.1
theorem dX7_copy_95 : decode cX7_copy 95 = .ok (.ireturn, 1) := dX7_copy_r91.2.2.1
def wp_70 (v1 : Int32) (v2 : Int32) (v3 : Int32) (v4 : Int32) (v5 : Int32) (m : zf_Me) (Q : Int32 → zf_Me → Prop) : Prop := wp_112 v1 v2 m (fun x1 m2 => ((x1.toInt = 0 → ((v5.toInt ≥ 0 → ((0 ≤ (Int32.toInt v1) ∧ (Int32.toInt v1) < 8) ∧ ((0 ≤ (Int32.toInt v2) ∧ (Int32.toInt v2) < 8) ∧ wp_21 (47 + 2 * (Int32.toInt v1).toNat) (48 + 2 * (Int32.toInt v1).toNat) v3 v5 m2 (fun b7 m8 => ((b7 = false → wp_109 5 m8 (fun x9 m10 => Q x9 m10)) ∧ (b7 = true → wp_21 (47 + 2 * (Int32.toInt v2).toNat) (48 + 2 * (Int32.toInt v2).toNat) v4 v5 m8 (fun b11 m12 => ((b11 = true → ((0 ≤ (Int32.toInt v3) ∧ 0 ≤ (Int32.toInt v4) ∧ 0 ≤ (Int32.toInt v5) ∧ (Int32.toInt v3) + (Int32.toInt v5) ≤ (160 : Int) ∧ (Int32.toInt v4) + (Int32.toInt v5) ≤ (160 : Int)) ∧ ∀ m13, m13 = zf_cpl m12 (48 + 2 * (Int32.toInt v1).toNat) (48 + 2 * (Int32.toInt v2).toNat) (Int32.toInt v3).toNat (Int32.toInt v4).toNat (Int32.toInt v5).toNat → Q 1 m13)) ∧ (b11 = false → wp_109 5 m12 (fun x15 m16 => Q x15 m16)))))))))) ∧ (v5.toInt < 0 → wp_109 4 m2 (fun x17 m18 => Q x17 m18)))) ∧ (¬ x1.toInt = 0 → wp_109 x1 m2 (fun x19 m20 => Q x19 m20))))
theorem zr_70 {d : Nat} (hd : 3 ≤ d) {v1 : Int32} {v2 : Int32} {v3 : Int32} {v4 : Int32} {v5 : Int32} {Q : Int32 → zf_Me → Prop} {m : zf_Me} (h : wp_70 v1 v2 v3 v4 v5 m Q) : zf_M d 70 [.inr (.inr (1, 0)), .inl v1, .inl v2, .inl v3, .inl v4, .inl v5] m (zf_I Q) := by
  obtain ⟨e, rfl⟩ : ∃ z, d = z + 1 := ⟨d - 1, by omega⟩
  unfold wp_70 at h
  refine zf_M_of (Nat.le_of_ble_eq_true rfl) zm_70 (L := [some (.inr (.inr (1, 0))), some (.inl v1), some (.inl v2), some (.inl v3), some (.inl v4), some (.inl v5), none, none, none]) rfl ?_
  refine zf_ld (pc' := 1) (v := .inr (.inr (1, 0))) dX7_copy_0 rfl (fun _ _ _ => rfl) rfl rfl rfl ?_
  refine zf_ld (pc' := 2) (v := .inl v1) dX7_copy_1 rfl (fun _ _ _ => rfl) rfl rfl rfl ?_
  refine zf_ld (pc' := 3) (v := .inl v2) dX7_copy_2 rfl (fun _ _ _ => rfl) rfl rfl rfl ?_
  refine zf_iv (k := 112) (pc' := 6) (r := []) dX7_copy_3 rfl rfl rfl rfl (by decide) rfl rfl rfl (zr_112 (by omega) h) (zf_kI (fun x1 m2 h => ?_))
  refine zf_st (pc' := 8) (L2 := [some (.inr (.inr (1, 0))), some (.inl v1), some (.inl v2), some (.inl v3), some (.inl v4), some (.inl v5), some (.inl x1), none, none]) dX7_copy_6 rfl (fun _ _ _ => rfl) rfl rfl rfl rfl rfl rfl ?_
  refine zf_ld (pc' := 10) (v := .inl x1) dX7_copy_8 rfl (fun _ _ _ => rfl) rfl rfl rfl ?_
  refine zf_if_eq (tgt := 20) (pc' := 13) dX7_copy_10 rfl rfl (fun g => ?_) (fun g => ?_)
  · replace h := h.1 g
    refine zf_ld (pc' := 22) (v := .inl v5) dX7_copy_20 rfl (fun _ _ _ => rfl) rfl rfl rfl ?_
    refine zf_if_ge (tgt := 31) (pc' := 25) dX7_copy_22 rfl rfl (fun g => ?_) (fun g => ?_)
    · replace h := h.1 g
      refine zf_ld (pc' := 32) (v := .inr (.inr (1, 0))) dX7_copy_31 rfl (fun _ _ _ => rfl) rfl rfl rfl ?_
      refine zf_gfr (pc' := 35) (b := 1) dX7_copy_32 rfl rfl (by decide) rfl rfl ?_
      refine zf_ld (pc' := 36) (v := .inl v1) dX7_copy_35 rfl (fun _ _ _ => rfl) rfl rfl rfl ?_
      refine zf_aal (b := 47) (n := 8) (pc' := 37) dX7_copy_36 rfl (by decide) rfl (by decide) rfl h.1 zf_row1 ?_
      have hb3 := h.1
      replace h := h.2
      have hx4 : zf_shelf (47 + 2 * (Int32.toInt v1).toNat) (48 + 2 * (Int32.toInt v1).toNat) := zf_shelves (by omega)
      refine zf_st (pc' := 39) (L2 := [some (.inr (.inr (1, 0))), some (.inl v1), some (.inl v2), some (.inl v3), some (.inl v4), some (.inl v5), some (.inl x1), some (.inr (.inr (1, (47 + 2 * (Int32.toInt v1).toNat)))), none]) dX7_copy_37 rfl (fun _ _ _ => rfl) rfl rfl rfl rfl rfl rfl ?_
      refine zf_ld (pc' := 40) (v := .inr (.inr (1, 0))) dX7_copy_39 rfl (fun _ _ _ => rfl) rfl rfl rfl ?_
      refine zf_gfr (pc' := 43) (b := 1) dX7_copy_40 rfl rfl (by decide) rfl rfl ?_
      refine zf_ld (pc' := 44) (v := .inl v2) dX7_copy_43 rfl (fun _ _ _ => rfl) rfl rfl rfl ?_
      refine zf_aal (b := 47) (n := 8) (pc' := 45) dX7_copy_44 rfl (by decide) rfl (by decide) rfl h.1 zf_row1 ?_
      have hb5 := h.1
      replace h := h.2
      have hx6 : zf_shelf (47 + 2 * (Int32.toInt v2).toNat) (48 + 2 * (Int32.toInt v2).toNat) := zf_shelves (by omega)
      refine zf_st (pc' := 47) (L2 := [some (.inr (.inr (1, 0))), some (.inl v1), some (.inl v2), some (.inl v3), some (.inl v4), some (.inl v5), some (.inl x1), some (.inr (.inr (1, (47 + 2 * (Int32.toInt v1).toNat)))), some (.inr (.inr (1, (47 + 2 * (Int32.toInt v2).toNat))))]) dX7_copy_45 rfl (fun _ _ _ => rfl) rfl rfl rfl rfl rfl rfl ?_
      refine zf_ld (pc' := 49) (v := .inr (.inr (1, (47 + 2 * (Int32.toInt v1).toNat)))) dX7_copy_47 rfl (fun _ _ _ => rfl) rfl rfl rfl ?_
      refine zf_ld (pc' := 50) (v := .inl v3) dX7_copy_49 rfl (fun _ _ _ => rfl) rfl rfl rfl ?_
      refine zf_ld (pc' := 52) (v := .inl v5) dX7_copy_50 rfl (fun _ _ _ => rfl) rfl rfl rfl ?_
      refine zf_iv (k := 21) (pc' := 55) (r := []) dX7_copy_52 rfl rfl rfl rfl hx4.1 hx4.2.1 rfl rfl (zr_21 (by omega) hx4 h) (zf_kB (fun b7 m8 h => ?_))
      refine zf_ib_eq (tgt := 70) (pc' := 58) dX7_copy_55 rfl rfl (fun g => ?_) (fun g => ?_)
      · replace h := h.1 g
        refine zf_ld (pc' := 71) (v := .inr (.inr (1, 0))) dX7_copy_70 rfl (fun _ _ _ => rfl) rfl rfl rfl ?_
        refine zf_ic (v := 5) (pc' := 72) dX7_copy_71 rfl rfl ?_
        refine zf_iv (k := 109) (pc' := 75) (r := []) dX7_copy_72 rfl rfl rfl rfl (by decide) rfl rfl rfl (zr_109 (by omega) h) (zf_kI (fun x9 m10 h => ?_))
        exact zf_ri dX7_copy_75 rfl h
      · replace h := h.2 g
        refine zf_ld (pc' := 60) (v := .inr (.inr (1, (47 + 2 * (Int32.toInt v2).toNat)))) dX7_copy_58 rfl (fun _ _ _ => rfl) rfl rfl rfl ?_
        refine zf_ld (pc' := 62) (v := .inl v4) dX7_copy_60 rfl (fun _ _ _ => rfl) rfl rfl rfl ?_
        refine zf_ld (pc' := 64) (v := .inl v5) dX7_copy_62 rfl (fun _ _ _ => rfl) rfl rfl rfl ?_
        refine zf_iv (k := 21) (pc' := 67) (r := []) dX7_copy_64 rfl rfl rfl rfl hx6.1 hx6.2.1 rfl rfl (zr_21 (by omega) hx6 h) (zf_kB (fun b11 m12 h => ?_))
        refine zf_ib_ne (tgt := 76) (pc' := 70) dX7_copy_67 rfl rfl (fun g => ?_) (fun g => ?_)
        · replace h := h.1 g
          refine zf_ld (pc' := 78) (v := .inr (.inr (1, (47 + 2 * (Int32.toInt v1).toNat)))) dX7_copy_76 rfl (fun _ _ _ => rfl) rfl rfl rfl ?_
          refine zf_gfr (pc' := 81) (b := (48 + 2 * (Int32.toInt v1).toNat)) dX7_copy_78 rfl rfl hx4.1 hx4.2.1 rfl ?_
          refine zf_ld (pc' := 82) (v := .inl v3) dX7_copy_81 rfl (fun _ _ _ => rfl) rfl rfl rfl ?_
          refine zf_ld (pc' := 84) (v := .inr (.inr (1, (47 + 2 * (Int32.toInt v2).toNat)))) dX7_copy_82 rfl (fun _ _ _ => rfl) rfl rfl rfl ?_
          refine zf_gfr (pc' := 87) (b := (48 + 2 * (Int32.toInt v2).toNat)) dX7_copy_84 rfl rfl hx6.1 hx6.2.1 rfl ?_
          refine zf_ld (pc' := 89) (v := .inl v4) dX7_copy_87 rfl (fun _ _ _ => rfl) rfl rfl rfl ?_
          refine zf_ld (pc' := 91) (v := .inl v5) dX7_copy_89 rfl (fun _ _ _ => rfl) rfl rfl rfl ?_
          refine zf_acl (pc' := 94) dX7_copy_91 rfl rfl (q0 := _) rfl hx4.2.2.1 hx6.2.2.1 hx4.2.2.2 hx6.2.2.2 rfl h.1 (fun m13 e14 => ?_)
          replace h := h.2 m13 e14
          refine zf_ic (v := 1) (pc' := 95) dX7_copy_94 rfl rfl ?_
          exact zf_ri dX7_copy_95 rfl h
        · replace h := h.2 g
          refine zf_ld (pc' := 71) (v := .inr (.inr (1, 0))) dX7_copy_70 rfl (fun _ _ _ => rfl) rfl rfl rfl ?_
          refine zf_ic (v := 5) (pc' := 72) dX7_copy_71 rfl rfl ?_
          refine zf_iv (k := 109) (pc' := 75) (r := []) dX7_copy_72 rfl rfl rfl rfl (by decide) rfl rfl rfl (zr_109 (by omega) h) (zf_kI (fun x15 m16 h => ?_))
          exact zf_ri dX7_copy_75 rfl h
    · replace h := h.2 g
      refine zf_ld (pc' := 26) (v := .inr (.inr (1, 0))) dX7_copy_25 rfl (fun _ _ _ => rfl) rfl rfl rfl ?_
      refine zf_ic (v := 4) (pc' := 27) dX7_copy_26 rfl rfl ?_
      refine zf_iv (k := 109) (pc' := 30) (r := []) dX7_copy_27 rfl rfl rfl rfl (by decide) rfl rfl rfl (zr_109 (by omega) h) (zf_kI (fun x17 m18 h => ?_))
      exact zf_ri dX7_copy_30 rfl h
  · replace h := h.2 g
    refine zf_ld (pc' := 14) (v := .inr (.inr (1, 0))) dX7_copy_13 rfl (fun _ _ _ => rfl) rfl rfl rfl ?_
    refine zf_ld (pc' := 16) (v := .inl x1) dX7_copy_14 rfl (fun _ _ _ => rfl) rfl rfl rfl ?_
    refine zf_iv (k := 109) (pc' := 19) (r := []) dX7_copy_16 rfl rfl rfl rfl (by decide) rfl rfl rfl (zr_109 (by omega) h) (zf_kI (fun x19 m20 h => ?_))
    exact zf_ri dX7_copy_19 rfl h
def zt_71 : zx_MT := (7, yX7_element, cX7_element, 3, (some FieldType.long), 2, 0)
theorem zm_71 : zx_m 71 = zt_71 := rfl
theorem dX7_element_r0 : zdcP cX7_element 0 [(.aload_n 0, 1), (.iload_n 1, 1), (.invokevirtual 90, 3), (.ifCond .ne 16, 3), (.aload_n 0, 1), (.getfield 11, 3), (.iload_n 1, 1), (.aaload, 1), (.iload_n 2, 1), (.invokevirtual 93, 3), (.ifCond .ne 5, 3), (.lconst 0, 1), (.lreturn, 1), (.aload_n 0, 1), (.getfield 11, 3), (.iload_n 1, 1)] := zdcA_ok (by decide +kernel)
theorem dX7_element_0 : decode cX7_element 0 = .ok (.aload_n 0, 1) := dX7_element_r0.1
theorem dX7_element_1 : decode cX7_element 1 = .ok (.iload_n 1, 1) := dX7_element_r0.2.1
theorem dX7_element_2 : decode cX7_element 2 = .ok (.invokevirtual 90, 3) := dX7_element_r0.2.2.1
theorem dX7_element_5 : decode cX7_element 5 = .ok (.ifCond .ne 16, 3) := dX7_element_r0.2.2.2.1
theorem dX7_element_8 : decode cX7_element 8 = .ok (.aload_n 0, 1) := dX7_element_r0.2.2.2.2.1
theorem dX7_element_9 : decode cX7_element 9 = .ok (.getfield 11, 3) := dX7_element_r0.2.2.2.2.2.1
theorem dX7_element_12 : decode cX7_element 12 = .ok (.iload_n 1, 1) := dX7_element_r0.2.2.2.2.2.2.1
theorem dX7_element_13 : decode cX7_element 13 = .ok (.aaload, 1) := dX7_element_r0.2.2.2.2.2.2.2.1
theorem dX7_element_14 : decode cX7_element 14 = .ok (.iload_n 2, 1) := dX7_element_r0.2.2.2.2.2.2.2.2.1
theorem dX7_element_15 : decode cX7_element 15 = .ok (.invokevirtual 93, 3) := dX7_element_r0.2.2.2.2.2.2.2.2.2.1
theorem dX7_element_18 : decode cX7_element 18 = .ok (.ifCond .ne 5, 3) := dX7_element_r0.2.2.2.2.2.2.2.2.2.2.1
theorem dX7_element_21 : decode cX7_element 21 = .ok (.lconst 0, 1) := dX7_element_r0.2.2.2.2.2.2.2.2.2.2.2.1
theorem dX7_element_22 : decode cX7_element 22 = .ok (.lreturn, 1) := dX7_element_r0.2.2.2.2.2.2.2.2.2.2.2.2.1
theorem dX7_element_23 : decode cX7_element 23 = .ok (.aload_n 0, 1) := dX7_element_r0.2.2.2.2.2.2.2.2.2.2.2.2.2.1
theorem dX7_element_24 : decode cX7_element 24 = .ok (.getfield 11, 3) := dX7_element_r0.2.2.2.2.2.2.2.2.2.2.2.2.2.2.1
theorem dX7_element_27 : decode cX7_element 27 = .ok (.iload_n 1, 1) := dX7_element_r0.2.2.2.2.2.2.2.2.2.2.2.2.2.2.2.1
theorem dX7_element_r28 : zdcP cX7_element 28 [(.aaload, 1), (.getfield 108, 3), (.iload_n 2, 1), (.laload, 1), (.lreturn, 1)] := zdcA_ok (by decide +kernel)
theorem dX7_element_28 : decode cX7_element 28 = .ok (.aaload, 1) := dX7_element_r28.1
theorem dX7_element_29 : decode cX7_element 29 = .ok (.getfield 108, 3) := dX7_element_r28.2.1
theorem dX7_element_32 : decode cX7_element 32 = .ok (.iload_n 2, 1) := dX7_element_r28.2.2.1
theorem dX7_element_33 : decode cX7_element 33 = .ok (.laload, 1) := dX7_element_r28.2.2.2.1
theorem dX7_element_34 : decode cX7_element 34 = .ok (.lreturn, 1) := dX7_element_r28.2.2.2.2.1
def wp_71 (v1 : Int32) (v2 : Int32) (m : zf_Me) (Q : Int64 → zf_Me → Prop) : Prop := wp_111 v1 m (fun x1 m2 => ((¬ x1.toInt = 0 → Q 0 m2) ∧ (x1.toInt = 0 → ((0 ≤ (Int32.toInt v1) ∧ (Int32.toInt v1) < 8) ∧ wp_20 (47 + 2 * (Int32.toInt v1).toNat) (48 + 2 * (Int32.toInt v1).toNat) v2 m2 (fun b5 m6 => ((b5 = true → ((0 ≤ (Int32.toInt v1) ∧ (Int32.toInt v1) < 8) ∧ ((0 ≤ (Int32.toInt v2) ∧ (Int32.toInt v2) < (160 : Int)) ∧ Q (m6.2 (48 + 2 * (Int32.toInt v1).toNat) (Int32.toInt v2).toNat) m6))) ∧ (b5 = false → Q 0 m6)))))))
theorem zr_71 {d : Nat} (hd : 2 ≤ d) {v1 : Int32} {v2 : Int32} {Q : Int64 → zf_Me → Prop} {m : zf_Me} (h : wp_71 v1 v2 m Q) : zf_M d 71 [.inr (.inr (1, 0)), .inl v1, .inl v2] m (zf_J Q) := by
  obtain ⟨e, rfl⟩ : ∃ z, d = z + 1 := ⟨d - 1, by omega⟩
  unfold wp_71 at h
  refine zf_M_of (Nat.le_of_ble_eq_true rfl) zm_71 (L := [some (.inr (.inr (1, 0))), some (.inl v1), some (.inl v2)]) rfl ?_
  refine zf_ld (pc' := 1) (v := .inr (.inr (1, 0))) dX7_element_0 rfl (fun _ _ _ => rfl) rfl rfl rfl ?_
  refine zf_ld (pc' := 2) (v := .inl v1) dX7_element_1 rfl (fun _ _ _ => rfl) rfl rfl rfl ?_
  refine zf_iv (k := 111) (pc' := 5) (r := []) dX7_element_2 rfl rfl rfl rfl (by decide) rfl rfl rfl (zr_111 (by omega) h) (zf_kI (fun x1 m2 h => ?_))
  refine zf_if_ne (tgt := 21) (pc' := 8) dX7_element_5 rfl rfl (fun g => ?_) (fun g => ?_)
  · replace h := h.1 g
    refine zf_in (pc' := 22) (S' := [.inr (.inl 0)]) dX7_element_21 rfl (fun _ _ _ => rfl) ?_
    exact zf_rl dX7_element_22 rfl h
  · replace h := h.2 g
    refine zf_ld (pc' := 9) (v := .inr (.inr (1, 0))) dX7_element_8 rfl (fun _ _ _ => rfl) rfl rfl rfl ?_
    refine zf_gfr (pc' := 12) (b := 1) dX7_element_9 rfl rfl (by decide) rfl rfl ?_
    refine zf_ld (pc' := 13) (v := .inl v1) dX7_element_12 rfl (fun _ _ _ => rfl) rfl rfl rfl ?_
    refine zf_aal (b := 47) (n := 8) (pc' := 14) dX7_element_13 rfl (by decide) rfl (by decide) rfl h.1 zf_row1 ?_
    have hb3 := h.1
    replace h := h.2
    have hx4 : zf_shelf (47 + 2 * (Int32.toInt v1).toNat) (48 + 2 * (Int32.toInt v1).toNat) := zf_shelves (by omega)
    refine zf_ld (pc' := 15) (v := .inl v2) dX7_element_14 rfl (fun _ _ _ => rfl) rfl rfl rfl ?_
    refine zf_iv (k := 20) (pc' := 18) (r := []) dX7_element_15 rfl rfl rfl rfl hx4.1 hx4.2.1 rfl rfl (zr_20 (by omega) hx4 h) (zf_kB (fun b5 m6 h => ?_))
    refine zf_ib_ne (tgt := 23) (pc' := 21) dX7_element_18 rfl rfl (fun g => ?_) (fun g => ?_)
    · replace h := h.1 g
      refine zf_ld (pc' := 24) (v := .inr (.inr (1, 0))) dX7_element_23 rfl (fun _ _ _ => rfl) rfl rfl rfl ?_
      refine zf_gfr (pc' := 27) (b := 1) dX7_element_24 rfl rfl (by decide) rfl rfl ?_
      refine zf_ld (pc' := 28) (v := .inl v1) dX7_element_27 rfl (fun _ _ _ => rfl) rfl rfl rfl ?_
      refine zf_aal (b := 47) (n := 8) (pc' := 29) dX7_element_28 rfl (by decide) rfl (by decide) rfl h.1 zf_row1 ?_
      have hb7 := h.1
      replace h := h.2
      have hx8 : zf_shelf (47 + 2 * (Int32.toInt v1).toNat) (48 + 2 * (Int32.toInt v1).toNat) := zf_shelves (by omega)
      refine zf_gfr (pc' := 32) (b := (48 + 2 * (Int32.toInt v1).toNat)) dX7_element_29 rfl rfl hx8.1 hx8.2.1 rfl ?_
      refine zf_ld (pc' := 33) (v := .inl v2) dX7_element_32 rfl (fun _ _ _ => rfl) rfl rfl rfl ?_
      refine zf_lal (pc' := 34) dX7_element_33 rfl hx8.2.2.1 hx8.2.2.2 h.1 rfl ?_
      replace h := h.2
      exact zf_rl dX7_element_34 rfl h
    · replace h := h.2 g
      refine zf_in (pc' := 22) (S' := [.inr (.inl 0)]) dX7_element_21 rfl (fun _ _ _ => rfl) ?_
      exact zf_rl dX7_element_22 rfl h
def zt_72 : zx_MT := (7, yX7_show, cX7_show, 3, (some FieldType.int), 2, 0)
theorem zm_72 : zx_m 72 = zt_72 := rfl
theorem dX7_show_r0 : zdcP cX7_show 0 [(.iload_n 1, 1), (.invokestatic 78, 3), (.ifCond .eq 22, 3), (.iload_n 2, 1), (.iconst (-1), 1), (.if_icmp .eq 23, 3), (.aload_n 0, 1), (.getfield 23, 3), (.getfield 30, 3), (.iload_n 2, 1), (.invokevirtual 118, 3), (.ifCond .ne 9, 3), (.aload_n 0, 1), (.iconst 1, 1), (.invokevirtual 82, 3), (.ireturn, 1)] := zdcA_ok (by decide +kernel)
theorem dX7_show_0 : decode cX7_show 0 = .ok (.iload_n 1, 1) := dX7_show_r0.1
theorem dX7_show_1 : decode cX7_show 1 = .ok (.invokestatic 78, 3) := dX7_show_r0.2.1
theorem dX7_show_4 : decode cX7_show 4 = .ok (.ifCond .eq 22, 3) := dX7_show_r0.2.2.1
theorem dX7_show_7 : decode cX7_show 7 = .ok (.iload_n 2, 1) := dX7_show_r0.2.2.2.1
theorem dX7_show_8 : decode cX7_show 8 = .ok (.iconst (-1), 1) := dX7_show_r0.2.2.2.2.1
theorem dX7_show_9 : decode cX7_show 9 = .ok (.if_icmp .eq 23, 3) := dX7_show_r0.2.2.2.2.2.1
theorem dX7_show_12 : decode cX7_show 12 = .ok (.aload_n 0, 1) := dX7_show_r0.2.2.2.2.2.2.1
theorem dX7_show_13 : decode cX7_show 13 = .ok (.getfield 23, 3) := dX7_show_r0.2.2.2.2.2.2.2.1
theorem dX7_show_16 : decode cX7_show 16 = .ok (.getfield 30, 3) := dX7_show_r0.2.2.2.2.2.2.2.2.1
theorem dX7_show_19 : decode cX7_show 19 = .ok (.iload_n 2, 1) := dX7_show_r0.2.2.2.2.2.2.2.2.2.1
theorem dX7_show_20 : decode cX7_show 20 = .ok (.invokevirtual 118, 3) := dX7_show_r0.2.2.2.2.2.2.2.2.2.2.1
theorem dX7_show_23 : decode cX7_show 23 = .ok (.ifCond .ne 9, 3) := dX7_show_r0.2.2.2.2.2.2.2.2.2.2.2.1
theorem dX7_show_26 : decode cX7_show 26 = .ok (.aload_n 0, 1) := dX7_show_r0.2.2.2.2.2.2.2.2.2.2.2.2.1
theorem dX7_show_27 : decode cX7_show 27 = .ok (.iconst 1, 1) := dX7_show_r0.2.2.2.2.2.2.2.2.2.2.2.2.2.1
theorem dX7_show_28 : decode cX7_show 28 = .ok (.invokevirtual 82, 3) := dX7_show_r0.2.2.2.2.2.2.2.2.2.2.2.2.2.2.1
theorem dX7_show_31 : decode cX7_show 31 = .ok (.ireturn, 1) := dX7_show_r0.2.2.2.2.2.2.2.2.2.2.2.2.2.2.2.1
theorem dX7_show_r32 : zdcP cX7_show 32 [(.aload_n 0, 1), (.getfield 11, 3), (.iload_n 1, 1), (.aaload, 1), (.iload_n 2, 1), (.putfield 121, 3), (.iload_n 2, 1), (.iconst (-1), 1), (.if_icmp .ne 7, 3), (.iconst 0, 1), (.goto 4, 3), (.iconst 1, 1), (.ireturn, 1)] := zdcA_ok (by decide +kernel)
theorem dX7_show_32 : decode cX7_show 32 = .ok (.aload_n 0, 1) := dX7_show_r32.1
theorem dX7_show_33 : decode cX7_show 33 = .ok (.getfield 11, 3) := dX7_show_r32.2.1
theorem dX7_show_36 : decode cX7_show 36 = .ok (.iload_n 1, 1) := dX7_show_r32.2.2.1
theorem dX7_show_37 : decode cX7_show 37 = .ok (.aaload, 1) := dX7_show_r32.2.2.2.1
theorem dX7_show_38 : decode cX7_show 38 = .ok (.iload_n 2, 1) := dX7_show_r32.2.2.2.2.1
theorem dX7_show_39 : decode cX7_show 39 = .ok (.putfield 121, 3) := dX7_show_r32.2.2.2.2.2.1
theorem dX7_show_42 : decode cX7_show 42 = .ok (.iload_n 2, 1) := dX7_show_r32.2.2.2.2.2.2.1
theorem dX7_show_43 : decode cX7_show 43 = .ok (.iconst (-1), 1) := dX7_show_r32.2.2.2.2.2.2.2.1
theorem dX7_show_44 : decode cX7_show 44 = .ok (.if_icmp .ne 7, 3) := dX7_show_r32.2.2.2.2.2.2.2.2.1
theorem dX7_show_47 : decode cX7_show 47 = .ok (.iconst 0, 1) := dX7_show_r32.2.2.2.2.2.2.2.2.2.1
theorem dX7_show_48 : decode cX7_show 48 = .ok (.goto 4, 3) := dX7_show_r32.2.2.2.2.2.2.2.2.2.2.1
theorem dX7_show_51 : decode cX7_show 51 = .ok (.iconst 1, 1) := dX7_show_r32.2.2.2.2.2.2.2.2.2.2.2.1
theorem dX7_show_52 : decode cX7_show 52 = .ok (.ireturn, 1) := dX7_show_r32.2.2.2.2.2.2.2.2.2.2.2.2.1
def wq_72_32 (v1 : Int32) (v2 : Int32) (m : zf_Me) (Q : Int32 → zf_Me → Prop) : Prop := ((0 ≤ (Int32.toInt v1) ∧ (Int32.toInt v1) < 8) ∧ (∀ m7, m7 = zf_u m (47 + 2 * (Int32.toInt v1).toNat) 1 v2 → ((¬ v2.toInt = (-1) → Q 1 m7) ∧ (v2.toInt = (-1) → Q 0 m7))))
theorem zq_72_32 {d : Nat} (hd : 1 ≤ d) {v1 : Int32} {v2 : Int32} {Q : Int32 → zf_Me → Prop} {m : zf_Me} (h : wq_72_32 v1 v2 m Q) : zf_W none 0 0 d zt_72 32 [some (.inr (.inr (1, 0))), some (.inl v1), some (.inl v2)] [] m (zf_I Q) := by
  unfold wq_72_32 at h
  refine zf_ld (pc' := 33) (v := .inr (.inr (1, 0))) dX7_show_32 rfl (fun _ _ _ => rfl) rfl rfl rfl ?_
  refine zf_gfr (pc' := 36) (b := 1) dX7_show_33 rfl rfl (by decide) rfl rfl ?_
  refine zf_ld (pc' := 37) (v := .inl v1) dX7_show_36 rfl (fun _ _ _ => rfl) rfl rfl rfl ?_
  refine zf_aal (b := 47) (n := 8) (pc' := 38) dX7_show_37 rfl (by decide) rfl (by decide) rfl h.1 zf_row1 ?_
  have hb5 := h.1
  replace h := h.2
  have hx6 : zf_shelf (47 + 2 * (Int32.toInt v1).toNat) (48 + 2 * (Int32.toInt v1).toNat) := zf_shelves (by omega)
  refine zf_ld (pc' := 39) (v := .inl v2) dX7_show_38 rfl (fun _ _ _ => rfl) rfl rfl rfl ?_
  refine zf_pf (pc' := 42) dX7_show_39 rfl rfl hx6.1 hx6.2.1 rfl rfl (fun m7 e8 => ?_)
  replace h := h m7 e8
  refine zf_ld (pc' := 43) (v := .inl v2) dX7_show_42 rfl (fun _ _ _ => rfl) rfl rfl rfl ?_
  refine zf_ic (v := (-1)) (pc' := 44) dX7_show_43 rfl rfl ?_
  refine zf_icmp_ne (tgt := 51) (pc' := 47) dX7_show_44 rfl rfl (fun g => ?_) (fun g => ?_)
  · replace h := h.1 g
    refine zf_ic (v := 1) (pc' := 52) dX7_show_51 rfl rfl ?_
    exact zf_ri dX7_show_52 rfl h
  · replace h := h.2 g
    refine zf_ic (v := 0) (pc' := 48) dX7_show_47 rfl rfl ?_
    refine zf_goto (tgt := 52) dX7_show_48 rfl ?_
    exact zf_ri dX7_show_52 rfl h
def wp_72 (v1 : Int32) (v2 : Int32) (m : zf_Me) (Q : Int32 → zf_Me → Prop) : Prop := wp_114 v1 m (fun b1 m2 => ((b1 = false → wp_109 1 m2 (fun x3 m4 => Q x3 m4)) ∧ (b1 = true → ((v2.toInt = (-1) → wq_72_32 v1 v2 m2 Q) ∧ (¬ v2.toInt = (-1) → wp_65 3 v2 m2 (fun b9 m10 => ((b9 = true → wq_72_32 v1 v2 m10 Q) ∧ (b9 = false → wp_109 1 m10 (fun x11 m12 => Q x11 m12)))))))))
theorem zr_72 {d : Nat} (hd : 1 ≤ d) {v1 : Int32} {v2 : Int32} {Q : Int32 → zf_Me → Prop} {m : zf_Me} (h : wp_72 v1 v2 m Q) : zf_M d 72 [.inr (.inr (1, 0)), .inl v1, .inl v2] m (zf_I Q) := by
  obtain ⟨e, rfl⟩ : ∃ z, d = z + 1 := ⟨d - 1, by omega⟩
  unfold wp_72 at h
  refine zf_M_of (Nat.le_of_ble_eq_true rfl) zm_72 (L := [some (.inr (.inr (1, 0))), some (.inl v1), some (.inl v2)]) rfl ?_
  refine zf_ld (pc' := 1) (v := .inl v1) dX7_show_0 rfl (fun _ _ _ => rfl) rfl rfl rfl ?_
  refine zf_is (k := 114) (pc' := 4) (r := []) dX7_show_1 rfl rfl rfl rfl rfl (zr_114 (by omega) h) (zf_kB (fun b1 m2 h => ?_))
  refine zf_ib_eq (tgt := 26) (pc' := 7) dX7_show_4 rfl rfl (fun g => ?_) (fun g => ?_)
  · replace h := h.1 g
    refine zf_ld (pc' := 27) (v := .inr (.inr (1, 0))) dX7_show_26 rfl (fun _ _ _ => rfl) rfl rfl rfl ?_
    refine zf_ic (v := 1) (pc' := 28) dX7_show_27 rfl rfl ?_
    refine zf_iv (k := 109) (pc' := 31) (r := []) dX7_show_28 rfl rfl rfl rfl (by decide) rfl rfl rfl (zr_109 (by omega) h) (zf_kI (fun x3 m4 h => ?_))
    exact zf_ri dX7_show_31 rfl h
  · replace h := h.2 g
    refine zf_ld (pc' := 8) (v := .inl v2) dX7_show_7 rfl (fun _ _ _ => rfl) rfl rfl rfl ?_
    refine zf_ic (v := (-1)) (pc' := 9) dX7_show_8 rfl rfl ?_
    refine zf_icmp_eq (tgt := 32) (pc' := 12) dX7_show_9 rfl rfl (fun g => ?_) (fun g => ?_)
    · replace h := h.1 g
      exact zf_lo (zq_72_32 (by omega) h) ⟨rfl, rfl, rfl, trivial⟩
    · replace h := h.2 g
      refine zf_ld (pc' := 13) (v := .inr (.inr (1, 0))) dX7_show_12 rfl (fun _ _ _ => rfl) rfl rfl rfl ?_
      refine zf_gfr (pc' := 16) (b := 2) dX7_show_13 rfl rfl (by decide) rfl rfl ?_
      refine zf_gfr (pc' := 19) (b := 3) dX7_show_16 rfl rfl zf_walk2.1 zf_walk2.2.1 rfl ?_
      refine zf_ld (pc' := 20) (v := .inl v2) dX7_show_19 rfl (fun _ _ _ => rfl) rfl rfl rfl ?_
      refine zf_iv (k := 65) (pc' := 23) (r := []) dX7_show_20 rfl rfl rfl rfl zf_walk2.2.2.1.1 zf_walk2.2.2.1.2.1 rfl rfl (zr_65 (by omega) zf_walk2.2.2.1 h) (zf_kB (fun b9 m10 h => ?_))
      refine zf_ib_ne (tgt := 32) (pc' := 26) dX7_show_23 rfl rfl (fun g => ?_) (fun g => ?_)
      · replace h := h.1 g
        exact zf_lo (zq_72_32 (by omega) h) ⟨rfl, rfl, rfl, trivial⟩
      · replace h := h.2 g
        refine zf_ld (pc' := 27) (v := .inr (.inr (1, 0))) dX7_show_26 rfl (fun _ _ _ => rfl) rfl rfl rfl ?_
        refine zf_ic (v := 1) (pc' := 28) dX7_show_27 rfl rfl ?_
        refine zf_iv (k := 109) (pc' := 31) (r := []) dX7_show_28 rfl rfl rfl rfl (by decide) rfl rfl rfl (zr_109 (by omega) h) (zf_kI (fun x11 m12 h => ?_))
        exact zf_ri dX7_show_31 rfl h
def zt_73 : zx_MT := (7, yX7_holds, cX7_holds, 2, (some FieldType.int), 1, 0)
theorem zm_73 : zx_m 73 = zt_73 := rfl
theorem dX7_holds_r0 : zdcP cX7_holds 0 [(.iload_n 1, 1), (.invokestatic 78, 3), (.ifCond .eq 15, 3), (.aload_n 0, 1), (.getfield 11, 3), (.iload_n 1, 1), (.aaload, 1), (.getfield 121, 3), (.goto 4, 3), (.iconst (-1), 1), (.ireturn, 1)] := zdcA_ok (by decide +kernel)
theorem dX7_holds_0 : decode cX7_holds 0 = .ok (.iload_n 1, 1) := dX7_holds_r0.1
theorem dX7_holds_1 : decode cX7_holds 1 = .ok (.invokestatic 78, 3) := dX7_holds_r0.2.1
theorem dX7_holds_4 : decode cX7_holds 4 = .ok (.ifCond .eq 15, 3) := dX7_holds_r0.2.2.1
theorem dX7_holds_7 : decode cX7_holds 7 = .ok (.aload_n 0, 1) := dX7_holds_r0.2.2.2.1
theorem dX7_holds_8 : decode cX7_holds 8 = .ok (.getfield 11, 3) := dX7_holds_r0.2.2.2.2.1
theorem dX7_holds_11 : decode cX7_holds 11 = .ok (.iload_n 1, 1) := dX7_holds_r0.2.2.2.2.2.1
theorem dX7_holds_12 : decode cX7_holds 12 = .ok (.aaload, 1) := dX7_holds_r0.2.2.2.2.2.2.1
theorem dX7_holds_13 : decode cX7_holds 13 = .ok (.getfield 121, 3) := dX7_holds_r0.2.2.2.2.2.2.2.1
theorem dX7_holds_16 : decode cX7_holds 16 = .ok (.goto 4, 3) := dX7_holds_r0.2.2.2.2.2.2.2.2.1
theorem dX7_holds_19 : decode cX7_holds 19 = .ok (.iconst (-1), 1) := dX7_holds_r0.2.2.2.2.2.2.2.2.2.1
theorem dX7_holds_20 : decode cX7_holds 20 = .ok (.ireturn, 1) := dX7_holds_r0.2.2.2.2.2.2.2.2.2.2.1
def wp_73 (v1 : Int32) (m : zf_Me) (Q : Int32 → zf_Me → Prop) : Prop := wp_114 v1 m (fun b1 m2 => ((b1 = false → Q (-1) m2) ∧ (b1 = true → ((0 ≤ (Int32.toInt v1) ∧ (Int32.toInt v1) < 8) ∧ Q (m2.1 (47 + 2 * (Int32.toInt v1).toNat) 1) m2))))
theorem zr_73 {d : Nat} (hd : 1 ≤ d) {v1 : Int32} {Q : Int32 → zf_Me → Prop} {m : zf_Me} (h : wp_73 v1 m Q) : zf_M d 73 [.inr (.inr (1, 0)), .inl v1] m (zf_I Q) := by
  obtain ⟨e, rfl⟩ : ∃ z, d = z + 1 := ⟨d - 1, by omega⟩
  unfold wp_73 at h
  refine zf_M_of (Nat.le_of_ble_eq_true rfl) zm_73 (L := [some (.inr (.inr (1, 0))), some (.inl v1)]) rfl ?_
  refine zf_ld (pc' := 1) (v := .inl v1) dX7_holds_0 rfl (fun _ _ _ => rfl) rfl rfl rfl ?_
  refine zf_is (k := 114) (pc' := 4) (r := []) dX7_holds_1 rfl rfl rfl rfl rfl (zr_114 (by omega) h) (zf_kB (fun b1 m2 h => ?_))
  refine zf_ib_eq (tgt := 19) (pc' := 7) dX7_holds_4 rfl rfl (fun g => ?_) (fun g => ?_)
  · replace h := h.1 g
    refine zf_ic (v := (-1)) (pc' := 20) dX7_holds_19 rfl rfl ?_
    exact zf_ri dX7_holds_20 rfl h
  · replace h := h.2 g
    refine zf_ld (pc' := 8) (v := .inr (.inr (1, 0))) dX7_holds_7 rfl (fun _ _ _ => rfl) rfl rfl rfl ?_
    refine zf_gfr (pc' := 11) (b := 1) dX7_holds_8 rfl rfl (by decide) rfl rfl ?_
    refine zf_ld (pc' := 12) (v := .inl v1) dX7_holds_11 rfl (fun _ _ _ => rfl) rfl rfl rfl ?_
    refine zf_aal (b := 47) (n := 8) (pc' := 13) dX7_holds_12 rfl (by decide) rfl (by decide) rfl h.1 zf_row1 ?_
    have hb3 := h.1
    replace h := h.2
    have hx4 : zf_shelf (47 + 2 * (Int32.toInt v1).toNat) (48 + 2 * (Int32.toInt v1).toNat) := zf_shelves (by omega)
    refine zf_gfi (pc' := 16) dX7_holds_13 rfl rfl hx4.1 hx4.2.1 rfl ?_
    refine zf_goto (tgt := 20) dX7_holds_16 rfl ?_
    exact zf_ri dX7_holds_20 rfl h
def zt_117 : zx_MT := (7, yX7_isUnder, cX7_isUnder, 4, (some FieldType.boolean), 2, 1)
theorem zm_117 : zx_m 117 = zt_117 := rfl
theorem dX7_isUnder_r0 : zdcP cX7_isUnder 0 [(.iload_n 0, 1), (.istore_n 2, 1), (.iconst 0, 1), (.istore_n 3, 1), (.iload_n 3, 1), (.bipush 7, 2), (.if_icmp .ge 29, 3), (.iload_n 2, 1), (.invokestatic 124, 3), (.ifCond .eq 22, 3), (.iload_n 2, 1), (.iload_n 1, 1), (.if_icmp .ne 5, 3), (.iconst 1, 1), (.ireturn, 1), (.getstatic 329, 3)] := zdcA_ok (by decide +kernel)
theorem dX7_isUnder_0 : decode cX7_isUnder 0 = .ok (.iload_n 0, 1) := dX7_isUnder_r0.1
theorem dX7_isUnder_1 : decode cX7_isUnder 1 = .ok (.istore_n 2, 1) := dX7_isUnder_r0.2.1
theorem dX7_isUnder_2 : decode cX7_isUnder 2 = .ok (.iconst 0, 1) := dX7_isUnder_r0.2.2.1
theorem dX7_isUnder_3 : decode cX7_isUnder 3 = .ok (.istore_n 3, 1) := dX7_isUnder_r0.2.2.2.1
theorem dX7_isUnder_4 : decode cX7_isUnder 4 = .ok (.iload_n 3, 1) := dX7_isUnder_r0.2.2.2.2.1
theorem dX7_isUnder_5 : decode cX7_isUnder 5 = .ok (.bipush 7, 2) := dX7_isUnder_r0.2.2.2.2.2.1
theorem dX7_isUnder_7 : decode cX7_isUnder 7 = .ok (.if_icmp .ge 29, 3) := dX7_isUnder_r0.2.2.2.2.2.2.1
theorem dX7_isUnder_10 : decode cX7_isUnder 10 = .ok (.iload_n 2, 1) := dX7_isUnder_r0.2.2.2.2.2.2.2.1
theorem dX7_isUnder_11 : decode cX7_isUnder 11 = .ok (.invokestatic 124, 3) := dX7_isUnder_r0.2.2.2.2.2.2.2.2.1
theorem dX7_isUnder_14 : decode cX7_isUnder 14 = .ok (.ifCond .eq 22, 3) := dX7_isUnder_r0.2.2.2.2.2.2.2.2.2.1
theorem dX7_isUnder_17 : decode cX7_isUnder 17 = .ok (.iload_n 2, 1) := dX7_isUnder_r0.2.2.2.2.2.2.2.2.2.2.1
theorem dX7_isUnder_18 : decode cX7_isUnder 18 = .ok (.iload_n 1, 1) := dX7_isUnder_r0.2.2.2.2.2.2.2.2.2.2.2.1
theorem dX7_isUnder_19 : decode cX7_isUnder 19 = .ok (.if_icmp .ne 5, 3) := dX7_isUnder_r0.2.2.2.2.2.2.2.2.2.2.2.2.1
theorem dX7_isUnder_22 : decode cX7_isUnder 22 = .ok (.iconst 1, 1) := dX7_isUnder_r0.2.2.2.2.2.2.2.2.2.2.2.2.2.1
theorem dX7_isUnder_23 : decode cX7_isUnder 23 = .ok (.ireturn, 1) := dX7_isUnder_r0.2.2.2.2.2.2.2.2.2.2.2.2.2.2.1
theorem dX7_isUnder_24 : decode cX7_isUnder 24 = .ok (.getstatic 329, 3) := dX7_isUnder_r0.2.2.2.2.2.2.2.2.2.2.2.2.2.2.2.1
theorem dX7_isUnder_r27 : zdcP cX7_isUnder 27 [(.iload_n 2, 1), (.iaload, 1), (.istore_n 2, 1), (.iinc 3 1, 3), (.goto (-29), 3), (.iconst 0, 1), (.ireturn, 1)] := zdcA_ok (by decide +kernel)
theorem dX7_isUnder_27 : decode cX7_isUnder 27 = .ok (.iload_n 2, 1) := dX7_isUnder_r27.1
theorem dX7_isUnder_28 : decode cX7_isUnder 28 = .ok (.iaload, 1) := dX7_isUnder_r27.2.1
theorem dX7_isUnder_29 : decode cX7_isUnder 29 = .ok (.istore_n 2, 1) := dX7_isUnder_r27.2.2.1
theorem dX7_isUnder_30 : decode cX7_isUnder 30 = .ok (.iinc 3 1, 3) := dX7_isUnder_r27.2.2.2.1
theorem dX7_isUnder_33 : decode cX7_isUnder 33 = .ok (.goto (-29), 3) := dX7_isUnder_r27.2.2.2.2.1
theorem dX7_isUnder_36 : decode cX7_isUnder 36 = .ok (.iconst 0, 1) := dX7_isUnder_r27.2.2.2.2.2.1
theorem dX7_isUnder_37 : decode cX7_isUnder 37 = .ok (.ireturn, 1) := dX7_isUnder_r27.2.2.2.2.2.2.1
def wq_117_4 (v0 : Int32) (v1 : Int32) (Q : Bool → zf_Me → Prop) : Nat → Int32 → Int32 → zf_Me → Prop
  | 0, _, _, _ => False
  | n + 1, v2, v3, m => ((v3.toInt ≥ 7 → Q false m) ∧ (v3.toInt < 7 → wp_115 v2 m (fun b1 m2 => ((b1 = false → Q false m2) ∧ (b1 = true → ((¬ v2.toInt = v1.toInt → ((0 ≤ (v2).toInt ∧ (v2).toInt < 7) ∧ wq_117_4 v0 v1 Q n ((zx_sa.getD 0 []).getD (Int32.toInt v2).toNat 0) (v3 + 1) m2)) ∧ (v2.toInt = v1.toInt → Q true m2)))))))
theorem zq_117_4 {d : Nat} (hd : 1 ≤ d) {v0 : Int32} {v1 : Int32} {Q : Bool → zf_Me → Prop} : ∀ (n : Nat) (v2 : Int32) (v3 : Int32) (m : zf_Me), wq_117_4 v0 v1 Q n v2 v3 m → zf_W none 0 0 d zt_117 4 [none, some (.inl v1), some (.inl v2), some (.inl v3)] [] m (zf_B Q) := by
  obtain ⟨e, rfl⟩ : ∃ z, d = z + 1 := ⟨d - 1, by omega⟩
  intro n
  induction n with
  | zero =>
    intro v2 v3 m h
    exact h.elim
  | succ n ih =>
    intro v2 v3 m h
    unfold wq_117_4 at h
    refine zf_ld (pc' := 5) (v := .inl v3) dX7_isUnder_4 rfl (fun _ _ _ => rfl) rfl rfl rfl ?_
    refine zf_bi (v := 7) (pc' := 7) dX7_isUnder_5 rfl rfl ?_
    refine zf_icmp_ge (tgt := 36) (pc' := 10) dX7_isUnder_7 rfl rfl (fun g => ?_) (fun g => ?_)
    · replace h := h.1 g
      refine zf_ic (v := 0) (pc' := 37) dX7_isUnder_36 rfl rfl ?_
      exact zf_rb (b := false) dX7_isUnder_37 rfl h
    · replace h := h.2 g
      refine zf_ld (pc' := 11) (v := .inl v2) dX7_isUnder_10 rfl (fun _ _ _ => rfl) rfl rfl rfl ?_
      refine zf_is (k := 115) (pc' := 14) (r := []) dX7_isUnder_11 rfl rfl rfl rfl rfl (zr_115 (by omega) h) (zf_kB (fun b1 m2 h => ?_))
      refine zf_ib_eq (tgt := 36) (pc' := 17) dX7_isUnder_14 rfl rfl (fun g => ?_) (fun g => ?_)
      · replace h := h.1 g
        refine zf_ic (v := 0) (pc' := 37) dX7_isUnder_36 rfl rfl ?_
        exact zf_rb (b := false) dX7_isUnder_37 rfl h
      · replace h := h.2 g
        refine zf_ld (pc' := 18) (v := .inl v2) dX7_isUnder_17 rfl (fun _ _ _ => rfl) rfl rfl rfl ?_
        refine zf_ld (pc' := 19) (v := .inl v1) dX7_isUnder_18 rfl (fun _ _ _ => rfl) rfl rfl rfl ?_
        refine zf_icmp_ne (tgt := 24) (pc' := 22) dX7_isUnder_19 rfl rfl (fun g => ?_) (fun g => ?_)
        · replace h := h.1 g
          refine zf_gs (g := 0) (pc' := 27) dX7_isUnder_24 rfl rfl rfl ?_
          refine zf_ld (pc' := 28) (v := .inl v2) dX7_isUnder_27 rfl (fun _ _ _ => rfl) rfl rfl rfl ?_
          refine zf_ials (pc' := 29) dX7_isUnder_28 rfl (by decide) (n := 7) rfl h.1 ?_
          replace h := h.2
          refine zf_st (pc' := 30) (L2 := [none, some (.inl v1), some (.inl ((zx_sa.getD 0 []).getD (Int32.toInt v2).toNat 0)), some (.inl v3)]) dX7_isUnder_29 rfl (fun _ _ _ => rfl) rfl rfl rfl rfl rfl rfl ?_
          refine zf_ii (y := (v3 + 1)) (L2 := [none, some (.inl v1), some (.inl ((zx_sa.getD 0 []).getD (Int32.toInt v2).toNat 0)), some (.inl (v3 + 1))]) (pc' := 33) dX7_isUnder_30 rfl rfl rfl rfl rfl ?_
          refine zf_goto (tgt := 4) dX7_isUnder_33 rfl ?_
          exact zf_lo (ih _ _ _ h) ⟨rfl, rfl, rfl, trivial⟩
        · replace h := h.2 g
          refine zf_ic (v := 1) (pc' := 23) dX7_isUnder_22 rfl rfl ?_
          exact zf_rb (b := true) dX7_isUnder_23 rfl h
def wp_117 (v0 : Int32) (v1 : Int32) (m : zf_Me) (Q : Bool → zf_Me → Prop) : Prop := (∃ n4, wq_117_4 v0 v1 Q n4 v0 0 m)
theorem zr_117 {d : Nat} (hd : 1 ≤ d) {v0 : Int32} {v1 : Int32} {Q : Bool → zf_Me → Prop} {m : zf_Me} (h : wp_117 v0 v1 m Q) : zf_M d 117 [.inl v0, .inl v1] m (zf_B Q) := by
  unfold wp_117 at h
  refine zf_M_of (Nat.le_of_ble_eq_true rfl) zm_117 (L := [some (.inl v0), some (.inl v1), none, none]) rfl ?_
  refine zf_ld (pc' := 1) (v := .inl v0) dX7_isUnder_0 rfl (fun _ _ _ => rfl) rfl rfl rfl ?_
  refine zf_st (pc' := 2) (L2 := [some (.inl v0), some (.inl v1), some (.inl v0), none]) dX7_isUnder_1 rfl (fun _ _ _ => rfl) rfl rfl rfl rfl rfl rfl ?_
  refine zf_ic (v := 0) (pc' := 3) dX7_isUnder_2 rfl rfl ?_
  refine zf_st (pc' := 4) (L2 := [some (.inl v0), some (.inl v1), some (.inl v0), some (.inl 0)]) dX7_isUnder_3 rfl (fun _ _ _ => rfl) rfl rfl rfl rfl rfl rfl ?_
  obtain ⟨n4, h⟩ := h
  exact zf_lo (zq_117_4 (by omega) n4 _ _ _ h) ⟨rfl, rfl, rfl, trivial⟩
def zt_74 : zx_MT := (7, yX7_says, cX7_says, 4, (some FieldType.int), 2, 0)
theorem zm_74 : zx_m 74 = zt_74 := rfl
theorem dX7_says_r0 : zdcP cX7_says 0 [(.iload_n 1, 1), (.invokestatic 78, 3), (.ifCond .eq 10, 3), (.iload_n 2, 1), (.invokestatic 124, 3), (.ifCond .ne 9, 3), (.aload_n 0, 1), (.iconst 1, 1), (.invokevirtual 82, 3), (.ireturn, 1), (.aload_n 0, 1), (.getfield 11, 3), (.iload_n 1, 1), (.aaload, 1), (.getfield 121, 3), (.istore_n 3, 1)] := zdcA_ok (by decide +kernel)
theorem dX7_says_0 : decode cX7_says 0 = .ok (.iload_n 1, 1) := dX7_says_r0.1
theorem dX7_says_1 : decode cX7_says 1 = .ok (.invokestatic 78, 3) := dX7_says_r0.2.1
theorem dX7_says_4 : decode cX7_says 4 = .ok (.ifCond .eq 10, 3) := dX7_says_r0.2.2.1
theorem dX7_says_7 : decode cX7_says 7 = .ok (.iload_n 2, 1) := dX7_says_r0.2.2.2.1
theorem dX7_says_8 : decode cX7_says 8 = .ok (.invokestatic 124, 3) := dX7_says_r0.2.2.2.2.1
theorem dX7_says_11 : decode cX7_says 11 = .ok (.ifCond .ne 9, 3) := dX7_says_r0.2.2.2.2.2.1
theorem dX7_says_14 : decode cX7_says 14 = .ok (.aload_n 0, 1) := dX7_says_r0.2.2.2.2.2.2.1
theorem dX7_says_15 : decode cX7_says 15 = .ok (.iconst 1, 1) := dX7_says_r0.2.2.2.2.2.2.2.1
theorem dX7_says_16 : decode cX7_says 16 = .ok (.invokevirtual 82, 3) := dX7_says_r0.2.2.2.2.2.2.2.2.1
theorem dX7_says_19 : decode cX7_says 19 = .ok (.ireturn, 1) := dX7_says_r0.2.2.2.2.2.2.2.2.2.1
theorem dX7_says_20 : decode cX7_says 20 = .ok (.aload_n 0, 1) := dX7_says_r0.2.2.2.2.2.2.2.2.2.2.1
theorem dX7_says_21 : decode cX7_says 21 = .ok (.getfield 11, 3) := dX7_says_r0.2.2.2.2.2.2.2.2.2.2.2.1
theorem dX7_says_24 : decode cX7_says 24 = .ok (.iload_n 1, 1) := dX7_says_r0.2.2.2.2.2.2.2.2.2.2.2.2.1
theorem dX7_says_25 : decode cX7_says 25 = .ok (.aaload, 1) := dX7_says_r0.2.2.2.2.2.2.2.2.2.2.2.2.2.1
theorem dX7_says_26 : decode cX7_says 26 = .ok (.getfield 121, 3) := dX7_says_r0.2.2.2.2.2.2.2.2.2.2.2.2.2.2.1
theorem dX7_says_29 : decode cX7_says 29 = .ok (.istore_n 3, 1) := dX7_says_r0.2.2.2.2.2.2.2.2.2.2.2.2.2.2.2.1
theorem dX7_says_r30 : zdcP cX7_says 30 [(.iload_n 3, 1), (.iconst (-1), 1), (.if_icmp .ne 9, 3), (.aload_n 0, 1), (.iconst 3, 1), (.invokevirtual 82, 3), (.ireturn, 1), (.aload_n 0, 1), (.getfield 23, 3), (.getfield 30, 3), (.iload_n 3, 1), (.invokevirtual 118, 3), (.ifCond .eq 22, 3), (.aload_n 0, 1), (.getfield 23, 3), (.getfield 30, 3)] := zdcA_ok (by decide +kernel)
theorem dX7_says_30 : decode cX7_says 30 = .ok (.iload_n 3, 1) := dX7_says_r30.1
theorem dX7_says_31 : decode cX7_says 31 = .ok (.iconst (-1), 1) := dX7_says_r30.2.1
theorem dX7_says_32 : decode cX7_says 32 = .ok (.if_icmp .ne 9, 3) := dX7_says_r30.2.2.1
theorem dX7_says_35 : decode cX7_says 35 = .ok (.aload_n 0, 1) := dX7_says_r30.2.2.2.1
theorem dX7_says_36 : decode cX7_says 36 = .ok (.iconst 3, 1) := dX7_says_r30.2.2.2.2.1
theorem dX7_says_37 : decode cX7_says 37 = .ok (.invokevirtual 82, 3) := dX7_says_r30.2.2.2.2.2.1
theorem dX7_says_40 : decode cX7_says 40 = .ok (.ireturn, 1) := dX7_says_r30.2.2.2.2.2.2.1
theorem dX7_says_41 : decode cX7_says 41 = .ok (.aload_n 0, 1) := dX7_says_r30.2.2.2.2.2.2.2.1
theorem dX7_says_42 : decode cX7_says 42 = .ok (.getfield 23, 3) := dX7_says_r30.2.2.2.2.2.2.2.2.1
theorem dX7_says_45 : decode cX7_says 45 = .ok (.getfield 30, 3) := dX7_says_r30.2.2.2.2.2.2.2.2.2.1
theorem dX7_says_48 : decode cX7_says 48 = .ok (.iload_n 3, 1) := dX7_says_r30.2.2.2.2.2.2.2.2.2.2.1
theorem dX7_says_49 : decode cX7_says 49 = .ok (.invokevirtual 118, 3) := dX7_says_r30.2.2.2.2.2.2.2.2.2.2.2.1
theorem dX7_says_52 : decode cX7_says 52 = .ok (.ifCond .eq 22, 3) := dX7_says_r30.2.2.2.2.2.2.2.2.2.2.2.2.1
theorem dX7_says_55 : decode cX7_says 55 = .ok (.aload_n 0, 1) := dX7_says_r30.2.2.2.2.2.2.2.2.2.2.2.2.2.1
theorem dX7_says_56 : decode cX7_says 56 = .ok (.getfield 23, 3) := dX7_says_r30.2.2.2.2.2.2.2.2.2.2.2.2.2.2.1
theorem dX7_says_59 : decode cX7_says 59 = .ok (.getfield 30, 3) := dX7_says_r30.2.2.2.2.2.2.2.2.2.2.2.2.2.2.2.1
theorem dX7_says_r62 : zdcP cX7_says 62 [(.getfield 127, 3), (.iload_n 3, 1), (.iaload, 1), (.iload_n 2, 1), (.invokestatic 130, 3), (.ifCond .ne 9, 3), (.aload_n 0, 1), (.iconst 2, 1), (.invokevirtual 82, 3), (.ireturn, 1), (.iload_n 2, 1)] := zdcA_ok (by decide +kernel)
theorem dX7_says_62 : decode cX7_says 62 = .ok (.getfield 127, 3) := dX7_says_r62.1
theorem dX7_says_65 : decode cX7_says 65 = .ok (.iload_n 3, 1) := dX7_says_r62.2.1
theorem dX7_says_66 : decode cX7_says 66 = .ok (.iaload, 1) := dX7_says_r62.2.2.1
theorem dX7_says_67 : decode cX7_says 67 = .ok (.iload_n 2, 1) := dX7_says_r62.2.2.2.1
theorem dX7_says_68 : decode cX7_says 68 = .ok (.invokestatic 130, 3) := dX7_says_r62.2.2.2.2.1
theorem dX7_says_71 : decode cX7_says 71 = .ok (.ifCond .ne 9, 3) := dX7_says_r62.2.2.2.2.2.1
theorem dX7_says_74 : decode cX7_says 74 = .ok (.aload_n 0, 1) := dX7_says_r62.2.2.2.2.2.2.1
theorem dX7_says_75 : decode cX7_says 75 = .ok (.iconst 2, 1) := dX7_says_r62.2.2.2.2.2.2.2.1
theorem dX7_says_76 : decode cX7_says 76 = .ok (.invokevirtual 82, 3) := dX7_says_r62.2.2.2.2.2.2.2.2.1
theorem dX7_says_79 : decode cX7_says 79 = .ok (.ireturn, 1) := dX7_says_r62.2.2.2.2.2.2.2.2.2.1
theorem dX7_says_80 : decode cX7_says 80 = .ok (.iload_n 2, 1) := dX7_says_r62.2.2.2.2.2.2.2.2.2.2.1
theorem dX7_says_81 : decode cX7_says 81 = .ok (.tableswitch 81 1 6 #[39, 55, 39, 71, 55, 71], 39) := by decide +kernel
theorem dX7_says_r120 : zdcP cX7_says 120 [(.aload_n 0, 1), (.getfield 23, 3), (.getfield 30, 3), (.getfield 127, 3), (.iload_n 3, 1), (.iaload, 1), (.invokestatic 133, 3), (.ireturn, 1), (.aload_n 0, 1), (.getfield 23, 3), (.invokevirtual 136, 3), (.ifCond .eq 7, 3), (.iconst 1, 1), (.goto 4, 3), (.iconst 0, 1), (.ireturn, 1)] := zdcA_ok (by decide +kernel)
theorem dX7_says_120 : decode cX7_says 120 = .ok (.aload_n 0, 1) := dX7_says_r120.1
theorem dX7_says_121 : decode cX7_says 121 = .ok (.getfield 23, 3) := dX7_says_r120.2.1
theorem dX7_says_124 : decode cX7_says 124 = .ok (.getfield 30, 3) := dX7_says_r120.2.2.1
theorem dX7_says_127 : decode cX7_says 127 = .ok (.getfield 127, 3) := dX7_says_r120.2.2.2.1
theorem dX7_says_130 : decode cX7_says 130 = .ok (.iload_n 3, 1) := dX7_says_r120.2.2.2.2.1
theorem dX7_says_131 : decode cX7_says 131 = .ok (.iaload, 1) := dX7_says_r120.2.2.2.2.2.1
theorem dX7_says_132 : decode cX7_says 132 = .ok (.invokestatic 133, 3) := dX7_says_r120.2.2.2.2.2.2.1
theorem dX7_says_135 : decode cX7_says 135 = .ok (.ireturn, 1) := dX7_says_r120.2.2.2.2.2.2.2.1
theorem dX7_says_136 : decode cX7_says 136 = .ok (.aload_n 0, 1) := dX7_says_r120.2.2.2.2.2.2.2.2.1
theorem dX7_says_137 : decode cX7_says 137 = .ok (.getfield 23, 3) := dX7_says_r120.2.2.2.2.2.2.2.2.2.1
theorem dX7_says_140 : decode cX7_says 140 = .ok (.invokevirtual 136, 3) := dX7_says_r120.2.2.2.2.2.2.2.2.2.2.1
theorem dX7_says_143 : decode cX7_says 143 = .ok (.ifCond .eq 7, 3) := dX7_says_r120.2.2.2.2.2.2.2.2.2.2.2.1
theorem dX7_says_146 : decode cX7_says 146 = .ok (.iconst 1, 1) := dX7_says_r120.2.2.2.2.2.2.2.2.2.2.2.2.1
theorem dX7_says_147 : decode cX7_says 147 = .ok (.goto 4, 3) := dX7_says_r120.2.2.2.2.2.2.2.2.2.2.2.2.2.1
theorem dX7_says_150 : decode cX7_says 150 = .ok (.iconst 0, 1) := dX7_says_r120.2.2.2.2.2.2.2.2.2.2.2.2.2.2.1
theorem dX7_says_151 : decode cX7_says 151 = .ok (.ireturn, 1) := dX7_says_r120.2.2.2.2.2.2.2.2.2.2.2.2.2.2.2.1
theorem dX7_says_r152 : zdcP cX7_says 152 [(.aload_n 0, 1), (.getfield 23, 3), (.iload_n 3, 1), (.iconst 0, 1), (.invokevirtual 140, 3), (.ireturn, 1), (.aload_n 0, 1), (.getfield 23, 3), (.getfield 143, 3), (.iload_n 3, 1), (.iaload, 1), (.ireturn, 1)] := zdcA_ok (by decide +kernel)
theorem dX7_says_152 : decode cX7_says 152 = .ok (.aload_n 0, 1) := dX7_says_r152.1
theorem dX7_says_153 : decode cX7_says 153 = .ok (.getfield 23, 3) := dX7_says_r152.2.1
theorem dX7_says_156 : decode cX7_says 156 = .ok (.iload_n 3, 1) := dX7_says_r152.2.2.1
theorem dX7_says_157 : decode cX7_says 157 = .ok (.iconst 0, 1) := dX7_says_r152.2.2.2.1
theorem dX7_says_158 : decode cX7_says 158 = .ok (.invokevirtual 140, 3) := dX7_says_r152.2.2.2.2.1
theorem dX7_says_161 : decode cX7_says 161 = .ok (.ireturn, 1) := dX7_says_r152.2.2.2.2.2.1
theorem dX7_says_162 : decode cX7_says 162 = .ok (.aload_n 0, 1) := dX7_says_r152.2.2.2.2.2.2.1
theorem dX7_says_163 : decode cX7_says 163 = .ok (.getfield 23, 3) := dX7_says_r152.2.2.2.2.2.2.2.1
theorem dX7_says_166 : decode cX7_says 166 = .ok (.getfield 143, 3) := dX7_says_r152.2.2.2.2.2.2.2.2.1
theorem dX7_says_169 : decode cX7_says 169 = .ok (.iload_n 3, 1) := dX7_says_r152.2.2.2.2.2.2.2.2.2.1
theorem dX7_says_170 : decode cX7_says 170 = .ok (.iaload, 1) := dX7_says_r152.2.2.2.2.2.2.2.2.2.2.1
theorem dX7_says_171 : decode cX7_says 171 = .ok (.ireturn, 1) := dX7_says_r152.2.2.2.2.2.2.2.2.2.2.2.1
def wp_74 (v1 : Int32) (v2 : Int32) (m : zf_Me) (Q : Int32 → zf_Me → Prop) : Prop := wp_114 v1 m (fun b1 m2 => ((b1 = false → wp_109 1 m2 (fun x3 m4 => Q x3 m4)) ∧ (b1 = true → wp_115 v2 m2 (fun b5 m6 => ((b5 = true → ((0 ≤ (Int32.toInt v1) ∧ (Int32.toInt v1) < 8) ∧ ((¬ ((m6.1 (47 + 2 * (Int32.toInt v1).toNat) 1)).toInt = (-1) → wp_65 3 (m6.1 (47 + 2 * (Int32.toInt v1).toNat) 1) m6 (fun b9 m10 => ((b9 = false → wp_109 2 m10 (fun x11 m12 => Q x11 m12)) ∧ (b9 = true → ((0 ≤ (Int32.toInt (m6.1 (47 + 2 * (Int32.toInt v1).toNat) 1)) ∧ (Int32.toInt (m6.1 (47 + 2 * (Int32.toInt v1).toNat) 1)) < (6 : Int)) ∧ wp_117 (m10.1 6 (Int32.toInt (m6.1 (47 + 2 * (Int32.toInt v1).toNat) 1)).toNat) v2 m10 (fun b13 m14 => ((b13 = true → (((v2.toInt < 1 ∨ v2.toInt > 6) → ((0 ≤ (Int32.toInt (m6.1 (47 + 2 * (Int32.toInt v1).toNat) 1)) ∧ (Int32.toInt (m6.1 (47 + 2 * (Int32.toInt v1).toNat) 1)) < (6 : Int)) ∧ Q (m14.1 8 (Int32.toInt (m6.1 (47 + 2 * (Int32.toInt v1).toNat) 1)).toNat) m14)) ∧ (v2.toInt = 1 → ((0 ≤ (Int32.toInt (m6.1 (47 + 2 * (Int32.toInt v1).toNat) 1)) ∧ (Int32.toInt (m6.1 (47 + 2 * (Int32.toInt v1).toNat) 1)) < (6 : Int)) ∧ wp_118 (m14.1 6 (Int32.toInt (m6.1 (47 + 2 * (Int32.toInt v1).toNat) 1)).toNat) m14 (fun x15 m16 => Q x15 m16))) ∧ (v2.toInt = 2 → wp_48 2 3 8 m14 (fun b17 m18 => ((b17 = false → Q 0 m18) ∧ (b17 = true → Q 1 m18)))) ∧ (v2.toInt = 3 → ((0 ≤ (Int32.toInt (m6.1 (47 + 2 * (Int32.toInt v1).toNat) 1)) ∧ (Int32.toInt (m6.1 (47 + 2 * (Int32.toInt v1).toNat) 1)) < (6 : Int)) ∧ wp_118 (m14.1 6 (Int32.toInt (m6.1 (47 + 2 * (Int32.toInt v1).toNat) 1)).toNat) m14 (fun x19 m20 => Q x19 m20))) ∧ (v2.toInt = 4 → wp_51 2 3 8 (m6.1 (47 + 2 * (Int32.toInt v1).toNat) 1) 0 m14 (fun x21 m22 => Q x21 m22)) ∧ (v2.toInt = 5 → wp_48 2 3 8 m14 (fun b23 m24 => ((b23 = false → Q 0 m24) ∧ (b23 = true → Q 1 m24)))) ∧ (v2.toInt = 6 → wp_51 2 3 8 (m6.1 (47 + 2 * (Int32.toInt v1).toNat) 1) 0 m14 (fun x25 m26 => Q x25 m26)))) ∧ (b13 = false → wp_109 2 m14 (fun x27 m28 => Q x27 m28))))))))) ∧ (((m6.1 (47 + 2 * (Int32.toInt v1).toNat) 1)).toInt = (-1) → wp_109 3 m6 (fun x29 m30 => Q x29 m30))))) ∧ (b5 = false → wp_109 1 m6 (fun x31 m32 => Q x31 m32)))))))
theorem zr_74 {d : Nat} (hd : 2 ≤ d) {v1 : Int32} {v2 : Int32} {Q : Int32 → zf_Me → Prop} {m : zf_Me} (h : wp_74 v1 v2 m Q) : zf_M d 74 [.inr (.inr (1, 0)), .inl v1, .inl v2] m (zf_I Q) := by
  obtain ⟨e, rfl⟩ : ∃ z, d = z + 1 := ⟨d - 1, by omega⟩
  unfold wp_74 at h
  refine zf_M_of (Nat.le_of_ble_eq_true rfl) zm_74 (L := [some (.inr (.inr (1, 0))), some (.inl v1), some (.inl v2), none]) rfl ?_
  refine zf_ld (pc' := 1) (v := .inl v1) dX7_says_0 rfl (fun _ _ _ => rfl) rfl rfl rfl ?_
  refine zf_is (k := 114) (pc' := 4) (r := []) dX7_says_1 rfl rfl rfl rfl rfl (zr_114 (by omega) h) (zf_kB (fun b1 m2 h => ?_))
  refine zf_ib_eq (tgt := 14) (pc' := 7) dX7_says_4 rfl rfl (fun g => ?_) (fun g => ?_)
  · replace h := h.1 g
    refine zf_ld (pc' := 15) (v := .inr (.inr (1, 0))) dX7_says_14 rfl (fun _ _ _ => rfl) rfl rfl rfl ?_
    refine zf_ic (v := 1) (pc' := 16) dX7_says_15 rfl rfl ?_
    refine zf_iv (k := 109) (pc' := 19) (r := []) dX7_says_16 rfl rfl rfl rfl (by decide) rfl rfl rfl (zr_109 (by omega) h) (zf_kI (fun x3 m4 h => ?_))
    exact zf_ri dX7_says_19 rfl h
  · replace h := h.2 g
    refine zf_ld (pc' := 8) (v := .inl v2) dX7_says_7 rfl (fun _ _ _ => rfl) rfl rfl rfl ?_
    refine zf_is (k := 115) (pc' := 11) (r := []) dX7_says_8 rfl rfl rfl rfl rfl (zr_115 (by omega) h) (zf_kB (fun b5 m6 h => ?_))
    refine zf_ib_ne (tgt := 20) (pc' := 14) dX7_says_11 rfl rfl (fun g => ?_) (fun g => ?_)
    · replace h := h.1 g
      refine zf_ld (pc' := 21) (v := .inr (.inr (1, 0))) dX7_says_20 rfl (fun _ _ _ => rfl) rfl rfl rfl ?_
      refine zf_gfr (pc' := 24) (b := 1) dX7_says_21 rfl rfl (by decide) rfl rfl ?_
      refine zf_ld (pc' := 25) (v := .inl v1) dX7_says_24 rfl (fun _ _ _ => rfl) rfl rfl rfl ?_
      refine zf_aal (b := 47) (n := 8) (pc' := 26) dX7_says_25 rfl (by decide) rfl (by decide) rfl h.1 zf_row1 ?_
      have hb7 := h.1
      replace h := h.2
      have hx8 : zf_shelf (47 + 2 * (Int32.toInt v1).toNat) (48 + 2 * (Int32.toInt v1).toNat) := zf_shelves (by omega)
      refine zf_gfi (pc' := 29) dX7_says_26 rfl rfl hx8.1 hx8.2.1 rfl ?_
      refine zf_st (pc' := 30) (L2 := [some (.inr (.inr (1, 0))), some (.inl v1), some (.inl v2), some (.inl (m6.1 (47 + 2 * (Int32.toInt v1).toNat) 1))]) dX7_says_29 rfl (fun _ _ _ => rfl) rfl rfl rfl rfl rfl rfl ?_
      refine zf_ld (pc' := 31) (v := .inl (m6.1 (47 + 2 * (Int32.toInt v1).toNat) 1)) dX7_says_30 rfl (fun _ _ _ => rfl) rfl rfl rfl ?_
      refine zf_ic (v := (-1)) (pc' := 32) dX7_says_31 rfl rfl ?_
      refine zf_icmp_ne (tgt := 41) (pc' := 35) dX7_says_32 rfl rfl (fun g => ?_) (fun g => ?_)
      · replace h := h.1 g
        refine zf_ld (pc' := 42) (v := .inr (.inr (1, 0))) dX7_says_41 rfl (fun _ _ _ => rfl) rfl rfl rfl ?_
        refine zf_gfr (pc' := 45) (b := 2) dX7_says_42 rfl rfl (by decide) rfl rfl ?_
        refine zf_gfr (pc' := 48) (b := 3) dX7_says_45 rfl rfl zf_walk2.1 zf_walk2.2.1 rfl ?_
        refine zf_ld (pc' := 49) (v := .inl (m6.1 (47 + 2 * (Int32.toInt v1).toNat) 1)) dX7_says_48 rfl (fun _ _ _ => rfl) rfl rfl rfl ?_
        refine zf_iv (k := 65) (pc' := 52) (r := []) dX7_says_49 rfl rfl rfl rfl zf_walk2.2.2.1.1 zf_walk2.2.2.1.2.1 rfl rfl (zr_65 (by omega) zf_walk2.2.2.1 h) (zf_kB (fun b9 m10 h => ?_))
        refine zf_ib_eq (tgt := 74) (pc' := 55) dX7_says_52 rfl rfl (fun g => ?_) (fun g => ?_)
        · replace h := h.1 g
          refine zf_ld (pc' := 75) (v := .inr (.inr (1, 0))) dX7_says_74 rfl (fun _ _ _ => rfl) rfl rfl rfl ?_
          refine zf_ic (v := 2) (pc' := 76) dX7_says_75 rfl rfl ?_
          refine zf_iv (k := 109) (pc' := 79) (r := []) dX7_says_76 rfl rfl rfl rfl (by decide) rfl rfl rfl (zr_109 (by omega) h) (zf_kI (fun x11 m12 h => ?_))
          exact zf_ri dX7_says_79 rfl h
        · replace h := h.2 g
          refine zf_ld (pc' := 56) (v := .inr (.inr (1, 0))) dX7_says_55 rfl (fun _ _ _ => rfl) rfl rfl rfl ?_
          refine zf_gfr (pc' := 59) (b := 2) dX7_says_56 rfl rfl (by decide) rfl rfl ?_
          refine zf_gfr (pc' := 62) (b := 3) dX7_says_59 rfl rfl zf_walk2.1 zf_walk2.2.1 rfl ?_
          refine zf_gfr (pc' := 65) (b := 6) dX7_says_62 rfl rfl zf_walk2.2.2.1.1 zf_walk2.2.2.1.2.1 rfl ?_
          refine zf_ld (pc' := 66) (v := .inl (m6.1 (47 + 2 * (Int32.toInt v1).toNat) 1)) dX7_says_65 rfl (fun _ _ _ => rfl) rfl rfl rfl ?_
          refine zf_ial (pc' := 67) dX7_says_66 rfl zf_walk2.2.2.1.2.2.2.2.1.1 zf_walk2.2.2.1.2.2.2.2.1.2 h.1 rfl ?_
          replace h := h.2
          refine zf_ld (pc' := 68) (v := .inl v2) dX7_says_67 rfl (fun _ _ _ => rfl) rfl rfl rfl ?_
          refine zf_is (k := 117) (pc' := 71) (r := []) dX7_says_68 rfl rfl rfl rfl rfl (zr_117 (by omega) h) (zf_kB (fun b13 m14 h => ?_))
          refine zf_ib_ne (tgt := 80) (pc' := 74) dX7_says_71 rfl rfl (fun g => ?_) (fun g => ?_)
          · replace h := h.1 g
            refine zf_ld (pc' := 81) (v := .inl v2) dX7_says_80 rfl (fun _ _ _ => rfl) rfl rfl rfl ?_
            refine zf_tsc (tgd := 162) dX7_says_81 rfl [120, 136, 120, 152, 136, 152] (by decide) (by decide) (fun g => ?_) (zl_cons (fun g => ?_) (zl_cons (fun g => ?_) (zl_cons (fun g => ?_) (zl_cons (fun g => ?_) (zl_cons (fun g => ?_) (zl_cons (fun g => ?_) (zl_nil)))))))
            · replace h := h.1 (by omega)
              refine zf_ld (pc' := 163) (v := .inr (.inr (1, 0))) dX7_says_162 rfl (fun _ _ _ => rfl) rfl rfl rfl ?_
              refine zf_gfr (pc' := 166) (b := 2) dX7_says_163 rfl rfl (by decide) rfl rfl ?_
              refine zf_gfr (pc' := 169) (b := 8) dX7_says_166 rfl rfl zf_walk2.1 zf_walk2.2.1 rfl ?_
              refine zf_ld (pc' := 170) (v := .inl (m6.1 (47 + 2 * (Int32.toInt v1).toNat) 1)) dX7_says_169 rfl (fun _ _ _ => rfl) rfl rfl rfl ?_
              refine zf_ial (pc' := 171) dX7_says_170 rfl zf_walk2.2.2.2.1 zf_walk2.2.2.2.2 h.1 rfl ?_
              replace h := h.2
              exact zf_ri dX7_says_171 rfl h
            · replace h := h.2.1 (by omega)
              refine zf_ld (pc' := 121) (v := .inr (.inr (1, 0))) dX7_says_120 rfl (fun _ _ _ => rfl) rfl rfl rfl ?_
              refine zf_gfr (pc' := 124) (b := 2) dX7_says_121 rfl rfl (by decide) rfl rfl ?_
              refine zf_gfr (pc' := 127) (b := 3) dX7_says_124 rfl rfl zf_walk2.1 zf_walk2.2.1 rfl ?_
              refine zf_gfr (pc' := 130) (b := 6) dX7_says_127 rfl rfl zf_walk2.2.2.1.1 zf_walk2.2.2.1.2.1 rfl ?_
              refine zf_ld (pc' := 131) (v := .inl (m6.1 (47 + 2 * (Int32.toInt v1).toNat) 1)) dX7_says_130 rfl (fun _ _ _ => rfl) rfl rfl rfl ?_
              refine zf_ial (pc' := 132) dX7_says_131 rfl zf_walk2.2.2.1.2.2.2.2.1.1 zf_walk2.2.2.1.2.2.2.2.1.2 h.1 rfl ?_
              replace h := h.2
              refine zf_is (k := 118) (pc' := 135) (r := []) dX7_says_132 rfl rfl rfl rfl rfl (zr_118 (by omega) h) (zf_kI (fun x15 m16 h => ?_))
              exact zf_ri dX7_says_135 rfl h
            · replace h := h.2.2.1 (by omega)
              refine zf_ld (pc' := 137) (v := .inr (.inr (1, 0))) dX7_says_136 rfl (fun _ _ _ => rfl) rfl rfl rfl ?_
              refine zf_gfr (pc' := 140) (b := 2) dX7_says_137 rfl rfl (by decide) rfl rfl ?_
              refine zf_iv (k := 48) (pc' := 143) (r := []) dX7_says_140 rfl rfl rfl rfl zf_walk2.1 zf_walk2.2.1 rfl rfl (zr_48 (by omega) zf_walk2 h) (zf_kB (fun b17 m18 h => ?_))
              refine zf_ib_eq (tgt := 150) (pc' := 146) dX7_says_143 rfl rfl (fun g => ?_) (fun g => ?_)
              · replace h := h.1 g
                refine zf_ic (v := 0) (pc' := 151) dX7_says_150 rfl rfl ?_
                exact zf_ri dX7_says_151 rfl h
              · replace h := h.2 g
                refine zf_ic (v := 1) (pc' := 147) dX7_says_146 rfl rfl ?_
                refine zf_goto (tgt := 151) dX7_says_147 rfl ?_
                exact zf_ri dX7_says_151 rfl h
            · replace h := h.2.2.2.1 (by omega)
              refine zf_ld (pc' := 121) (v := .inr (.inr (1, 0))) dX7_says_120 rfl (fun _ _ _ => rfl) rfl rfl rfl ?_
              refine zf_gfr (pc' := 124) (b := 2) dX7_says_121 rfl rfl (by decide) rfl rfl ?_
              refine zf_gfr (pc' := 127) (b := 3) dX7_says_124 rfl rfl zf_walk2.1 zf_walk2.2.1 rfl ?_
              refine zf_gfr (pc' := 130) (b := 6) dX7_says_127 rfl rfl zf_walk2.2.2.1.1 zf_walk2.2.2.1.2.1 rfl ?_
              refine zf_ld (pc' := 131) (v := .inl (m6.1 (47 + 2 * (Int32.toInt v1).toNat) 1)) dX7_says_130 rfl (fun _ _ _ => rfl) rfl rfl rfl ?_
              refine zf_ial (pc' := 132) dX7_says_131 rfl zf_walk2.2.2.1.2.2.2.2.1.1 zf_walk2.2.2.1.2.2.2.2.1.2 h.1 rfl ?_
              replace h := h.2
              refine zf_is (k := 118) (pc' := 135) (r := []) dX7_says_132 rfl rfl rfl rfl rfl (zr_118 (by omega) h) (zf_kI (fun x19 m20 h => ?_))
              exact zf_ri dX7_says_135 rfl h
            · replace h := h.2.2.2.2.1 (by omega)
              refine zf_ld (pc' := 153) (v := .inr (.inr (1, 0))) dX7_says_152 rfl (fun _ _ _ => rfl) rfl rfl rfl ?_
              refine zf_gfr (pc' := 156) (b := 2) dX7_says_153 rfl rfl (by decide) rfl rfl ?_
              refine zf_ld (pc' := 157) (v := .inl (m6.1 (47 + 2 * (Int32.toInt v1).toNat) 1)) dX7_says_156 rfl (fun _ _ _ => rfl) rfl rfl rfl ?_
              refine zf_ic (v := 0) (pc' := 158) dX7_says_157 rfl rfl ?_
              refine zf_iv (k := 51) (pc' := 161) (r := []) dX7_says_158 rfl rfl rfl rfl zf_walk2.1 zf_walk2.2.1 rfl rfl (zr_51 (by omega) zf_walk2 h) (zf_kI (fun x21 m22 h => ?_))
              exact zf_ri dX7_says_161 rfl h
            · replace h := h.2.2.2.2.2.1 (by omega)
              refine zf_ld (pc' := 137) (v := .inr (.inr (1, 0))) dX7_says_136 rfl (fun _ _ _ => rfl) rfl rfl rfl ?_
              refine zf_gfr (pc' := 140) (b := 2) dX7_says_137 rfl rfl (by decide) rfl rfl ?_
              refine zf_iv (k := 48) (pc' := 143) (r := []) dX7_says_140 rfl rfl rfl rfl zf_walk2.1 zf_walk2.2.1 rfl rfl (zr_48 (by omega) zf_walk2 h) (zf_kB (fun b23 m24 h => ?_))
              refine zf_ib_eq (tgt := 150) (pc' := 146) dX7_says_143 rfl rfl (fun g => ?_) (fun g => ?_)
              · replace h := h.1 g
                refine zf_ic (v := 0) (pc' := 151) dX7_says_150 rfl rfl ?_
                exact zf_ri dX7_says_151 rfl h
              · replace h := h.2 g
                refine zf_ic (v := 1) (pc' := 147) dX7_says_146 rfl rfl ?_
                refine zf_goto (tgt := 151) dX7_says_147 rfl ?_
                exact zf_ri dX7_says_151 rfl h
            · replace h := h.2.2.2.2.2.2 (by omega)
              refine zf_ld (pc' := 153) (v := .inr (.inr (1, 0))) dX7_says_152 rfl (fun _ _ _ => rfl) rfl rfl rfl ?_
              refine zf_gfr (pc' := 156) (b := 2) dX7_says_153 rfl rfl (by decide) rfl rfl ?_
              refine zf_ld (pc' := 157) (v := .inl (m6.1 (47 + 2 * (Int32.toInt v1).toNat) 1)) dX7_says_156 rfl (fun _ _ _ => rfl) rfl rfl rfl ?_
              refine zf_ic (v := 0) (pc' := 158) dX7_says_157 rfl rfl ?_
              refine zf_iv (k := 51) (pc' := 161) (r := []) dX7_says_158 rfl rfl rfl rfl zf_walk2.1 zf_walk2.2.1 rfl rfl (zr_51 (by omega) zf_walk2 h) (zf_kI (fun x25 m26 h => ?_))
              exact zf_ri dX7_says_161 rfl h
          · replace h := h.2 g
            refine zf_ld (pc' := 75) (v := .inr (.inr (1, 0))) dX7_says_74 rfl (fun _ _ _ => rfl) rfl rfl rfl ?_
            refine zf_ic (v := 2) (pc' := 76) dX7_says_75 rfl rfl ?_
            refine zf_iv (k := 109) (pc' := 79) (r := []) dX7_says_76 rfl rfl rfl rfl (by decide) rfl rfl rfl (zr_109 (by omega) h) (zf_kI (fun x27 m28 h => ?_))
            exact zf_ri dX7_says_79 rfl h
      · replace h := h.2 g
        refine zf_ld (pc' := 36) (v := .inr (.inr (1, 0))) dX7_says_35 rfl (fun _ _ _ => rfl) rfl rfl rfl ?_
        refine zf_ic (v := 3) (pc' := 37) dX7_says_36 rfl rfl ?_
        refine zf_iv (k := 109) (pc' := 40) (r := []) dX7_says_37 rfl rfl rfl rfl (by decide) rfl rfl rfl (zr_109 (by omega) h) (zf_kI (fun x29 m30 h => ?_))
        exact zf_ri dX7_says_40 rfl h
    · replace h := h.2 g
      refine zf_ld (pc' := 15) (v := .inr (.inr (1, 0))) dX7_says_14 rfl (fun _ _ _ => rfl) rfl rfl rfl ?_
      refine zf_ic (v := 1) (pc' := 16) dX7_says_15 rfl rfl ?_
      refine zf_iv (k := 109) (pc' := 19) (r := []) dX7_says_16 rfl rfl rfl rfl (by decide) rfl rfl rfl (zr_109 (by omega) h) (zf_kI (fun x31 m32 h => ?_))
      exact zf_ri dX7_says_19 rfl h
def zt_75 : zx_MT := (7, yX7_furlong, cX7_furlong, 3, (some FieldType.int), 2, 0)
theorem zm_75 : zx_m 75 = zt_75 := rfl
theorem dX7_furlong_r0 : zdcP cX7_furlong 0 [(.iload_n 1, 1), (.bipush (-3), 2), (.if_icmp .lt 8, 3), (.iload_n 1, 1), (.iconst 3, 1), (.if_icmp .le 10, 3), (.aload_n 0, 1), (.bipush 6, 2), (.invokevirtual 82, 3), (.ireturn, 1), (.aload_n 0, 1), (.getfield 23, 3), (.getfield 30, 3), (.getfield 146, 3), (.bipush 24, 2), (.if_icmp .lt 10, 3)] := zdcA_ok (by decide +kernel)
theorem dX7_furlong_0 : decode cX7_furlong 0 = .ok (.iload_n 1, 1) := dX7_furlong_r0.1
theorem dX7_furlong_1 : decode cX7_furlong 1 = .ok (.bipush (-3), 2) := dX7_furlong_r0.2.1
theorem dX7_furlong_3 : decode cX7_furlong 3 = .ok (.if_icmp .lt 8, 3) := dX7_furlong_r0.2.2.1
theorem dX7_furlong_6 : decode cX7_furlong 6 = .ok (.iload_n 1, 1) := dX7_furlong_r0.2.2.2.1
theorem dX7_furlong_7 : decode cX7_furlong 7 = .ok (.iconst 3, 1) := dX7_furlong_r0.2.2.2.2.1
theorem dX7_furlong_8 : decode cX7_furlong 8 = .ok (.if_icmp .le 10, 3) := dX7_furlong_r0.2.2.2.2.2.1
theorem dX7_furlong_11 : decode cX7_furlong 11 = .ok (.aload_n 0, 1) := dX7_furlong_r0.2.2.2.2.2.2.1
theorem dX7_furlong_12 : decode cX7_furlong 12 = .ok (.bipush 6, 2) := dX7_furlong_r0.2.2.2.2.2.2.2.1
theorem dX7_furlong_14 : decode cX7_furlong 14 = .ok (.invokevirtual 82, 3) := dX7_furlong_r0.2.2.2.2.2.2.2.2.1
theorem dX7_furlong_17 : decode cX7_furlong 17 = .ok (.ireturn, 1) := dX7_furlong_r0.2.2.2.2.2.2.2.2.2.1
theorem dX7_furlong_18 : decode cX7_furlong 18 = .ok (.aload_n 0, 1) := dX7_furlong_r0.2.2.2.2.2.2.2.2.2.2.1
theorem dX7_furlong_19 : decode cX7_furlong 19 = .ok (.getfield 23, 3) := dX7_furlong_r0.2.2.2.2.2.2.2.2.2.2.2.1
theorem dX7_furlong_22 : decode cX7_furlong 22 = .ok (.getfield 30, 3) := dX7_furlong_r0.2.2.2.2.2.2.2.2.2.2.2.2.1
theorem dX7_furlong_25 : decode cX7_furlong 25 = .ok (.getfield 146, 3) := dX7_furlong_r0.2.2.2.2.2.2.2.2.2.2.2.2.2.1
theorem dX7_furlong_28 : decode cX7_furlong 28 = .ok (.bipush 24, 2) := dX7_furlong_r0.2.2.2.2.2.2.2.2.2.2.2.2.2.2.1
theorem dX7_furlong_30 : decode cX7_furlong 30 = .ok (.if_icmp .lt 10, 3) := dX7_furlong_r0.2.2.2.2.2.2.2.2.2.2.2.2.2.2.2.1
theorem dX7_furlong_r33 : zdcP cX7_furlong 33 [(.aload_n 0, 1), (.bipush 7, 2), (.invokevirtual 82, 3), (.ireturn, 1), (.aload_n 0, 1), (.getfield 23, 3), (.getfield 30, 3), (.iload_n 1, 1), (.iload_n 2, 1), (.invokevirtual 149, 3), (.ireturn, 1)] := zdcA_ok (by decide +kernel)
theorem dX7_furlong_33 : decode cX7_furlong 33 = .ok (.aload_n 0, 1) := dX7_furlong_r33.1
theorem dX7_furlong_34 : decode cX7_furlong 34 = .ok (.bipush 7, 2) := dX7_furlong_r33.2.1
theorem dX7_furlong_36 : decode cX7_furlong 36 = .ok (.invokevirtual 82, 3) := dX7_furlong_r33.2.2.1
theorem dX7_furlong_39 : decode cX7_furlong 39 = .ok (.ireturn, 1) := dX7_furlong_r33.2.2.2.1
theorem dX7_furlong_40 : decode cX7_furlong 40 = .ok (.aload_n 0, 1) := dX7_furlong_r33.2.2.2.2.1
theorem dX7_furlong_41 : decode cX7_furlong 41 = .ok (.getfield 23, 3) := dX7_furlong_r33.2.2.2.2.2.1
theorem dX7_furlong_44 : decode cX7_furlong 44 = .ok (.getfield 30, 3) := dX7_furlong_r33.2.2.2.2.2.2.1
theorem dX7_furlong_47 : decode cX7_furlong 47 = .ok (.iload_n 1, 1) := dX7_furlong_r33.2.2.2.2.2.2.2.1
theorem dX7_furlong_48 : decode cX7_furlong 48 = .ok (.iload_n 2, 1) := dX7_furlong_r33.2.2.2.2.2.2.2.2.1
theorem dX7_furlong_49 : decode cX7_furlong 49 = .ok (.invokevirtual 149, 3) := dX7_furlong_r33.2.2.2.2.2.2.2.2.2.1
theorem dX7_furlong_52 : decode cX7_furlong 52 = .ok (.ireturn, 1) := dX7_furlong_r33.2.2.2.2.2.2.2.2.2.2.1
def wp_75 (v1 : Int32) (v2 : Int32) (m : zf_Me) (Q : Int32 → zf_Me → Prop) : Prop := ((v1.toInt < (-3) → wp_109 6 m (fun x1 m2 => Q x1 m2)) ∧ (v1.toInt ≥ (-3) → ((v1.toInt ≤ 3 → ((((m.1 3 4)).toInt < 24 → wp_66 3 v1 v2 m (fun x3 m4 => Q x3 m4)) ∧ (((m.1 3 4)).toInt ≥ 24 → wp_109 7 m (fun x5 m6 => Q x5 m6)))) ∧ (v1.toInt > 3 → wp_109 6 m (fun x7 m8 => Q x7 m8)))))
theorem zr_75 {d : Nat} (hd : 1 ≤ d) {v1 : Int32} {v2 : Int32} {Q : Int32 → zf_Me → Prop} {m : zf_Me} (h : wp_75 v1 v2 m Q) : zf_M d 75 [.inr (.inr (1, 0)), .inl v1, .inl v2] m (zf_I Q) := by
  obtain ⟨e, rfl⟩ : ∃ z, d = z + 1 := ⟨d - 1, by omega⟩
  unfold wp_75 at h
  refine zf_M_of (Nat.le_of_ble_eq_true rfl) zm_75 (L := [some (.inr (.inr (1, 0))), some (.inl v1), some (.inl v2)]) rfl ?_
  refine zf_ld (pc' := 1) (v := .inl v1) dX7_furlong_0 rfl (fun _ _ _ => rfl) rfl rfl rfl ?_
  refine zf_bi (v := (-3)) (pc' := 3) dX7_furlong_1 rfl rfl ?_
  refine zf_icmp_lt (tgt := 11) (pc' := 6) dX7_furlong_3 rfl rfl (fun g => ?_) (fun g => ?_)
  · replace h := h.1 g
    refine zf_ld (pc' := 12) (v := .inr (.inr (1, 0))) dX7_furlong_11 rfl (fun _ _ _ => rfl) rfl rfl rfl ?_
    refine zf_bi (v := 6) (pc' := 14) dX7_furlong_12 rfl rfl ?_
    refine zf_iv (k := 109) (pc' := 17) (r := []) dX7_furlong_14 rfl rfl rfl rfl (by decide) rfl rfl rfl (zr_109 (by omega) h) (zf_kI (fun x1 m2 h => ?_))
    exact zf_ri dX7_furlong_17 rfl h
  · replace h := h.2 g
    refine zf_ld (pc' := 7) (v := .inl v1) dX7_furlong_6 rfl (fun _ _ _ => rfl) rfl rfl rfl ?_
    refine zf_ic (v := 3) (pc' := 8) dX7_furlong_7 rfl rfl ?_
    refine zf_icmp_le (tgt := 18) (pc' := 11) dX7_furlong_8 rfl rfl (fun g => ?_) (fun g => ?_)
    · replace h := h.1 g
      refine zf_ld (pc' := 19) (v := .inr (.inr (1, 0))) dX7_furlong_18 rfl (fun _ _ _ => rfl) rfl rfl rfl ?_
      refine zf_gfr (pc' := 22) (b := 2) dX7_furlong_19 rfl rfl (by decide) rfl rfl ?_
      refine zf_gfr (pc' := 25) (b := 3) dX7_furlong_22 rfl rfl zf_walk2.1 zf_walk2.2.1 rfl ?_
      refine zf_gfi (pc' := 28) dX7_furlong_25 rfl rfl zf_walk2.2.2.1.1 zf_walk2.2.2.1.2.1 rfl ?_
      refine zf_bi (v := 24) (pc' := 30) dX7_furlong_28 rfl rfl ?_
      refine zf_icmp_lt (tgt := 40) (pc' := 33) dX7_furlong_30 rfl rfl (fun g => ?_) (fun g => ?_)
      · replace h := h.1 g
        refine zf_ld (pc' := 41) (v := .inr (.inr (1, 0))) dX7_furlong_40 rfl (fun _ _ _ => rfl) rfl rfl rfl ?_
        refine zf_gfr (pc' := 44) (b := 2) dX7_furlong_41 rfl rfl (by decide) rfl rfl ?_
        refine zf_gfr (pc' := 47) (b := 3) dX7_furlong_44 rfl rfl zf_walk2.1 zf_walk2.2.1 rfl ?_
        refine zf_ld (pc' := 48) (v := .inl v1) dX7_furlong_47 rfl (fun _ _ _ => rfl) rfl rfl rfl ?_
        refine zf_ld (pc' := 49) (v := .inl v2) dX7_furlong_48 rfl (fun _ _ _ => rfl) rfl rfl rfl ?_
        refine zf_iv (k := 66) (pc' := 52) (r := []) dX7_furlong_49 rfl rfl rfl rfl zf_walk2.2.2.1.1 zf_walk2.2.2.1.2.1 rfl rfl (zr_66 (by omega) zf_walk2.2.2.1 h) (zf_kI (fun x3 m4 h => ?_))
        exact zf_ri dX7_furlong_52 rfl h
      · replace h := h.2 g
        refine zf_ld (pc' := 34) (v := .inr (.inr (1, 0))) dX7_furlong_33 rfl (fun _ _ _ => rfl) rfl rfl rfl ?_
        refine zf_bi (v := 7) (pc' := 36) dX7_furlong_34 rfl rfl ?_
        refine zf_iv (k := 109) (pc' := 39) (r := []) dX7_furlong_36 rfl rfl rfl rfl (by decide) rfl rfl rfl (zr_109 (by omega) h) (zf_kI (fun x5 m6 h => ?_))
        exact zf_ri dX7_furlong_39 rfl h
    · replace h := h.2 g
      refine zf_ld (pc' := 12) (v := .inr (.inr (1, 0))) dX7_furlong_11 rfl (fun _ _ _ => rfl) rfl rfl rfl ?_
      refine zf_bi (v := 6) (pc' := 14) dX7_furlong_12 rfl rfl ?_
      refine zf_iv (k := 109) (pc' := 17) (r := []) dX7_furlong_14 rfl rfl rfl rfl (by decide) rfl rfl rfl (zr_109 (by omega) h) (zf_kI (fun x7 m8 h => ?_))
      exact zf_ri dX7_furlong_17 rfl h
def zt_76 : zx_MT := (7, yX7_person, cX7_person, 3, (some FieldType.int), 2, 0)
theorem zm_76 : zx_m 76 = zt_76 := rfl
theorem dX7_person_r0 : zdcP cX7_person 0 [(.iload_n 1, 1), (.invokestatic 124, 3), (.ifCond .ne 9, 3), (.aload_n 0, 1), (.iconst 1, 1), (.invokevirtual 82, 3), (.ireturn, 1), (.iload_n 2, 1), (.ifCond .lt 9, 3), (.iload_n 2, 1), (.bipush 9, 2), (.if_icmp .le 10, 3), (.aload_n 0, 1), (.bipush 6, 2), (.invokevirtual 82, 3), (.ireturn, 1)] := zdcA_ok (by decide +kernel)
theorem dX7_person_0 : decode cX7_person 0 = .ok (.iload_n 1, 1) := dX7_person_r0.1
theorem dX7_person_1 : decode cX7_person 1 = .ok (.invokestatic 124, 3) := dX7_person_r0.2.1
theorem dX7_person_4 : decode cX7_person 4 = .ok (.ifCond .ne 9, 3) := dX7_person_r0.2.2.1
theorem dX7_person_7 : decode cX7_person 7 = .ok (.aload_n 0, 1) := dX7_person_r0.2.2.2.1
theorem dX7_person_8 : decode cX7_person 8 = .ok (.iconst 1, 1) := dX7_person_r0.2.2.2.2.1
theorem dX7_person_9 : decode cX7_person 9 = .ok (.invokevirtual 82, 3) := dX7_person_r0.2.2.2.2.2.1
theorem dX7_person_12 : decode cX7_person 12 = .ok (.ireturn, 1) := dX7_person_r0.2.2.2.2.2.2.1
theorem dX7_person_13 : decode cX7_person 13 = .ok (.iload_n 2, 1) := dX7_person_r0.2.2.2.2.2.2.2.1
theorem dX7_person_14 : decode cX7_person 14 = .ok (.ifCond .lt 9, 3) := dX7_person_r0.2.2.2.2.2.2.2.2.1
theorem dX7_person_17 : decode cX7_person 17 = .ok (.iload_n 2, 1) := dX7_person_r0.2.2.2.2.2.2.2.2.2.1
theorem dX7_person_18 : decode cX7_person 18 = .ok (.bipush 9, 2) := dX7_person_r0.2.2.2.2.2.2.2.2.2.2.1
theorem dX7_person_20 : decode cX7_person 20 = .ok (.if_icmp .le 10, 3) := dX7_person_r0.2.2.2.2.2.2.2.2.2.2.2.1
theorem dX7_person_23 : decode cX7_person 23 = .ok (.aload_n 0, 1) := dX7_person_r0.2.2.2.2.2.2.2.2.2.2.2.2.1
theorem dX7_person_24 : decode cX7_person 24 = .ok (.bipush 6, 2) := dX7_person_r0.2.2.2.2.2.2.2.2.2.2.2.2.2.1
theorem dX7_person_26 : decode cX7_person 26 = .ok (.invokevirtual 82, 3) := dX7_person_r0.2.2.2.2.2.2.2.2.2.2.2.2.2.2.1
theorem dX7_person_29 : decode cX7_person 29 = .ok (.ireturn, 1) := dX7_person_r0.2.2.2.2.2.2.2.2.2.2.2.2.2.2.2.1
theorem dX7_person_r30 : zdcP cX7_person 30 [(.aload_n 0, 1), (.getfield 23, 3), (.getfield 30, 3), (.getfield 153, 3), (.bipush 6, 2), (.if_icmp .lt 10, 3), (.aload_n 0, 1), (.bipush 7, 2), (.invokevirtual 82, 3), (.ireturn, 1), (.aload_n 0, 1), (.getfield 23, 3), (.iload_n 1, 1), (.iload_n 2, 1), (.invokevirtual 156, 3), (.ireturn, 1)] := zdcA_ok (by decide +kernel)
theorem dX7_person_30 : decode cX7_person 30 = .ok (.aload_n 0, 1) := dX7_person_r30.1
theorem dX7_person_31 : decode cX7_person 31 = .ok (.getfield 23, 3) := dX7_person_r30.2.1
theorem dX7_person_34 : decode cX7_person 34 = .ok (.getfield 30, 3) := dX7_person_r30.2.2.1
theorem dX7_person_37 : decode cX7_person 37 = .ok (.getfield 153, 3) := dX7_person_r30.2.2.2.1
theorem dX7_person_40 : decode cX7_person 40 = .ok (.bipush 6, 2) := dX7_person_r30.2.2.2.2.1
theorem dX7_person_42 : decode cX7_person 42 = .ok (.if_icmp .lt 10, 3) := dX7_person_r30.2.2.2.2.2.1
theorem dX7_person_45 : decode cX7_person 45 = .ok (.aload_n 0, 1) := dX7_person_r30.2.2.2.2.2.2.1
theorem dX7_person_46 : decode cX7_person 46 = .ok (.bipush 7, 2) := dX7_person_r30.2.2.2.2.2.2.2.1
theorem dX7_person_48 : decode cX7_person 48 = .ok (.invokevirtual 82, 3) := dX7_person_r30.2.2.2.2.2.2.2.2.1
theorem dX7_person_51 : decode cX7_person 51 = .ok (.ireturn, 1) := dX7_person_r30.2.2.2.2.2.2.2.2.2.1
theorem dX7_person_52 : decode cX7_person 52 = .ok (.aload_n 0, 1) := dX7_person_r30.2.2.2.2.2.2.2.2.2.2.1
theorem dX7_person_53 : decode cX7_person 53 = .ok (.getfield 23, 3) := dX7_person_r30.2.2.2.2.2.2.2.2.2.2.2.1
theorem dX7_person_56 : decode cX7_person 56 = .ok (.iload_n 1, 1) := dX7_person_r30.2.2.2.2.2.2.2.2.2.2.2.2.1
theorem dX7_person_57 : decode cX7_person 57 = .ok (.iload_n 2, 1) := dX7_person_r30.2.2.2.2.2.2.2.2.2.2.2.2.2.1
theorem dX7_person_58 : decode cX7_person 58 = .ok (.invokevirtual 156, 3) := dX7_person_r30.2.2.2.2.2.2.2.2.2.2.2.2.2.2.1
theorem dX7_person_61 : decode cX7_person 61 = .ok (.ireturn, 1) := dX7_person_r30.2.2.2.2.2.2.2.2.2.2.2.2.2.2.2.1
def wp_76 (v1 : Int32) (v2 : Int32) (m : zf_Me) (Q : Int32 → zf_Me → Prop) : Prop := wp_115 v1 m (fun b1 m2 => ((b1 = true → ((v2.toInt < 0 → wp_109 6 m2 (fun x3 m4 => Q x3 m4)) ∧ (v2.toInt ≥ 0 → ((v2.toInt ≤ 9 → ((((m2.1 3 5)).toInt < 6 → wp_44 2 3 8 v1 v2 m2 (fun x5 m6 => Q x5 m6)) ∧ (((m2.1 3 5)).toInt ≥ 6 → wp_109 7 m2 (fun x7 m8 => Q x7 m8)))) ∧ (v2.toInt > 9 → wp_109 6 m2 (fun x9 m10 => Q x9 m10)))))) ∧ (b1 = false → wp_109 1 m2 (fun x11 m12 => Q x11 m12))))
theorem zr_76 {d : Nat} (hd : 1 ≤ d) {v1 : Int32} {v2 : Int32} {Q : Int32 → zf_Me → Prop} {m : zf_Me} (h : wp_76 v1 v2 m Q) : zf_M d 76 [.inr (.inr (1, 0)), .inl v1, .inl v2] m (zf_I Q) := by
  obtain ⟨e, rfl⟩ : ∃ z, d = z + 1 := ⟨d - 1, by omega⟩
  unfold wp_76 at h
  refine zf_M_of (Nat.le_of_ble_eq_true rfl) zm_76 (L := [some (.inr (.inr (1, 0))), some (.inl v1), some (.inl v2)]) rfl ?_
  refine zf_ld (pc' := 1) (v := .inl v1) dX7_person_0 rfl (fun _ _ _ => rfl) rfl rfl rfl ?_
  refine zf_is (k := 115) (pc' := 4) (r := []) dX7_person_1 rfl rfl rfl rfl rfl (zr_115 (by omega) h) (zf_kB (fun b1 m2 h => ?_))
  refine zf_ib_ne (tgt := 13) (pc' := 7) dX7_person_4 rfl rfl (fun g => ?_) (fun g => ?_)
  · replace h := h.1 g
    refine zf_ld (pc' := 14) (v := .inl v2) dX7_person_13 rfl (fun _ _ _ => rfl) rfl rfl rfl ?_
    refine zf_if_lt (tgt := 23) (pc' := 17) dX7_person_14 rfl rfl (fun g => ?_) (fun g => ?_)
    · replace h := h.1 g
      refine zf_ld (pc' := 24) (v := .inr (.inr (1, 0))) dX7_person_23 rfl (fun _ _ _ => rfl) rfl rfl rfl ?_
      refine zf_bi (v := 6) (pc' := 26) dX7_person_24 rfl rfl ?_
      refine zf_iv (k := 109) (pc' := 29) (r := []) dX7_person_26 rfl rfl rfl rfl (by decide) rfl rfl rfl (zr_109 (by omega) h) (zf_kI (fun x3 m4 h => ?_))
      exact zf_ri dX7_person_29 rfl h
    · replace h := h.2 g
      refine zf_ld (pc' := 18) (v := .inl v2) dX7_person_17 rfl (fun _ _ _ => rfl) rfl rfl rfl ?_
      refine zf_bi (v := 9) (pc' := 20) dX7_person_18 rfl rfl ?_
      refine zf_icmp_le (tgt := 30) (pc' := 23) dX7_person_20 rfl rfl (fun g => ?_) (fun g => ?_)
      · replace h := h.1 g
        refine zf_ld (pc' := 31) (v := .inr (.inr (1, 0))) dX7_person_30 rfl (fun _ _ _ => rfl) rfl rfl rfl ?_
        refine zf_gfr (pc' := 34) (b := 2) dX7_person_31 rfl rfl (by decide) rfl rfl ?_
        refine zf_gfr (pc' := 37) (b := 3) dX7_person_34 rfl rfl zf_walk2.1 zf_walk2.2.1 rfl ?_
        refine zf_gfi (pc' := 40) dX7_person_37 rfl rfl zf_walk2.2.2.1.1 zf_walk2.2.2.1.2.1 rfl ?_
        refine zf_bi (v := 6) (pc' := 42) dX7_person_40 rfl rfl ?_
        refine zf_icmp_lt (tgt := 52) (pc' := 45) dX7_person_42 rfl rfl (fun g => ?_) (fun g => ?_)
        · replace h := h.1 g
          refine zf_ld (pc' := 53) (v := .inr (.inr (1, 0))) dX7_person_52 rfl (fun _ _ _ => rfl) rfl rfl rfl ?_
          refine zf_gfr (pc' := 56) (b := 2) dX7_person_53 rfl rfl (by decide) rfl rfl ?_
          refine zf_ld (pc' := 57) (v := .inl v1) dX7_person_56 rfl (fun _ _ _ => rfl) rfl rfl rfl ?_
          refine zf_ld (pc' := 58) (v := .inl v2) dX7_person_57 rfl (fun _ _ _ => rfl) rfl rfl rfl ?_
          refine zf_iv (k := 44) (pc' := 61) (r := []) dX7_person_58 rfl rfl rfl rfl zf_walk2.1 zf_walk2.2.1 rfl rfl (zr_44 (by omega) zf_walk2 h) (zf_kI (fun x5 m6 h => ?_))
          exact zf_ri dX7_person_61 rfl h
        · replace h := h.2 g
          refine zf_ld (pc' := 46) (v := .inr (.inr (1, 0))) dX7_person_45 rfl (fun _ _ _ => rfl) rfl rfl rfl ?_
          refine zf_bi (v := 7) (pc' := 48) dX7_person_46 rfl rfl ?_
          refine zf_iv (k := 109) (pc' := 51) (r := []) dX7_person_48 rfl rfl rfl rfl (by decide) rfl rfl rfl (zr_109 (by omega) h) (zf_kI (fun x7 m8 h => ?_))
          exact zf_ri dX7_person_51 rfl h
      · replace h := h.2 g
        refine zf_ld (pc' := 24) (v := .inr (.inr (1, 0))) dX7_person_23 rfl (fun _ _ _ => rfl) rfl rfl rfl ?_
        refine zf_bi (v := 6) (pc' := 26) dX7_person_24 rfl rfl ?_
        refine zf_iv (k := 109) (pc' := 29) (r := []) dX7_person_26 rfl rfl rfl rfl (by decide) rfl rfl rfl (zr_109 (by omega) h) (zf_kI (fun x9 m10 h => ?_))
        exact zf_ri dX7_person_29 rfl h
  · replace h := h.2 g
    refine zf_ld (pc' := 8) (v := .inr (.inr (1, 0))) dX7_person_7 rfl (fun _ _ _ => rfl) rfl rfl rfl ?_
    refine zf_ic (v := 1) (pc' := 9) dX7_person_8 rfl rfl ?_
    refine zf_iv (k := 109) (pc' := 12) (r := []) dX7_person_9 rfl rfl rfl rfl (by decide) rfl rfl rfl (zr_109 (by omega) h) (zf_kI (fun x11 m12 h => ?_))
    exact zf_ri dX7_person_12 rfl h
def zt_110 : zx_MT := (7, yX7_refuseFar, cX7_refuseFar, 2, (some FieldType.int), 1, 0)
theorem zm_110 : zx_m 110 = zt_110 := rfl
theorem dX7_refuseFar_r0 : zdcP cX7_refuseFar 0 [(.aload_n 0, 1), (.getfield 65, 3), (.iload_n 1, 1), (.dup2, 1), (.iaload, 1), (.iconst 1, 1), (.iadd, 1), (.iastore, 1), (.bipush (-10), 2), (.iload_n 1, 1), (.isub, 1), (.ireturn, 1)] := zdcA_ok (by decide +kernel)
theorem dX7_refuseFar_0 : decode cX7_refuseFar 0 = .ok (.aload_n 0, 1) := dX7_refuseFar_r0.1
theorem dX7_refuseFar_1 : decode cX7_refuseFar 1 = .ok (.getfield 65, 3) := dX7_refuseFar_r0.2.1
theorem dX7_refuseFar_4 : decode cX7_refuseFar 4 = .ok (.iload_n 1, 1) := dX7_refuseFar_r0.2.2.1
theorem dX7_refuseFar_5 : decode cX7_refuseFar 5 = .ok (.dup2, 1) := dX7_refuseFar_r0.2.2.2.1
theorem dX7_refuseFar_6 : decode cX7_refuseFar 6 = .ok (.iaload, 1) := dX7_refuseFar_r0.2.2.2.2.1
theorem dX7_refuseFar_7 : decode cX7_refuseFar 7 = .ok (.iconst 1, 1) := dX7_refuseFar_r0.2.2.2.2.2.1
theorem dX7_refuseFar_8 : decode cX7_refuseFar 8 = .ok (.iadd, 1) := dX7_refuseFar_r0.2.2.2.2.2.2.1
theorem dX7_refuseFar_9 : decode cX7_refuseFar 9 = .ok (.iastore, 1) := dX7_refuseFar_r0.2.2.2.2.2.2.2.1
theorem dX7_refuseFar_10 : decode cX7_refuseFar 10 = .ok (.bipush (-10), 2) := dX7_refuseFar_r0.2.2.2.2.2.2.2.2.1
theorem dX7_refuseFar_12 : decode cX7_refuseFar 12 = .ok (.iload_n 1, 1) := dX7_refuseFar_r0.2.2.2.2.2.2.2.2.2.1
theorem dX7_refuseFar_13 : decode cX7_refuseFar 13 = .ok (.isub, 1) := dX7_refuseFar_r0.2.2.2.2.2.2.2.2.2.2.1
theorem dX7_refuseFar_14 : decode cX7_refuseFar 14 = .ok (.ireturn, 1) := dX7_refuseFar_r0.2.2.2.2.2.2.2.2.2.2.2.1
def wp_110 (v1 : Int32) (m : zf_Me) (Q : Int32 → zf_Me → Prop) : Prop := ((0 ≤ (Int32.toInt v1) ∧ (Int32.toInt v1) < (8 : Int)) ∧ ((0 ≤ (Int32.toInt v1) ∧ (Int32.toInt v1) < (8 : Int)) ∧ ∀ m1, m1 = zf_u m 46 (Int32.toInt v1).toNat ((m.1 46 (Int32.toInt v1).toNat) + 1) → Q ((-10) - v1) m1))
theorem zr_110 {d : Nat} (hd : 0 ≤ d) {v1 : Int32} {Q : Int32 → zf_Me → Prop} {m : zf_Me} (h : wp_110 v1 m Q) : zf_M d 110 [.inr (.inr (1, 0)), .inl v1] m (zf_I Q) := by
  unfold wp_110 at h
  refine zf_M_of (Nat.le_of_ble_eq_true rfl) zm_110 (L := [some (.inr (.inr (1, 0))), some (.inl v1)]) rfl ?_
  refine zf_ld (pc' := 1) (v := .inr (.inr (1, 0))) dX7_refuseFar_0 rfl (fun _ _ _ => rfl) rfl rfl rfl ?_
  refine zf_gfr (pc' := 4) (b := 46) dX7_refuseFar_1 rfl rfl (by decide) rfl rfl ?_
  refine zf_ld (pc' := 5) (v := .inl v1) dX7_refuseFar_4 rfl (fun _ _ _ => rfl) rfl rfl rfl ?_
  refine zf_in (pc' := 6) (S' := [.inl v1, .inr (.inr (1, 46)), .inl v1, .inr (.inr (1, 46))]) dX7_refuseFar_5 rfl (fun _ _ _ => rfl) ?_
  refine zf_ial (pc' := 7) dX7_refuseFar_6 rfl (⟨by decide, rfl⟩ : zf_arr 46 8).1 (⟨by decide, rfl⟩ : zf_arr 46 8).2 h.1 rfl ?_
  replace h := h.2
  refine zf_ic (v := 1) (pc' := 8) dX7_refuseFar_7 rfl rfl ?_
  refine zf_in (pc' := 9) (S' := [.inl ((m.1 46 (Int32.toInt v1).toNat) + 1), .inl v1, .inr (.inr (1, 46))]) dX7_refuseFar_8 rfl (fun _ _ _ => rfl) ?_
  refine zf_ias (pc' := 10) dX7_refuseFar_9 rfl (⟨by decide, rfl⟩ : zf_arr 46 8).1 (⟨by decide, rfl⟩ : zf_arr 46 8).2 h.1 rfl (fun m1 e2 => ?_)
  replace h := h.2 m1 e2
  refine zf_bi (v := (-10)) (pc' := 12) dX7_refuseFar_10 rfl rfl ?_
  refine zf_ld (pc' := 13) (v := .inl v1) dX7_refuseFar_12 rfl (fun _ _ _ => rfl) rfl rfl rfl ?_
  refine zf_in (pc' := 14) (S' := [.inl ((-10) - v1)]) dX7_refuseFar_13 rfl (fun _ _ _ => rfl) ?_
  exact zf_ri dX7_refuseFar_14 rfl h
def zt_77 : zx_MT := (7, yX7_furlongOf, cX7_furlongOf, 3, (some FieldType.int), 2, 0)
theorem zm_77 : zx_m 77 = zt_77 := rfl
theorem dX7_furlongOf_r0 : zdcP cX7_furlongOf 0 [(.aload_n 0, 1), (.getfield 23, 3), (.getfield 30, 3), (.iload_n 1, 1), (.invokevirtual 159, 3), (.ifCond .eq 12, 3), (.iload_n 2, 1), (.ifCond .lt 8, 3), (.iload_n 2, 1), (.iconst 1, 1), (.if_icmp .le 9, 3), (.aload_n 0, 1), (.iconst 5, 1), (.invokevirtual 162, 3), (.ireturn, 1), (.iload_n 2, 1)] := zdcA_ok (by decide +kernel)
theorem dX7_furlongOf_0 : decode cX7_furlongOf 0 = .ok (.aload_n 0, 1) := dX7_furlongOf_r0.1
theorem dX7_furlongOf_1 : decode cX7_furlongOf 1 = .ok (.getfield 23, 3) := dX7_furlongOf_r0.2.1
theorem dX7_furlongOf_4 : decode cX7_furlongOf 4 = .ok (.getfield 30, 3) := dX7_furlongOf_r0.2.2.1
theorem dX7_furlongOf_7 : decode cX7_furlongOf 7 = .ok (.iload_n 1, 1) := dX7_furlongOf_r0.2.2.2.1
theorem dX7_furlongOf_8 : decode cX7_furlongOf 8 = .ok (.invokevirtual 159, 3) := dX7_furlongOf_r0.2.2.2.2.1
theorem dX7_furlongOf_11 : decode cX7_furlongOf 11 = .ok (.ifCond .eq 12, 3) := dX7_furlongOf_r0.2.2.2.2.2.1
theorem dX7_furlongOf_14 : decode cX7_furlongOf 14 = .ok (.iload_n 2, 1) := dX7_furlongOf_r0.2.2.2.2.2.2.1
theorem dX7_furlongOf_15 : decode cX7_furlongOf 15 = .ok (.ifCond .lt 8, 3) := dX7_furlongOf_r0.2.2.2.2.2.2.2.1
theorem dX7_furlongOf_18 : decode cX7_furlongOf 18 = .ok (.iload_n 2, 1) := dX7_furlongOf_r0.2.2.2.2.2.2.2.2.1
theorem dX7_furlongOf_19 : decode cX7_furlongOf 19 = .ok (.iconst 1, 1) := dX7_furlongOf_r0.2.2.2.2.2.2.2.2.2.1
theorem dX7_furlongOf_20 : decode cX7_furlongOf 20 = .ok (.if_icmp .le 9, 3) := dX7_furlongOf_r0.2.2.2.2.2.2.2.2.2.2.1
theorem dX7_furlongOf_23 : decode cX7_furlongOf 23 = .ok (.aload_n 0, 1) := dX7_furlongOf_r0.2.2.2.2.2.2.2.2.2.2.2.1
theorem dX7_furlongOf_24 : decode cX7_furlongOf 24 = .ok (.iconst 5, 1) := dX7_furlongOf_r0.2.2.2.2.2.2.2.2.2.2.2.2.1
theorem dX7_furlongOf_25 : decode cX7_furlongOf 25 = .ok (.invokevirtual 162, 3) := dX7_furlongOf_r0.2.2.2.2.2.2.2.2.2.2.2.2.2.1
theorem dX7_furlongOf_28 : decode cX7_furlongOf 28 = .ok (.ireturn, 1) := dX7_furlongOf_r0.2.2.2.2.2.2.2.2.2.2.2.2.2.2.1
theorem dX7_furlongOf_29 : decode cX7_furlongOf 29 = .ok (.iload_n 2, 1) := dX7_furlongOf_r0.2.2.2.2.2.2.2.2.2.2.2.2.2.2.2.1
theorem dX7_furlongOf_r30 : zdcP cX7_furlongOf 30 [(.ifCond .ne 18, 3), (.aload_n 0, 1), (.getfield 23, 3), (.getfield 30, 3), (.getfield 165, 3), (.iload_n 1, 1), (.iaload, 1), (.goto 15, 3), (.aload_n 0, 1), (.getfield 23, 3), (.getfield 30, 3), (.getfield 168, 3), (.iload_n 1, 1), (.iaload, 1), (.ireturn, 1)] := zdcA_ok (by decide +kernel)
theorem dX7_furlongOf_30 : decode cX7_furlongOf 30 = .ok (.ifCond .ne 18, 3) := dX7_furlongOf_r30.1
theorem dX7_furlongOf_33 : decode cX7_furlongOf 33 = .ok (.aload_n 0, 1) := dX7_furlongOf_r30.2.1
theorem dX7_furlongOf_34 : decode cX7_furlongOf 34 = .ok (.getfield 23, 3) := dX7_furlongOf_r30.2.2.1
theorem dX7_furlongOf_37 : decode cX7_furlongOf 37 = .ok (.getfield 30, 3) := dX7_furlongOf_r30.2.2.2.1
theorem dX7_furlongOf_40 : decode cX7_furlongOf 40 = .ok (.getfield 165, 3) := dX7_furlongOf_r30.2.2.2.2.1
theorem dX7_furlongOf_43 : decode cX7_furlongOf 43 = .ok (.iload_n 1, 1) := dX7_furlongOf_r30.2.2.2.2.2.1
theorem dX7_furlongOf_44 : decode cX7_furlongOf 44 = .ok (.iaload, 1) := dX7_furlongOf_r30.2.2.2.2.2.2.1
theorem dX7_furlongOf_45 : decode cX7_furlongOf 45 = .ok (.goto 15, 3) := dX7_furlongOf_r30.2.2.2.2.2.2.2.1
theorem dX7_furlongOf_48 : decode cX7_furlongOf 48 = .ok (.aload_n 0, 1) := dX7_furlongOf_r30.2.2.2.2.2.2.2.2.1
theorem dX7_furlongOf_49 : decode cX7_furlongOf 49 = .ok (.getfield 23, 3) := dX7_furlongOf_r30.2.2.2.2.2.2.2.2.2.1
theorem dX7_furlongOf_52 : decode cX7_furlongOf 52 = .ok (.getfield 30, 3) := dX7_furlongOf_r30.2.2.2.2.2.2.2.2.2.2.1
theorem dX7_furlongOf_55 : decode cX7_furlongOf 55 = .ok (.getfield 168, 3) := dX7_furlongOf_r30.2.2.2.2.2.2.2.2.2.2.2.1
theorem dX7_furlongOf_58 : decode cX7_furlongOf 58 = .ok (.iload_n 1, 1) := dX7_furlongOf_r30.2.2.2.2.2.2.2.2.2.2.2.2.1
theorem dX7_furlongOf_59 : decode cX7_furlongOf 59 = .ok (.iaload, 1) := dX7_furlongOf_r30.2.2.2.2.2.2.2.2.2.2.2.2.2.1
theorem dX7_furlongOf_60 : decode cX7_furlongOf 60 = .ok (.ireturn, 1) := dX7_furlongOf_r30.2.2.2.2.2.2.2.2.2.2.2.2.2.2.1
def wp_77 (v1 : Int32) (v2 : Int32) (m : zf_Me) (Q : Int32 → zf_Me → Prop) : Prop := wp_64 3 v1 m (fun b1 m2 => ((b1 = false → wp_110 5 m2 (fun x3 m4 => Q x3 m4)) ∧ (b1 = true → ((v2.toInt < 0 → wp_110 5 m2 (fun x5 m6 => Q x5 m6)) ∧ (v2.toInt ≥ 0 → ((v2.toInt ≤ 1 → ((¬ v2.toInt = 0 → ((0 ≤ (Int32.toInt v1) ∧ (Int32.toInt v1) < (24 : Int)) ∧ Q (m2.1 5 (Int32.toInt v1).toNat) m2)) ∧ (v2.toInt = 0 → ((0 ≤ (Int32.toInt v1) ∧ (Int32.toInt v1) < (24 : Int)) ∧ Q (m2.1 4 (Int32.toInt v1).toNat) m2)))) ∧ (v2.toInt > 1 → wp_110 5 m2 (fun x7 m8 => Q x7 m8))))))))
theorem zr_77 {d : Nat} (hd : 1 ≤ d) {v1 : Int32} {v2 : Int32} {Q : Int32 → zf_Me → Prop} {m : zf_Me} (h : wp_77 v1 v2 m Q) : zf_M d 77 [.inr (.inr (1, 0)), .inl v1, .inl v2] m (zf_I Q) := by
  obtain ⟨e, rfl⟩ : ∃ z, d = z + 1 := ⟨d - 1, by omega⟩
  unfold wp_77 at h
  refine zf_M_of (Nat.le_of_ble_eq_true rfl) zm_77 (L := [some (.inr (.inr (1, 0))), some (.inl v1), some (.inl v2)]) rfl ?_
  refine zf_ld (pc' := 1) (v := .inr (.inr (1, 0))) dX7_furlongOf_0 rfl (fun _ _ _ => rfl) rfl rfl rfl ?_
  refine zf_gfr (pc' := 4) (b := 2) dX7_furlongOf_1 rfl rfl (by decide) rfl rfl ?_
  refine zf_gfr (pc' := 7) (b := 3) dX7_furlongOf_4 rfl rfl zf_walk2.1 zf_walk2.2.1 rfl ?_
  refine zf_ld (pc' := 8) (v := .inl v1) dX7_furlongOf_7 rfl (fun _ _ _ => rfl) rfl rfl rfl ?_
  refine zf_iv (k := 64) (pc' := 11) (r := []) dX7_furlongOf_8 rfl rfl rfl rfl zf_walk2.2.2.1.1 zf_walk2.2.2.1.2.1 rfl rfl (zr_64 (by omega) zf_walk2.2.2.1 h) (zf_kB (fun b1 m2 h => ?_))
  refine zf_ib_eq (tgt := 23) (pc' := 14) dX7_furlongOf_11 rfl rfl (fun g => ?_) (fun g => ?_)
  · replace h := h.1 g
    refine zf_ld (pc' := 24) (v := .inr (.inr (1, 0))) dX7_furlongOf_23 rfl (fun _ _ _ => rfl) rfl rfl rfl ?_
    refine zf_ic (v := 5) (pc' := 25) dX7_furlongOf_24 rfl rfl ?_
    refine zf_iv (k := 110) (pc' := 28) (r := []) dX7_furlongOf_25 rfl rfl rfl rfl (by decide) rfl rfl rfl (zr_110 (by omega) h) (zf_kI (fun x3 m4 h => ?_))
    exact zf_ri dX7_furlongOf_28 rfl h
  · replace h := h.2 g
    refine zf_ld (pc' := 15) (v := .inl v2) dX7_furlongOf_14 rfl (fun _ _ _ => rfl) rfl rfl rfl ?_
    refine zf_if_lt (tgt := 23) (pc' := 18) dX7_furlongOf_15 rfl rfl (fun g => ?_) (fun g => ?_)
    · replace h := h.1 g
      refine zf_ld (pc' := 24) (v := .inr (.inr (1, 0))) dX7_furlongOf_23 rfl (fun _ _ _ => rfl) rfl rfl rfl ?_
      refine zf_ic (v := 5) (pc' := 25) dX7_furlongOf_24 rfl rfl ?_
      refine zf_iv (k := 110) (pc' := 28) (r := []) dX7_furlongOf_25 rfl rfl rfl rfl (by decide) rfl rfl rfl (zr_110 (by omega) h) (zf_kI (fun x5 m6 h => ?_))
      exact zf_ri dX7_furlongOf_28 rfl h
    · replace h := h.2 g
      refine zf_ld (pc' := 19) (v := .inl v2) dX7_furlongOf_18 rfl (fun _ _ _ => rfl) rfl rfl rfl ?_
      refine zf_ic (v := 1) (pc' := 20) dX7_furlongOf_19 rfl rfl ?_
      refine zf_icmp_le (tgt := 29) (pc' := 23) dX7_furlongOf_20 rfl rfl (fun g => ?_) (fun g => ?_)
      · replace h := h.1 g
        refine zf_ld (pc' := 30) (v := .inl v2) dX7_furlongOf_29 rfl (fun _ _ _ => rfl) rfl rfl rfl ?_
        refine zf_if_ne (tgt := 48) (pc' := 33) dX7_furlongOf_30 rfl rfl (fun g => ?_) (fun g => ?_)
        · replace h := h.1 g
          refine zf_ld (pc' := 49) (v := .inr (.inr (1, 0))) dX7_furlongOf_48 rfl (fun _ _ _ => rfl) rfl rfl rfl ?_
          refine zf_gfr (pc' := 52) (b := 2) dX7_furlongOf_49 rfl rfl (by decide) rfl rfl ?_
          refine zf_gfr (pc' := 55) (b := 3) dX7_furlongOf_52 rfl rfl zf_walk2.1 zf_walk2.2.1 rfl ?_
          refine zf_gfr (pc' := 58) (b := 5) dX7_furlongOf_55 rfl rfl zf_walk2.2.2.1.1 zf_walk2.2.2.1.2.1 rfl ?_
          refine zf_ld (pc' := 59) (v := .inl v1) dX7_furlongOf_58 rfl (fun _ _ _ => rfl) rfl rfl rfl ?_
          refine zf_ial (pc' := 60) dX7_furlongOf_59 rfl zf_walk2.2.2.1.2.2.2.1.1 zf_walk2.2.2.1.2.2.2.1.2 h.1 rfl ?_
          replace h := h.2
          exact zf_ri dX7_furlongOf_60 rfl h
        · replace h := h.2 g
          refine zf_ld (pc' := 34) (v := .inr (.inr (1, 0))) dX7_furlongOf_33 rfl (fun _ _ _ => rfl) rfl rfl rfl ?_
          refine zf_gfr (pc' := 37) (b := 2) dX7_furlongOf_34 rfl rfl (by decide) rfl rfl ?_
          refine zf_gfr (pc' := 40) (b := 3) dX7_furlongOf_37 rfl rfl zf_walk2.1 zf_walk2.2.1 rfl ?_
          refine zf_gfr (pc' := 43) (b := 4) dX7_furlongOf_40 rfl rfl zf_walk2.2.2.1.1 zf_walk2.2.2.1.2.1 rfl ?_
          refine zf_ld (pc' := 44) (v := .inl v1) dX7_furlongOf_43 rfl (fun _ _ _ => rfl) rfl rfl rfl ?_
          refine zf_ial (pc' := 45) dX7_furlongOf_44 rfl zf_walk2.2.2.1.2.2.1.1 zf_walk2.2.2.1.2.2.1.2 h.1 rfl ?_
          replace h := h.2
          refine zf_goto (tgt := 60) dX7_furlongOf_45 rfl ?_
          exact zf_ri dX7_furlongOf_60 rfl h
      · replace h := h.2 g
        refine zf_ld (pc' := 24) (v := .inr (.inr (1, 0))) dX7_furlongOf_23 rfl (fun _ _ _ => rfl) rfl rfl rfl ?_
        refine zf_ic (v := 5) (pc' := 25) dX7_furlongOf_24 rfl rfl ?_
        refine zf_iv (k := 110) (pc' := 28) (r := []) dX7_furlongOf_25 rfl rfl rfl rfl (by decide) rfl rfl rfl (zr_110 (by omega) h) (zf_kI (fun x7 m8 h => ?_))
        exact zf_ri dX7_furlongOf_28 rfl h
def zt_78 : zx_MT := (7, yX7_personOf, cX7_personOf, 3, (some FieldType.int), 2, 0)
theorem zm_78 : zx_m 78 = zt_78 := rfl
theorem dX7_personOf_r0 : zdcP cX7_personOf 0 [(.aload_n 0, 1), (.getfield 23, 3), (.getfield 30, 3), (.iload_n 1, 1), (.invokevirtual 118, 3), (.ifCond .ne 9, 3), (.aload_n 0, 1), (.iconst 5, 1), (.invokevirtual 82, 3), (.ireturn, 1), (.iload_n 2, 1)] := zdcA_ok (by decide +kernel)
theorem dX7_personOf_0 : decode cX7_personOf 0 = .ok (.aload_n 0, 1) := dX7_personOf_r0.1
theorem dX7_personOf_1 : decode cX7_personOf 1 = .ok (.getfield 23, 3) := dX7_personOf_r0.2.1
theorem dX7_personOf_4 : decode cX7_personOf 4 = .ok (.getfield 30, 3) := dX7_personOf_r0.2.2.1
theorem dX7_personOf_7 : decode cX7_personOf 7 = .ok (.iload_n 1, 1) := dX7_personOf_r0.2.2.2.1
theorem dX7_personOf_8 : decode cX7_personOf 8 = .ok (.invokevirtual 118, 3) := dX7_personOf_r0.2.2.2.2.1
theorem dX7_personOf_11 : decode cX7_personOf 11 = .ok (.ifCond .ne 9, 3) := dX7_personOf_r0.2.2.2.2.2.1
theorem dX7_personOf_14 : decode cX7_personOf 14 = .ok (.aload_n 0, 1) := dX7_personOf_r0.2.2.2.2.2.2.1
theorem dX7_personOf_15 : decode cX7_personOf 15 = .ok (.iconst 5, 1) := dX7_personOf_r0.2.2.2.2.2.2.2.1
theorem dX7_personOf_16 : decode cX7_personOf 16 = .ok (.invokevirtual 82, 3) := dX7_personOf_r0.2.2.2.2.2.2.2.2.1
theorem dX7_personOf_19 : decode cX7_personOf 19 = .ok (.ireturn, 1) := dX7_personOf_r0.2.2.2.2.2.2.2.2.2.1
theorem dX7_personOf_20 : decode cX7_personOf 20 = .ok (.iload_n 2, 1) := dX7_personOf_r0.2.2.2.2.2.2.2.2.2.2.1
theorem dX7_personOf_21 : decode cX7_personOf 21 = .ok (.tableswitch 84 0 3 #[31, 44, 57, 67], 31) := by decide +kernel
theorem dX7_personOf_r52 : zdcP cX7_personOf 52 [(.aload_n 0, 1), (.getfield 23, 3), (.getfield 30, 3), (.getfield 127, 3), (.iload_n 1, 1), (.iaload, 1), (.ireturn, 1), (.aload_n 0, 1), (.getfield 23, 3), (.getfield 30, 3), (.getfield 171, 3), (.iload_n 1, 1), (.iaload, 1), (.ireturn, 1), (.aload_n 0, 1), (.getfield 23, 3)] := zdcA_ok (by decide +kernel)
theorem dX7_personOf_52 : decode cX7_personOf 52 = .ok (.aload_n 0, 1) := dX7_personOf_r52.1
theorem dX7_personOf_53 : decode cX7_personOf 53 = .ok (.getfield 23, 3) := dX7_personOf_r52.2.1
theorem dX7_personOf_56 : decode cX7_personOf 56 = .ok (.getfield 30, 3) := dX7_personOf_r52.2.2.1
theorem dX7_personOf_59 : decode cX7_personOf 59 = .ok (.getfield 127, 3) := dX7_personOf_r52.2.2.2.1
theorem dX7_personOf_62 : decode cX7_personOf 62 = .ok (.iload_n 1, 1) := dX7_personOf_r52.2.2.2.2.1
theorem dX7_personOf_63 : decode cX7_personOf 63 = .ok (.iaload, 1) := dX7_personOf_r52.2.2.2.2.2.1
theorem dX7_personOf_64 : decode cX7_personOf 64 = .ok (.ireturn, 1) := dX7_personOf_r52.2.2.2.2.2.2.1
theorem dX7_personOf_65 : decode cX7_personOf 65 = .ok (.aload_n 0, 1) := dX7_personOf_r52.2.2.2.2.2.2.2.1
theorem dX7_personOf_66 : decode cX7_personOf 66 = .ok (.getfield 23, 3) := dX7_personOf_r52.2.2.2.2.2.2.2.2.1
theorem dX7_personOf_69 : decode cX7_personOf 69 = .ok (.getfield 30, 3) := dX7_personOf_r52.2.2.2.2.2.2.2.2.2.1
theorem dX7_personOf_72 : decode cX7_personOf 72 = .ok (.getfield 171, 3) := dX7_personOf_r52.2.2.2.2.2.2.2.2.2.2.1
theorem dX7_personOf_75 : decode cX7_personOf 75 = .ok (.iload_n 1, 1) := dX7_personOf_r52.2.2.2.2.2.2.2.2.2.2.2.1
theorem dX7_personOf_76 : decode cX7_personOf 76 = .ok (.iaload, 1) := dX7_personOf_r52.2.2.2.2.2.2.2.2.2.2.2.2.1
theorem dX7_personOf_77 : decode cX7_personOf 77 = .ok (.ireturn, 1) := dX7_personOf_r52.2.2.2.2.2.2.2.2.2.2.2.2.2.1
theorem dX7_personOf_78 : decode cX7_personOf 78 = .ok (.aload_n 0, 1) := dX7_personOf_r52.2.2.2.2.2.2.2.2.2.2.2.2.2.2.1
theorem dX7_personOf_79 : decode cX7_personOf 79 = .ok (.getfield 23, 3) := dX7_personOf_r52.2.2.2.2.2.2.2.2.2.2.2.2.2.2.2.1
theorem dX7_personOf_r82 : zdcP cX7_personOf 82 [(.getfield 143, 3), (.iload_n 1, 1), (.iaload, 1), (.ireturn, 1), (.aload_n 0, 1), (.getfield 23, 3), (.getfield 174, 3), (.iload_n 1, 1), (.if_icmp .ne 7, 3), (.iconst 1, 1), (.goto 4, 3), (.iconst 0, 1), (.ireturn, 1), (.aload_n 0, 1), (.iconst 5, 1), (.invokevirtual 82, 3)] := zdcA_ok (by decide +kernel)
theorem dX7_personOf_82 : decode cX7_personOf 82 = .ok (.getfield 143, 3) := dX7_personOf_r82.1
theorem dX7_personOf_85 : decode cX7_personOf 85 = .ok (.iload_n 1, 1) := dX7_personOf_r82.2.1
theorem dX7_personOf_86 : decode cX7_personOf 86 = .ok (.iaload, 1) := dX7_personOf_r82.2.2.1
theorem dX7_personOf_87 : decode cX7_personOf 87 = .ok (.ireturn, 1) := dX7_personOf_r82.2.2.2.1
theorem dX7_personOf_88 : decode cX7_personOf 88 = .ok (.aload_n 0, 1) := dX7_personOf_r82.2.2.2.2.1
theorem dX7_personOf_89 : decode cX7_personOf 89 = .ok (.getfield 23, 3) := dX7_personOf_r82.2.2.2.2.2.1
theorem dX7_personOf_92 : decode cX7_personOf 92 = .ok (.getfield 174, 3) := dX7_personOf_r82.2.2.2.2.2.2.1
theorem dX7_personOf_95 : decode cX7_personOf 95 = .ok (.iload_n 1, 1) := dX7_personOf_r82.2.2.2.2.2.2.2.1
theorem dX7_personOf_96 : decode cX7_personOf 96 = .ok (.if_icmp .ne 7, 3) := dX7_personOf_r82.2.2.2.2.2.2.2.2.1
theorem dX7_personOf_99 : decode cX7_personOf 99 = .ok (.iconst 1, 1) := dX7_personOf_r82.2.2.2.2.2.2.2.2.2.1
theorem dX7_personOf_100 : decode cX7_personOf 100 = .ok (.goto 4, 3) := dX7_personOf_r82.2.2.2.2.2.2.2.2.2.2.1
theorem dX7_personOf_103 : decode cX7_personOf 103 = .ok (.iconst 0, 1) := dX7_personOf_r82.2.2.2.2.2.2.2.2.2.2.2.1
theorem dX7_personOf_104 : decode cX7_personOf 104 = .ok (.ireturn, 1) := dX7_personOf_r82.2.2.2.2.2.2.2.2.2.2.2.2.1
theorem dX7_personOf_105 : decode cX7_personOf 105 = .ok (.aload_n 0, 1) := dX7_personOf_r82.2.2.2.2.2.2.2.2.2.2.2.2.2.1
theorem dX7_personOf_106 : decode cX7_personOf 106 = .ok (.iconst 5, 1) := dX7_personOf_r82.2.2.2.2.2.2.2.2.2.2.2.2.2.2.1
theorem dX7_personOf_107 : decode cX7_personOf 107 = .ok (.invokevirtual 82, 3) := dX7_personOf_r82.2.2.2.2.2.2.2.2.2.2.2.2.2.2.2.1
theorem dX7_personOf_110 : decode cX7_personOf 110 = .ok (.ireturn, 1) := zdc_ok (by decide +kernel)
def wp_78 (v1 : Int32) (v2 : Int32) (m : zf_Me) (Q : Int32 → zf_Me → Prop) : Prop := wp_65 3 v1 m (fun b1 m2 => ((b1 = true → (((v2.toInt < 0 ∨ v2.toInt > 3) → wp_109 5 m2 (fun x3 m4 => Q x3 m4)) ∧ (v2.toInt = 0 → ((0 ≤ (Int32.toInt v1) ∧ (Int32.toInt v1) < (6 : Int)) ∧ Q (m2.1 6 (Int32.toInt v1).toNat) m2)) ∧ (v2.toInt = 1 → ((0 ≤ (Int32.toInt v1) ∧ (Int32.toInt v1) < (6 : Int)) ∧ Q (m2.1 7 (Int32.toInt v1).toNat) m2)) ∧ (v2.toInt = 2 → ((0 ≤ (Int32.toInt v1) ∧ (Int32.toInt v1) < (6 : Int)) ∧ Q (m2.1 8 (Int32.toInt v1).toNat) m2)) ∧ (v2.toInt = 3 → ((¬ ((m2.1 2 2)).toInt = v1.toInt → Q 0 m2) ∧ (((m2.1 2 2)).toInt = v1.toInt → Q 1 m2))))) ∧ (b1 = false → wp_109 5 m2 (fun x5 m6 => Q x5 m6))))
theorem zr_78 {d : Nat} (hd : 1 ≤ d) {v1 : Int32} {v2 : Int32} {Q : Int32 → zf_Me → Prop} {m : zf_Me} (h : wp_78 v1 v2 m Q) : zf_M d 78 [.inr (.inr (1, 0)), .inl v1, .inl v2] m (zf_I Q) := by
  obtain ⟨e, rfl⟩ : ∃ z, d = z + 1 := ⟨d - 1, by omega⟩
  unfold wp_78 at h
  refine zf_M_of (Nat.le_of_ble_eq_true rfl) zm_78 (L := [some (.inr (.inr (1, 0))), some (.inl v1), some (.inl v2)]) rfl ?_
  refine zf_ld (pc' := 1) (v := .inr (.inr (1, 0))) dX7_personOf_0 rfl (fun _ _ _ => rfl) rfl rfl rfl ?_
  refine zf_gfr (pc' := 4) (b := 2) dX7_personOf_1 rfl rfl (by decide) rfl rfl ?_
  refine zf_gfr (pc' := 7) (b := 3) dX7_personOf_4 rfl rfl zf_walk2.1 zf_walk2.2.1 rfl ?_
  refine zf_ld (pc' := 8) (v := .inl v1) dX7_personOf_7 rfl (fun _ _ _ => rfl) rfl rfl rfl ?_
  refine zf_iv (k := 65) (pc' := 11) (r := []) dX7_personOf_8 rfl rfl rfl rfl zf_walk2.2.2.1.1 zf_walk2.2.2.1.2.1 rfl rfl (zr_65 (by omega) zf_walk2.2.2.1 h) (zf_kB (fun b1 m2 h => ?_))
  refine zf_ib_ne (tgt := 20) (pc' := 14) dX7_personOf_11 rfl rfl (fun g => ?_) (fun g => ?_)
  · replace h := h.1 g
    refine zf_ld (pc' := 21) (v := .inl v2) dX7_personOf_20 rfl (fun _ _ _ => rfl) rfl rfl rfl ?_
    refine zf_tsc (tgd := 105) dX7_personOf_21 rfl [52, 65, 78, 88] (by decide) (by decide) (fun g => ?_) (zl_cons (fun g => ?_) (zl_cons (fun g => ?_) (zl_cons (fun g => ?_) (zl_cons (fun g => ?_) (zl_nil)))))
    · replace h := h.1 (by omega)
      refine zf_ld (pc' := 106) (v := .inr (.inr (1, 0))) dX7_personOf_105 rfl (fun _ _ _ => rfl) rfl rfl rfl ?_
      refine zf_ic (v := 5) (pc' := 107) dX7_personOf_106 rfl rfl ?_
      refine zf_iv (k := 109) (pc' := 110) (r := []) dX7_personOf_107 rfl rfl rfl rfl (by decide) rfl rfl rfl (zr_109 (by omega) h) (zf_kI (fun x3 m4 h => ?_))
      exact zf_ri dX7_personOf_110 rfl h
    · replace h := h.2.1 (by omega)
      refine zf_ld (pc' := 53) (v := .inr (.inr (1, 0))) dX7_personOf_52 rfl (fun _ _ _ => rfl) rfl rfl rfl ?_
      refine zf_gfr (pc' := 56) (b := 2) dX7_personOf_53 rfl rfl (by decide) rfl rfl ?_
      refine zf_gfr (pc' := 59) (b := 3) dX7_personOf_56 rfl rfl zf_walk2.1 zf_walk2.2.1 rfl ?_
      refine zf_gfr (pc' := 62) (b := 6) dX7_personOf_59 rfl rfl zf_walk2.2.2.1.1 zf_walk2.2.2.1.2.1 rfl ?_
      refine zf_ld (pc' := 63) (v := .inl v1) dX7_personOf_62 rfl (fun _ _ _ => rfl) rfl rfl rfl ?_
      refine zf_ial (pc' := 64) dX7_personOf_63 rfl zf_walk2.2.2.1.2.2.2.2.1.1 zf_walk2.2.2.1.2.2.2.2.1.2 h.1 rfl ?_
      replace h := h.2
      exact zf_ri dX7_personOf_64 rfl h
    · replace h := h.2.2.1 (by omega)
      refine zf_ld (pc' := 66) (v := .inr (.inr (1, 0))) dX7_personOf_65 rfl (fun _ _ _ => rfl) rfl rfl rfl ?_
      refine zf_gfr (pc' := 69) (b := 2) dX7_personOf_66 rfl rfl (by decide) rfl rfl ?_
      refine zf_gfr (pc' := 72) (b := 3) dX7_personOf_69 rfl rfl zf_walk2.1 zf_walk2.2.1 rfl ?_
      refine zf_gfr (pc' := 75) (b := 7) dX7_personOf_72 rfl rfl zf_walk2.2.2.1.1 zf_walk2.2.2.1.2.1 rfl ?_
      refine zf_ld (pc' := 76) (v := .inl v1) dX7_personOf_75 rfl (fun _ _ _ => rfl) rfl rfl rfl ?_
      refine zf_ial (pc' := 77) dX7_personOf_76 rfl zf_walk2.2.2.1.2.2.2.2.2.1 zf_walk2.2.2.1.2.2.2.2.2.2 h.1 rfl ?_
      replace h := h.2
      exact zf_ri dX7_personOf_77 rfl h
    · replace h := h.2.2.2.1 (by omega)
      refine zf_ld (pc' := 79) (v := .inr (.inr (1, 0))) dX7_personOf_78 rfl (fun _ _ _ => rfl) rfl rfl rfl ?_
      refine zf_gfr (pc' := 82) (b := 2) dX7_personOf_79 rfl rfl (by decide) rfl rfl ?_
      refine zf_gfr (pc' := 85) (b := 8) dX7_personOf_82 rfl rfl zf_walk2.1 zf_walk2.2.1 rfl ?_
      refine zf_ld (pc' := 86) (v := .inl v1) dX7_personOf_85 rfl (fun _ _ _ => rfl) rfl rfl rfl ?_
      refine zf_ial (pc' := 87) dX7_personOf_86 rfl zf_walk2.2.2.2.1 zf_walk2.2.2.2.2 h.1 rfl ?_
      replace h := h.2
      exact zf_ri dX7_personOf_87 rfl h
    · replace h := h.2.2.2.2 (by omega)
      refine zf_ld (pc' := 89) (v := .inr (.inr (1, 0))) dX7_personOf_88 rfl (fun _ _ _ => rfl) rfl rfl rfl ?_
      refine zf_gfr (pc' := 92) (b := 2) dX7_personOf_89 rfl rfl (by decide) rfl rfl ?_
      refine zf_gfi (pc' := 95) dX7_personOf_92 rfl rfl zf_walk2.1 zf_walk2.2.1 rfl ?_
      refine zf_ld (pc' := 96) (v := .inl v1) dX7_personOf_95 rfl (fun _ _ _ => rfl) rfl rfl rfl ?_
      refine zf_icmp_ne (tgt := 103) (pc' := 99) dX7_personOf_96 rfl rfl (fun g => ?_) (fun g => ?_)
      · replace h := h.1 g
        refine zf_ic (v := 0) (pc' := 104) dX7_personOf_103 rfl rfl ?_
        exact zf_ri dX7_personOf_104 rfl h
      · replace h := h.2 g
        refine zf_ic (v := 1) (pc' := 100) dX7_personOf_99 rfl rfl ?_
        refine zf_goto (tgt := 104) dX7_personOf_100 rfl ?_
        exact zf_ri dX7_personOf_104 rfl h
  · replace h := h.2 g
    refine zf_ld (pc' := 15) (v := .inr (.inr (1, 0))) dX7_personOf_14 rfl (fun _ _ _ => rfl) rfl rfl rfl ?_
    refine zf_ic (v := 5) (pc' := 16) dX7_personOf_15 rfl rfl ?_
    refine zf_iv (k := 109) (pc' := 19) (r := []) dX7_personOf_16 rfl rfl rfl rfl (by decide) rfl rfl rfl (zr_109 (by omega) h) (zf_kI (fun x5 m6 h => ?_))
    exact zf_ri dX7_personOf_19 rfl h
end
section
/-! part 31: methods 79..: laid by wip/flat/dec.py -/
def zt_79 : zx_MT := (7, yX7_ask, cX7_ask, 4, (some FieldType.int), 2, 0)
theorem zm_79 : zx_m 79 = zt_79 := rfl
theorem dX7_ask_r0 : zdcP cX7_ask 0 [(.iload_n 1, 1), (.ifCond .lt 26, 3), (.iload_n 1, 1), (.iconst 5, 1), (.if_icmp .ge 21, 3), (.iload_n 2, 1), (.getstatic 177, 3), (.iload_n 1, 1), (.iaload, 1), (.if_icmp .lt 12, 3), (.iload_n 2, 1), (.getstatic 180, 3), (.iload_n 1, 1), (.iaload, 1), (.if_icmp .le 10, 3), (.aload_n 0, 1)] := zdcA_ok (by decide +kernel)
theorem dX7_ask_0 : decode cX7_ask 0 = .ok (.iload_n 1, 1) := dX7_ask_r0.1
theorem dX7_ask_1 : decode cX7_ask 1 = .ok (.ifCond .lt 26, 3) := dX7_ask_r0.2.1
theorem dX7_ask_4 : decode cX7_ask 4 = .ok (.iload_n 1, 1) := dX7_ask_r0.2.2.1
theorem dX7_ask_5 : decode cX7_ask 5 = .ok (.iconst 5, 1) := dX7_ask_r0.2.2.2.1
theorem dX7_ask_6 : decode cX7_ask 6 = .ok (.if_icmp .ge 21, 3) := dX7_ask_r0.2.2.2.2.1
theorem dX7_ask_9 : decode cX7_ask 9 = .ok (.iload_n 2, 1) := dX7_ask_r0.2.2.2.2.2.1
theorem dX7_ask_10 : decode cX7_ask 10 = .ok (.getstatic 177, 3) := dX7_ask_r0.2.2.2.2.2.2.1
theorem dX7_ask_13 : decode cX7_ask 13 = .ok (.iload_n 1, 1) := dX7_ask_r0.2.2.2.2.2.2.2.1
theorem dX7_ask_14 : decode cX7_ask 14 = .ok (.iaload, 1) := dX7_ask_r0.2.2.2.2.2.2.2.2.1
theorem dX7_ask_15 : decode cX7_ask 15 = .ok (.if_icmp .lt 12, 3) := dX7_ask_r0.2.2.2.2.2.2.2.2.2.1
theorem dX7_ask_18 : decode cX7_ask 18 = .ok (.iload_n 2, 1) := dX7_ask_r0.2.2.2.2.2.2.2.2.2.2.1
theorem dX7_ask_19 : decode cX7_ask 19 = .ok (.getstatic 180, 3) := dX7_ask_r0.2.2.2.2.2.2.2.2.2.2.2.1
theorem dX7_ask_22 : decode cX7_ask 22 = .ok (.iload_n 1, 1) := dX7_ask_r0.2.2.2.2.2.2.2.2.2.2.2.2.1
theorem dX7_ask_23 : decode cX7_ask 23 = .ok (.iaload, 1) := dX7_ask_r0.2.2.2.2.2.2.2.2.2.2.2.2.2.1
theorem dX7_ask_24 : decode cX7_ask 24 = .ok (.if_icmp .le 10, 3) := dX7_ask_r0.2.2.2.2.2.2.2.2.2.2.2.2.2.2.1
theorem dX7_ask_27 : decode cX7_ask 27 = .ok (.aload_n 0, 1) := dX7_ask_r0.2.2.2.2.2.2.2.2.2.2.2.2.2.2.2.1
theorem dX7_ask_r28 : zdcP cX7_ask 28 [(.bipush 6, 2), (.invokevirtual 82, 3), (.ireturn, 1), (.aload_n 0, 1), (.getfield 23, 3), (.iload_n 1, 1), (.invokevirtual 183, 3), (.istore_n 3, 1), (.aload_n 0, 1), (.getfield 23, 3), (.iload_n 1, 1), (.iload_n 2, 1), (.invokevirtual 186, 3), (.iload_n 3, 1), (.ireturn, 1)] := zdcA_ok (by decide +kernel)
theorem dX7_ask_28 : decode cX7_ask 28 = .ok (.bipush 6, 2) := dX7_ask_r28.1
theorem dX7_ask_30 : decode cX7_ask 30 = .ok (.invokevirtual 82, 3) := dX7_ask_r28.2.1
theorem dX7_ask_33 : decode cX7_ask 33 = .ok (.ireturn, 1) := dX7_ask_r28.2.2.1
theorem dX7_ask_34 : decode cX7_ask 34 = .ok (.aload_n 0, 1) := dX7_ask_r28.2.2.2.1
theorem dX7_ask_35 : decode cX7_ask 35 = .ok (.getfield 23, 3) := dX7_ask_r28.2.2.2.2.1
theorem dX7_ask_38 : decode cX7_ask 38 = .ok (.iload_n 1, 1) := dX7_ask_r28.2.2.2.2.2.1
theorem dX7_ask_39 : decode cX7_ask 39 = .ok (.invokevirtual 183, 3) := dX7_ask_r28.2.2.2.2.2.2.1
theorem dX7_ask_42 : decode cX7_ask 42 = .ok (.istore_n 3, 1) := dX7_ask_r28.2.2.2.2.2.2.2.1
theorem dX7_ask_43 : decode cX7_ask 43 = .ok (.aload_n 0, 1) := dX7_ask_r28.2.2.2.2.2.2.2.2.1
theorem dX7_ask_44 : decode cX7_ask 44 = .ok (.getfield 23, 3) := dX7_ask_r28.2.2.2.2.2.2.2.2.2.1
theorem dX7_ask_47 : decode cX7_ask 47 = .ok (.iload_n 1, 1) := dX7_ask_r28.2.2.2.2.2.2.2.2.2.2.1
theorem dX7_ask_48 : decode cX7_ask 48 = .ok (.iload_n 2, 1) := dX7_ask_r28.2.2.2.2.2.2.2.2.2.2.2.1
theorem dX7_ask_49 : decode cX7_ask 49 = .ok (.invokevirtual 186, 3) := dX7_ask_r28.2.2.2.2.2.2.2.2.2.2.2.2.1
theorem dX7_ask_52 : decode cX7_ask 52 = .ok (.iload_n 3, 1) := dX7_ask_r28.2.2.2.2.2.2.2.2.2.2.2.2.2.1
theorem dX7_ask_53 : decode cX7_ask 53 = .ok (.ireturn, 1) := dX7_ask_r28.2.2.2.2.2.2.2.2.2.2.2.2.2.2.1
def wp_79 (v1 : Int32) (v2 : Int32) (m : zf_Me) (Q : Int32 → zf_Me → Prop) : Prop := ((v1.toInt < 0 → wp_109 6 m (fun x1 m2 => Q x1 m2)) ∧ (v1.toInt ≥ 0 → ((v1.toInt ≥ 5 → wp_109 6 m (fun x3 m4 => Q x3 m4)) ∧ (v1.toInt < 5 → ((0 ≤ (v1).toInt ∧ (v1).toInt < 5) ∧ ((v2.toInt < (((zx_sa.getD 2 []).getD (Int32.toInt v1).toNat 0)).toInt → wp_109 6 m (fun x5 m6 => Q x5 m6)) ∧ (v2.toInt ≥ (((zx_sa.getD 2 []).getD (Int32.toInt v1).toNat 0)).toInt → ((0 ≤ (v1).toInt ∧ (v1).toInt < 5) ∧ ((v2.toInt ≤ (((zx_sa.getD 3 []).getD (Int32.toInt v1).toNat 0)).toInt → wp_45 2 3 8 v1 m (fun x7 m8 => wp_46 2 3 8 v1 v2 m8 (fun m10 => Q x7 m10))) ∧ (v2.toInt > (((zx_sa.getD 3 []).getD (Int32.toInt v1).toNat 0)).toInt → wp_109 6 m (fun x11 m12 => Q x11 m12)))))))))))
theorem zr_79 {d : Nat} (hd : 1 ≤ d) {v1 : Int32} {v2 : Int32} {Q : Int32 → zf_Me → Prop} {m : zf_Me} (h : wp_79 v1 v2 m Q) : zf_M d 79 [.inr (.inr (1, 0)), .inl v1, .inl v2] m (zf_I Q) := by
  obtain ⟨e, rfl⟩ : ∃ z, d = z + 1 := ⟨d - 1, by omega⟩
  unfold wp_79 at h
  refine zf_M_of (Nat.le_of_ble_eq_true rfl) zm_79 (L := [some (.inr (.inr (1, 0))), some (.inl v1), some (.inl v2), none]) rfl ?_
  refine zf_ld (pc' := 1) (v := .inl v1) dX7_ask_0 rfl (fun _ _ _ => rfl) rfl rfl rfl ?_
  refine zf_if_lt (tgt := 27) (pc' := 4) dX7_ask_1 rfl rfl (fun g => ?_) (fun g => ?_)
  · replace h := h.1 g
    refine zf_ld (pc' := 28) (v := .inr (.inr (1, 0))) dX7_ask_27 rfl (fun _ _ _ => rfl) rfl rfl rfl ?_
    refine zf_bi (v := 6) (pc' := 30) dX7_ask_28 rfl rfl ?_
    refine zf_iv (k := 109) (pc' := 33) (r := []) dX7_ask_30 rfl rfl rfl rfl (by decide) rfl rfl rfl (zr_109 (by omega) h) (zf_kI (fun x1 m2 h => ?_))
    exact zf_ri dX7_ask_33 rfl h
  · replace h := h.2 g
    refine zf_ld (pc' := 5) (v := .inl v1) dX7_ask_4 rfl (fun _ _ _ => rfl) rfl rfl rfl ?_
    refine zf_ic (v := 5) (pc' := 6) dX7_ask_5 rfl rfl ?_
    refine zf_icmp_ge (tgt := 27) (pc' := 9) dX7_ask_6 rfl rfl (fun g => ?_) (fun g => ?_)
    · replace h := h.1 g
      refine zf_ld (pc' := 28) (v := .inr (.inr (1, 0))) dX7_ask_27 rfl (fun _ _ _ => rfl) rfl rfl rfl ?_
      refine zf_bi (v := 6) (pc' := 30) dX7_ask_28 rfl rfl ?_
      refine zf_iv (k := 109) (pc' := 33) (r := []) dX7_ask_30 rfl rfl rfl rfl (by decide) rfl rfl rfl (zr_109 (by omega) h) (zf_kI (fun x3 m4 h => ?_))
      exact zf_ri dX7_ask_33 rfl h
    · replace h := h.2 g
      refine zf_ld (pc' := 10) (v := .inl v2) dX7_ask_9 rfl (fun _ _ _ => rfl) rfl rfl rfl ?_
      refine zf_gs (g := 2) (pc' := 13) dX7_ask_10 rfl rfl rfl ?_
      refine zf_ld (pc' := 14) (v := .inl v1) dX7_ask_13 rfl (fun _ _ _ => rfl) rfl rfl rfl ?_
      refine zf_ials (pc' := 15) dX7_ask_14 rfl (by decide) (n := 5) rfl h.1 ?_
      replace h := h.2
      refine zf_icmp_lt (tgt := 27) (pc' := 18) dX7_ask_15 rfl rfl (fun g => ?_) (fun g => ?_)
      · replace h := h.1 g
        refine zf_ld (pc' := 28) (v := .inr (.inr (1, 0))) dX7_ask_27 rfl (fun _ _ _ => rfl) rfl rfl rfl ?_
        refine zf_bi (v := 6) (pc' := 30) dX7_ask_28 rfl rfl ?_
        refine zf_iv (k := 109) (pc' := 33) (r := []) dX7_ask_30 rfl rfl rfl rfl (by decide) rfl rfl rfl (zr_109 (by omega) h) (zf_kI (fun x5 m6 h => ?_))
        exact zf_ri dX7_ask_33 rfl h
      · replace h := h.2 g
        refine zf_ld (pc' := 19) (v := .inl v2) dX7_ask_18 rfl (fun _ _ _ => rfl) rfl rfl rfl ?_
        refine zf_gs (g := 3) (pc' := 22) dX7_ask_19 rfl rfl rfl ?_
        refine zf_ld (pc' := 23) (v := .inl v1) dX7_ask_22 rfl (fun _ _ _ => rfl) rfl rfl rfl ?_
        refine zf_ials (pc' := 24) dX7_ask_23 rfl (by decide) (n := 5) rfl h.1 ?_
        replace h := h.2
        refine zf_icmp_le (tgt := 34) (pc' := 27) dX7_ask_24 rfl rfl (fun g => ?_) (fun g => ?_)
        · replace h := h.1 g
          refine zf_ld (pc' := 35) (v := .inr (.inr (1, 0))) dX7_ask_34 rfl (fun _ _ _ => rfl) rfl rfl rfl ?_
          refine zf_gfr (pc' := 38) (b := 2) dX7_ask_35 rfl rfl (by decide) rfl rfl ?_
          refine zf_ld (pc' := 39) (v := .inl v1) dX7_ask_38 rfl (fun _ _ _ => rfl) rfl rfl rfl ?_
          refine zf_iv (k := 45) (pc' := 42) (r := []) dX7_ask_39 rfl rfl rfl rfl zf_walk2.1 zf_walk2.2.1 rfl rfl (zr_45 (by omega) zf_walk2 h) (zf_kI (fun x7 m8 h => ?_))
          refine zf_st (pc' := 43) (L2 := [some (.inr (.inr (1, 0))), some (.inl v1), some (.inl v2), some (.inl x7)]) dX7_ask_42 rfl (fun _ _ _ => rfl) rfl rfl rfl rfl rfl rfl ?_
          refine zf_ld (pc' := 44) (v := .inr (.inr (1, 0))) dX7_ask_43 rfl (fun _ _ _ => rfl) rfl rfl rfl ?_
          refine zf_gfr (pc' := 47) (b := 2) dX7_ask_44 rfl rfl (by decide) rfl rfl ?_
          refine zf_ld (pc' := 48) (v := .inl v1) dX7_ask_47 rfl (fun _ _ _ => rfl) rfl rfl rfl ?_
          refine zf_ld (pc' := 49) (v := .inl v2) dX7_ask_48 rfl (fun _ _ _ => rfl) rfl rfl rfl ?_
          refine zf_iv (k := 46) (pc' := 52) (r := []) dX7_ask_49 rfl rfl rfl rfl zf_walk2.1 zf_walk2.2.1 rfl rfl (zr_46 (by omega) zf_walk2 h) (zf_kO (fun m10 h => ?_))
          refine zf_ld (pc' := 53) (v := .inl x7) dX7_ask_52 rfl (fun _ _ _ => rfl) rfl rfl rfl ?_
          exact zf_ri dX7_ask_53 rfl h
        · replace h := h.2 g
          refine zf_ld (pc' := 28) (v := .inr (.inr (1, 0))) dX7_ask_27 rfl (fun _ _ _ => rfl) rfl rfl rfl ?_
          refine zf_bi (v := 6) (pc' := 30) dX7_ask_28 rfl rfl ?_
          refine zf_iv (k := 109) (pc' := 33) (r := []) dX7_ask_30 rfl rfl rfl rfl (by decide) rfl rfl rfl (zr_109 (by omega) h) (zf_kI (fun x11 m12 h => ?_))
          exact zf_ri dX7_ask_33 rfl h
def zt_80 : zx_MT := (7, yX7_tire, cX7_tire, 4, (some FieldType.int), 2, 0)
theorem zm_80 : zx_m 80 = zt_80 := rfl
theorem dX7_tire_r0 : zdcP cX7_tire 0 [(.aload_n 0, 1), (.getfield 23, 3), (.getfield 30, 3), (.iload_n 1, 1), (.invokevirtual 118, 3), (.ifCond .ne 9, 3), (.aload_n 0, 1), (.iconst 1, 1), (.invokevirtual 82, 3), (.ireturn, 1), (.iload_n 2, 1), (.ifCond .lt 9, 3), (.iload_n 2, 1), (.bipush 99, 2), (.if_icmp .le 10, 3), (.aload_n 0, 1)] := zdcA_ok (by decide +kernel)
theorem dX7_tire_0 : decode cX7_tire 0 = .ok (.aload_n 0, 1) := dX7_tire_r0.1
theorem dX7_tire_1 : decode cX7_tire 1 = .ok (.getfield 23, 3) := dX7_tire_r0.2.1
theorem dX7_tire_4 : decode cX7_tire 4 = .ok (.getfield 30, 3) := dX7_tire_r0.2.2.1
theorem dX7_tire_7 : decode cX7_tire 7 = .ok (.iload_n 1, 1) := dX7_tire_r0.2.2.2.1
theorem dX7_tire_8 : decode cX7_tire 8 = .ok (.invokevirtual 118, 3) := dX7_tire_r0.2.2.2.2.1
theorem dX7_tire_11 : decode cX7_tire 11 = .ok (.ifCond .ne 9, 3) := dX7_tire_r0.2.2.2.2.2.1
theorem dX7_tire_14 : decode cX7_tire 14 = .ok (.aload_n 0, 1) := dX7_tire_r0.2.2.2.2.2.2.1
theorem dX7_tire_15 : decode cX7_tire 15 = .ok (.iconst 1, 1) := dX7_tire_r0.2.2.2.2.2.2.2.1
theorem dX7_tire_16 : decode cX7_tire 16 = .ok (.invokevirtual 82, 3) := dX7_tire_r0.2.2.2.2.2.2.2.2.1
theorem dX7_tire_19 : decode cX7_tire 19 = .ok (.ireturn, 1) := dX7_tire_r0.2.2.2.2.2.2.2.2.2.1
theorem dX7_tire_20 : decode cX7_tire 20 = .ok (.iload_n 2, 1) := dX7_tire_r0.2.2.2.2.2.2.2.2.2.2.1
theorem dX7_tire_21 : decode cX7_tire 21 = .ok (.ifCond .lt 9, 3) := dX7_tire_r0.2.2.2.2.2.2.2.2.2.2.2.1
theorem dX7_tire_24 : decode cX7_tire 24 = .ok (.iload_n 2, 1) := dX7_tire_r0.2.2.2.2.2.2.2.2.2.2.2.2.1
theorem dX7_tire_25 : decode cX7_tire 25 = .ok (.bipush 99, 2) := dX7_tire_r0.2.2.2.2.2.2.2.2.2.2.2.2.2.1
theorem dX7_tire_27 : decode cX7_tire 27 = .ok (.if_icmp .le 10, 3) := dX7_tire_r0.2.2.2.2.2.2.2.2.2.2.2.2.2.2.1
theorem dX7_tire_30 : decode cX7_tire 30 = .ok (.aload_n 0, 1) := dX7_tire_r0.2.2.2.2.2.2.2.2.2.2.2.2.2.2.2.1
theorem dX7_tire_r31 : zdcP cX7_tire 31 [(.bipush 6, 2), (.invokevirtual 82, 3), (.ireturn, 1), (.aload_n 0, 1), (.getfield 23, 3), (.getfield 143, 3), (.iload_n 1, 1), (.iaload, 1), (.istore_n 3, 1), (.aload_n 0, 1), (.getfield 23, 3), (.getfield 143, 3), (.iload_n 1, 1), (.iload_n 2, 1), (.iastore, 1), (.iload_n 3, 1)] := zdcA_ok (by decide +kernel)
theorem dX7_tire_31 : decode cX7_tire 31 = .ok (.bipush 6, 2) := dX7_tire_r31.1
theorem dX7_tire_33 : decode cX7_tire 33 = .ok (.invokevirtual 82, 3) := dX7_tire_r31.2.1
theorem dX7_tire_36 : decode cX7_tire 36 = .ok (.ireturn, 1) := dX7_tire_r31.2.2.1
theorem dX7_tire_37 : decode cX7_tire 37 = .ok (.aload_n 0, 1) := dX7_tire_r31.2.2.2.1
theorem dX7_tire_38 : decode cX7_tire 38 = .ok (.getfield 23, 3) := dX7_tire_r31.2.2.2.2.1
theorem dX7_tire_41 : decode cX7_tire 41 = .ok (.getfield 143, 3) := dX7_tire_r31.2.2.2.2.2.1
theorem dX7_tire_44 : decode cX7_tire 44 = .ok (.iload_n 1, 1) := dX7_tire_r31.2.2.2.2.2.2.1
theorem dX7_tire_45 : decode cX7_tire 45 = .ok (.iaload, 1) := dX7_tire_r31.2.2.2.2.2.2.2.1
theorem dX7_tire_46 : decode cX7_tire 46 = .ok (.istore_n 3, 1) := dX7_tire_r31.2.2.2.2.2.2.2.2.1
theorem dX7_tire_47 : decode cX7_tire 47 = .ok (.aload_n 0, 1) := dX7_tire_r31.2.2.2.2.2.2.2.2.2.1
theorem dX7_tire_48 : decode cX7_tire 48 = .ok (.getfield 23, 3) := dX7_tire_r31.2.2.2.2.2.2.2.2.2.2.1
theorem dX7_tire_51 : decode cX7_tire 51 = .ok (.getfield 143, 3) := dX7_tire_r31.2.2.2.2.2.2.2.2.2.2.2.1
theorem dX7_tire_54 : decode cX7_tire 54 = .ok (.iload_n 1, 1) := dX7_tire_r31.2.2.2.2.2.2.2.2.2.2.2.2.1
theorem dX7_tire_55 : decode cX7_tire 55 = .ok (.iload_n 2, 1) := dX7_tire_r31.2.2.2.2.2.2.2.2.2.2.2.2.2.1
theorem dX7_tire_56 : decode cX7_tire 56 = .ok (.iastore, 1) := dX7_tire_r31.2.2.2.2.2.2.2.2.2.2.2.2.2.2.1
theorem dX7_tire_57 : decode cX7_tire 57 = .ok (.iload_n 3, 1) := dX7_tire_r31.2.2.2.2.2.2.2.2.2.2.2.2.2.2.2.1
theorem dX7_tire_58 : decode cX7_tire 58 = .ok (.ireturn, 1) := zdc_ok (by decide +kernel)
def wp_80 (v1 : Int32) (v2 : Int32) (m : zf_Me) (Q : Int32 → zf_Me → Prop) : Prop := wp_65 3 v1 m (fun b1 m2 => ((b1 = true → ((v2.toInt < 0 → wp_109 6 m2 (fun x3 m4 => Q x3 m4)) ∧ (v2.toInt ≥ 0 → ((v2.toInt ≤ 99 → ((0 ≤ (Int32.toInt v1) ∧ (Int32.toInt v1) < (6 : Int)) ∧ ((0 ≤ (Int32.toInt v1) ∧ (Int32.toInt v1) < (6 : Int)) ∧ ∀ m5, m5 = zf_u m2 8 (Int32.toInt v1).toNat v2 → Q (m2.1 8 (Int32.toInt v1).toNat) m5))) ∧ (v2.toInt > 99 → wp_109 6 m2 (fun x7 m8 => Q x7 m8)))))) ∧ (b1 = false → wp_109 1 m2 (fun x9 m10 => Q x9 m10))))
theorem zr_80 {d : Nat} (hd : 1 ≤ d) {v1 : Int32} {v2 : Int32} {Q : Int32 → zf_Me → Prop} {m : zf_Me} (h : wp_80 v1 v2 m Q) : zf_M d 80 [.inr (.inr (1, 0)), .inl v1, .inl v2] m (zf_I Q) := by
  obtain ⟨e, rfl⟩ : ∃ z, d = z + 1 := ⟨d - 1, by omega⟩
  unfold wp_80 at h
  refine zf_M_of (Nat.le_of_ble_eq_true rfl) zm_80 (L := [some (.inr (.inr (1, 0))), some (.inl v1), some (.inl v2), none]) rfl ?_
  refine zf_ld (pc' := 1) (v := .inr (.inr (1, 0))) dX7_tire_0 rfl (fun _ _ _ => rfl) rfl rfl rfl ?_
  refine zf_gfr (pc' := 4) (b := 2) dX7_tire_1 rfl rfl (by decide) rfl rfl ?_
  refine zf_gfr (pc' := 7) (b := 3) dX7_tire_4 rfl rfl zf_walk2.1 zf_walk2.2.1 rfl ?_
  refine zf_ld (pc' := 8) (v := .inl v1) dX7_tire_7 rfl (fun _ _ _ => rfl) rfl rfl rfl ?_
  refine zf_iv (k := 65) (pc' := 11) (r := []) dX7_tire_8 rfl rfl rfl rfl zf_walk2.2.2.1.1 zf_walk2.2.2.1.2.1 rfl rfl (zr_65 (by omega) zf_walk2.2.2.1 h) (zf_kB (fun b1 m2 h => ?_))
  refine zf_ib_ne (tgt := 20) (pc' := 14) dX7_tire_11 rfl rfl (fun g => ?_) (fun g => ?_)
  · replace h := h.1 g
    refine zf_ld (pc' := 21) (v := .inl v2) dX7_tire_20 rfl (fun _ _ _ => rfl) rfl rfl rfl ?_
    refine zf_if_lt (tgt := 30) (pc' := 24) dX7_tire_21 rfl rfl (fun g => ?_) (fun g => ?_)
    · replace h := h.1 g
      refine zf_ld (pc' := 31) (v := .inr (.inr (1, 0))) dX7_tire_30 rfl (fun _ _ _ => rfl) rfl rfl rfl ?_
      refine zf_bi (v := 6) (pc' := 33) dX7_tire_31 rfl rfl ?_
      refine zf_iv (k := 109) (pc' := 36) (r := []) dX7_tire_33 rfl rfl rfl rfl (by decide) rfl rfl rfl (zr_109 (by omega) h) (zf_kI (fun x3 m4 h => ?_))
      exact zf_ri dX7_tire_36 rfl h
    · replace h := h.2 g
      refine zf_ld (pc' := 25) (v := .inl v2) dX7_tire_24 rfl (fun _ _ _ => rfl) rfl rfl rfl ?_
      refine zf_bi (v := 99) (pc' := 27) dX7_tire_25 rfl rfl ?_
      refine zf_icmp_le (tgt := 37) (pc' := 30) dX7_tire_27 rfl rfl (fun g => ?_) (fun g => ?_)
      · replace h := h.1 g
        refine zf_ld (pc' := 38) (v := .inr (.inr (1, 0))) dX7_tire_37 rfl (fun _ _ _ => rfl) rfl rfl rfl ?_
        refine zf_gfr (pc' := 41) (b := 2) dX7_tire_38 rfl rfl (by decide) rfl rfl ?_
        refine zf_gfr (pc' := 44) (b := 8) dX7_tire_41 rfl rfl zf_walk2.1 zf_walk2.2.1 rfl ?_
        refine zf_ld (pc' := 45) (v := .inl v1) dX7_tire_44 rfl (fun _ _ _ => rfl) rfl rfl rfl ?_
        refine zf_ial (pc' := 46) dX7_tire_45 rfl zf_walk2.2.2.2.1 zf_walk2.2.2.2.2 h.1 rfl ?_
        replace h := h.2
        refine zf_st (pc' := 47) (L2 := [some (.inr (.inr (1, 0))), some (.inl v1), some (.inl v2), some (.inl (m2.1 8 (Int32.toInt v1).toNat))]) dX7_tire_46 rfl (fun _ _ _ => rfl) rfl rfl rfl rfl rfl rfl ?_
        refine zf_ld (pc' := 48) (v := .inr (.inr (1, 0))) dX7_tire_47 rfl (fun _ _ _ => rfl) rfl rfl rfl ?_
        refine zf_gfr (pc' := 51) (b := 2) dX7_tire_48 rfl rfl (by decide) rfl rfl ?_
        refine zf_gfr (pc' := 54) (b := 8) dX7_tire_51 rfl rfl zf_walk2.1 zf_walk2.2.1 rfl ?_
        refine zf_ld (pc' := 55) (v := .inl v1) dX7_tire_54 rfl (fun _ _ _ => rfl) rfl rfl rfl ?_
        refine zf_ld (pc' := 56) (v := .inl v2) dX7_tire_55 rfl (fun _ _ _ => rfl) rfl rfl rfl ?_
        refine zf_ias (pc' := 57) dX7_tire_56 rfl zf_walk2.2.2.2.1 zf_walk2.2.2.2.2 h.1 rfl (fun m5 e6 => ?_)
        replace h := h.2 m5 e6
        refine zf_ld (pc' := 58) (v := .inl (m2.1 8 (Int32.toInt v1).toNat)) dX7_tire_57 rfl (fun _ _ _ => rfl) rfl rfl rfl ?_
        exact zf_ri dX7_tire_58 rfl h
      · replace h := h.2 g
        refine zf_ld (pc' := 31) (v := .inr (.inr (1, 0))) dX7_tire_30 rfl (fun _ _ _ => rfl) rfl rfl rfl ?_
        refine zf_bi (v := 6) (pc' := 33) dX7_tire_31 rfl rfl ?_
        refine zf_iv (k := 109) (pc' := 36) (r := []) dX7_tire_33 rfl rfl rfl rfl (by decide) rfl rfl rfl (zr_109 (by omega) h) (zf_kI (fun x7 m8 h => ?_))
        exact zf_ri dX7_tire_36 rfl h
  · replace h := h.2 g
    refine zf_ld (pc' := 15) (v := .inr (.inr (1, 0))) dX7_tire_14 rfl (fun _ _ _ => rfl) rfl rfl rfl ?_
    refine zf_ic (v := 1) (pc' := 16) dX7_tire_15 rfl rfl ?_
    refine zf_iv (k := 109) (pc' := 19) (r := []) dX7_tire_16 rfl rfl rfl rfl (by decide) rfl rfl rfl (zr_109 (by omega) h) (zf_kI (fun x9 m10 h => ?_))
    exact zf_ri dX7_tire_19 rfl h
def zt_81 : zx_MT := (7, yX7_bag, cX7_bag, 3, (some FieldType.int), 1, 0)
theorem zm_81 : zx_m 81 = zt_81 := rfl
theorem dX7_bag_r0 : zdcP cX7_bag 0 [(.iload_n 1, 1), (.iconst (-1), 1), (.if_icmp .eq 23, 3), (.aload_n 0, 1), (.getfield 23, 3), (.getfield 30, 3), (.iload_n 1, 1), (.invokevirtual 118, 3), (.ifCond .ne 9, 3), (.aload_n 0, 1), (.iconst 1, 1), (.invokevirtual 162, 3), (.ireturn, 1), (.aload_n 0, 1), (.getfield 23, 3), (.getfield 174, 3)] := zdcA_ok (by decide +kernel)
theorem dX7_bag_0 : decode cX7_bag 0 = .ok (.iload_n 1, 1) := dX7_bag_r0.1
theorem dX7_bag_1 : decode cX7_bag 1 = .ok (.iconst (-1), 1) := dX7_bag_r0.2.1
theorem dX7_bag_2 : decode cX7_bag 2 = .ok (.if_icmp .eq 23, 3) := dX7_bag_r0.2.2.1
theorem dX7_bag_5 : decode cX7_bag 5 = .ok (.aload_n 0, 1) := dX7_bag_r0.2.2.2.1
theorem dX7_bag_6 : decode cX7_bag 6 = .ok (.getfield 23, 3) := dX7_bag_r0.2.2.2.2.1
theorem dX7_bag_9 : decode cX7_bag 9 = .ok (.getfield 30, 3) := dX7_bag_r0.2.2.2.2.2.1
theorem dX7_bag_12 : decode cX7_bag 12 = .ok (.iload_n 1, 1) := dX7_bag_r0.2.2.2.2.2.2.1
theorem dX7_bag_13 : decode cX7_bag 13 = .ok (.invokevirtual 118, 3) := dX7_bag_r0.2.2.2.2.2.2.2.1
theorem dX7_bag_16 : decode cX7_bag 16 = .ok (.ifCond .ne 9, 3) := dX7_bag_r0.2.2.2.2.2.2.2.2.1
theorem dX7_bag_19 : decode cX7_bag 19 = .ok (.aload_n 0, 1) := dX7_bag_r0.2.2.2.2.2.2.2.2.2.1
theorem dX7_bag_20 : decode cX7_bag 20 = .ok (.iconst 1, 1) := dX7_bag_r0.2.2.2.2.2.2.2.2.2.2.1
theorem dX7_bag_21 : decode cX7_bag 21 = .ok (.invokevirtual 162, 3) := dX7_bag_r0.2.2.2.2.2.2.2.2.2.2.2.1
theorem dX7_bag_24 : decode cX7_bag 24 = .ok (.ireturn, 1) := dX7_bag_r0.2.2.2.2.2.2.2.2.2.2.2.2.1
theorem dX7_bag_25 : decode cX7_bag 25 = .ok (.aload_n 0, 1) := dX7_bag_r0.2.2.2.2.2.2.2.2.2.2.2.2.2.1
theorem dX7_bag_26 : decode cX7_bag 26 = .ok (.getfield 23, 3) := dX7_bag_r0.2.2.2.2.2.2.2.2.2.2.2.2.2.2.1
theorem dX7_bag_29 : decode cX7_bag 29 = .ok (.getfield 174, 3) := dX7_bag_r0.2.2.2.2.2.2.2.2.2.2.2.2.2.2.2.1
theorem dX7_bag_r32 : zdcP cX7_bag 32 [(.istore_n 2, 1), (.aload_n 0, 1), (.getfield 23, 3), (.iload_n 1, 1), (.putfield 174, 3), (.iload_n 2, 1), (.ireturn, 1)] := zdcA_ok (by decide +kernel)
theorem dX7_bag_32 : decode cX7_bag 32 = .ok (.istore_n 2, 1) := dX7_bag_r32.1
theorem dX7_bag_33 : decode cX7_bag 33 = .ok (.aload_n 0, 1) := dX7_bag_r32.2.1
theorem dX7_bag_34 : decode cX7_bag 34 = .ok (.getfield 23, 3) := dX7_bag_r32.2.2.1
theorem dX7_bag_37 : decode cX7_bag 37 = .ok (.iload_n 1, 1) := dX7_bag_r32.2.2.2.1
theorem dX7_bag_38 : decode cX7_bag 38 = .ok (.putfield 174, 3) := dX7_bag_r32.2.2.2.2.1
theorem dX7_bag_41 : decode cX7_bag 41 = .ok (.iload_n 2, 1) := dX7_bag_r32.2.2.2.2.2.1
theorem dX7_bag_42 : decode cX7_bag 42 = .ok (.ireturn, 1) := dX7_bag_r32.2.2.2.2.2.2.1
def wq_81_25 (v1 : Int32) (m : zf_Me) (Q : Int32 → zf_Me → Prop) : Prop := (∀ m1, m1 = zf_u m 2 2 v1 → Q (m.1 2 2) m1)
theorem zq_81_25 {d : Nat} (hd : 1 ≤ d) {v1 : Int32} {Q : Int32 → zf_Me → Prop} {m : zf_Me} (h : wq_81_25 v1 m Q) : zf_W none 0 0 d zt_81 25 [some (.inr (.inr (1, 0))), some (.inl v1), none] [] m (zf_I Q) := by
  unfold wq_81_25 at h
  refine zf_ld (pc' := 26) (v := .inr (.inr (1, 0))) dX7_bag_25 rfl (fun _ _ _ => rfl) rfl rfl rfl ?_
  refine zf_gfr (pc' := 29) (b := 2) dX7_bag_26 rfl rfl (by decide) rfl rfl ?_
  refine zf_gfi (pc' := 32) dX7_bag_29 rfl rfl zf_walk2.1 zf_walk2.2.1 rfl ?_
  refine zf_st (pc' := 33) (L2 := [some (.inr (.inr (1, 0))), some (.inl v1), some (.inl (m.1 2 2))]) dX7_bag_32 rfl (fun _ _ _ => rfl) rfl rfl rfl rfl rfl rfl ?_
  refine zf_ld (pc' := 34) (v := .inr (.inr (1, 0))) dX7_bag_33 rfl (fun _ _ _ => rfl) rfl rfl rfl ?_
  refine zf_gfr (pc' := 37) (b := 2) dX7_bag_34 rfl rfl (by decide) rfl rfl ?_
  refine zf_ld (pc' := 38) (v := .inl v1) dX7_bag_37 rfl (fun _ _ _ => rfl) rfl rfl rfl ?_
  refine zf_pf (pc' := 41) dX7_bag_38 rfl rfl zf_walk2.1 zf_walk2.2.1 rfl rfl (fun m1 e2 => ?_)
  replace h := h m1 e2
  refine zf_ld (pc' := 42) (v := .inl (m.1 2 2)) dX7_bag_41 rfl (fun _ _ _ => rfl) rfl rfl rfl ?_
  exact zf_ri dX7_bag_42 rfl h
def wp_81 (v1 : Int32) (m : zf_Me) (Q : Int32 → zf_Me → Prop) : Prop := ((v1.toInt = (-1) → wq_81_25 v1 m Q) ∧ (¬ v1.toInt = (-1) → wp_65 3 v1 m (fun b3 m4 => ((b3 = true → wq_81_25 v1 m4 Q) ∧ (b3 = false → wp_110 1 m4 (fun x5 m6 => Q x5 m6))))))
theorem zr_81 {d : Nat} (hd : 1 ≤ d) {v1 : Int32} {Q : Int32 → zf_Me → Prop} {m : zf_Me} (h : wp_81 v1 m Q) : zf_M d 81 [.inr (.inr (1, 0)), .inl v1] m (zf_I Q) := by
  obtain ⟨e, rfl⟩ : ∃ z, d = z + 1 := ⟨d - 1, by omega⟩
  unfold wp_81 at h
  refine zf_M_of (Nat.le_of_ble_eq_true rfl) zm_81 (L := [some (.inr (.inr (1, 0))), some (.inl v1), none]) rfl ?_
  refine zf_ld (pc' := 1) (v := .inl v1) dX7_bag_0 rfl (fun _ _ _ => rfl) rfl rfl rfl ?_
  refine zf_ic (v := (-1)) (pc' := 2) dX7_bag_1 rfl rfl ?_
  refine zf_icmp_eq (tgt := 25) (pc' := 5) dX7_bag_2 rfl rfl (fun g => ?_) (fun g => ?_)
  · replace h := h.1 g
    exact zf_lo (zq_81_25 (by omega) h) ⟨rfl, rfl, trivial⟩
  · replace h := h.2 g
    refine zf_ld (pc' := 6) (v := .inr (.inr (1, 0))) dX7_bag_5 rfl (fun _ _ _ => rfl) rfl rfl rfl ?_
    refine zf_gfr (pc' := 9) (b := 2) dX7_bag_6 rfl rfl (by decide) rfl rfl ?_
    refine zf_gfr (pc' := 12) (b := 3) dX7_bag_9 rfl rfl zf_walk2.1 zf_walk2.2.1 rfl ?_
    refine zf_ld (pc' := 13) (v := .inl v1) dX7_bag_12 rfl (fun _ _ _ => rfl) rfl rfl rfl ?_
    refine zf_iv (k := 65) (pc' := 16) (r := []) dX7_bag_13 rfl rfl rfl rfl zf_walk2.2.2.1.1 zf_walk2.2.2.1.2.1 rfl rfl (zr_65 (by omega) zf_walk2.2.2.1 h) (zf_kB (fun b3 m4 h => ?_))
    refine zf_ib_ne (tgt := 25) (pc' := 19) dX7_bag_16 rfl rfl (fun g => ?_) (fun g => ?_)
    · replace h := h.1 g
      exact zf_lo (zq_81_25 (by omega) h) ⟨rfl, rfl, trivial⟩
    · replace h := h.2 g
      refine zf_ld (pc' := 20) (v := .inr (.inr (1, 0))) dX7_bag_19 rfl (fun _ _ _ => rfl) rfl rfl rfl ?_
      refine zf_ic (v := 1) (pc' := 21) dX7_bag_20 rfl rfl ?_
      refine zf_iv (k := 110) (pc' := 24) (r := []) dX7_bag_21 rfl rfl rfl rfl (by decide) rfl rfl rfl (zr_110 (by omega) h) (zf_kI (fun x5 m6 h => ?_))
      exact zf_ri dX7_bag_24 rfl h
def zt_82 : zx_MT := (7, yX7_way, cX7_way, 3, (some FieldType.int), 1, 0)
theorem zm_82 : zx_m 82 = zt_82 := rfl
theorem dX7_way_r0 : zdcP cX7_way 0 [(.aload_n 0, 1), (.iload_n 1, 1), (.invokevirtual 90, 3), (.istore_n 2, 1), (.iload_n 2, 1), (.ifCond .eq 9, 3), (.aload_n 0, 1), (.iload_n 2, 1), (.invokevirtual 82, 3), (.ireturn, 1), (.aload_n 0, 1), (.getfield 54, 3), (.aload_n 0, 1), (.getfield 11, 3), (.iload_n 1, 1), (.aaload, 1)] := zdcA_ok (by decide +kernel)
theorem dX7_way_0 : decode cX7_way 0 = .ok (.aload_n 0, 1) := dX7_way_r0.1
theorem dX7_way_1 : decode cX7_way 1 = .ok (.iload_n 1, 1) := dX7_way_r0.2.1
theorem dX7_way_2 : decode cX7_way 2 = .ok (.invokevirtual 90, 3) := dX7_way_r0.2.2.1
theorem dX7_way_5 : decode cX7_way 5 = .ok (.istore_n 2, 1) := dX7_way_r0.2.2.2.1
theorem dX7_way_6 : decode cX7_way 6 = .ok (.iload_n 2, 1) := dX7_way_r0.2.2.2.2.1
theorem dX7_way_7 : decode cX7_way 7 = .ok (.ifCond .eq 9, 3) := dX7_way_r0.2.2.2.2.2.1
theorem dX7_way_10 : decode cX7_way 10 = .ok (.aload_n 0, 1) := dX7_way_r0.2.2.2.2.2.2.1
theorem dX7_way_11 : decode cX7_way 11 = .ok (.iload_n 2, 1) := dX7_way_r0.2.2.2.2.2.2.2.1
theorem dX7_way_12 : decode cX7_way 12 = .ok (.invokevirtual 82, 3) := dX7_way_r0.2.2.2.2.2.2.2.2.1
theorem dX7_way_15 : decode cX7_way 15 = .ok (.ireturn, 1) := dX7_way_r0.2.2.2.2.2.2.2.2.2.1
theorem dX7_way_16 : decode cX7_way 16 = .ok (.aload_n 0, 1) := dX7_way_r0.2.2.2.2.2.2.2.2.2.2.1
theorem dX7_way_17 : decode cX7_way 17 = .ok (.getfield 54, 3) := dX7_way_r0.2.2.2.2.2.2.2.2.2.2.2.1
theorem dX7_way_20 : decode cX7_way 20 = .ok (.aload_n 0, 1) := dX7_way_r0.2.2.2.2.2.2.2.2.2.2.2.2.1
theorem dX7_way_21 : decode cX7_way 21 = .ok (.getfield 11, 3) := dX7_way_r0.2.2.2.2.2.2.2.2.2.2.2.2.2.1
theorem dX7_way_24 : decode cX7_way 24 = .ok (.iload_n 1, 1) := dX7_way_r0.2.2.2.2.2.2.2.2.2.2.2.2.2.2.1
theorem dX7_way_25 : decode cX7_way 25 = .ok (.aaload, 1) := dX7_way_r0.2.2.2.2.2.2.2.2.2.2.2.2.2.2.2.1
theorem dX7_way_r26 : zdcP cX7_way 26 [(.aload_n 0, 1), (.getfield 23, 3), (.invokevirtual 189, 3), (.aload_n 0, 1), (.aload_n 0, 1), (.getfield 54, 3), (.getfield 193, 3), (.putfield 73, 3), (.aload_n 0, 1), (.getfield 73, 3), (.iconst (-1), 1), (.if_icmp .eq 10, 3), (.aload_n 0, 1), (.bipush 6, 2), (.invokevirtual 82, 3), (.ireturn, 1)] := zdcA_ok (by decide +kernel)
theorem dX7_way_26 : decode cX7_way 26 = .ok (.aload_n 0, 1) := dX7_way_r26.1
theorem dX7_way_27 : decode cX7_way 27 = .ok (.getfield 23, 3) := dX7_way_r26.2.1
theorem dX7_way_30 : decode cX7_way 30 = .ok (.invokevirtual 189, 3) := dX7_way_r26.2.2.1
theorem dX7_way_33 : decode cX7_way 33 = .ok (.aload_n 0, 1) := dX7_way_r26.2.2.2.1
theorem dX7_way_34 : decode cX7_way 34 = .ok (.aload_n 0, 1) := dX7_way_r26.2.2.2.2.1
theorem dX7_way_35 : decode cX7_way 35 = .ok (.getfield 54, 3) := dX7_way_r26.2.2.2.2.2.1
theorem dX7_way_38 : decode cX7_way 38 = .ok (.getfield 193, 3) := dX7_way_r26.2.2.2.2.2.2.1
theorem dX7_way_41 : decode cX7_way 41 = .ok (.putfield 73, 3) := dX7_way_r26.2.2.2.2.2.2.2.1
theorem dX7_way_44 : decode cX7_way 44 = .ok (.aload_n 0, 1) := dX7_way_r26.2.2.2.2.2.2.2.2.1
theorem dX7_way_45 : decode cX7_way 45 = .ok (.getfield 73, 3) := dX7_way_r26.2.2.2.2.2.2.2.2.2.1
theorem dX7_way_48 : decode cX7_way 48 = .ok (.iconst (-1), 1) := dX7_way_r26.2.2.2.2.2.2.2.2.2.2.1
theorem dX7_way_49 : decode cX7_way 49 = .ok (.if_icmp .eq 10, 3) := dX7_way_r26.2.2.2.2.2.2.2.2.2.2.2.1
theorem dX7_way_52 : decode cX7_way 52 = .ok (.aload_n 0, 1) := dX7_way_r26.2.2.2.2.2.2.2.2.2.2.2.2.1
theorem dX7_way_53 : decode cX7_way 53 = .ok (.bipush 6, 2) := dX7_way_r26.2.2.2.2.2.2.2.2.2.2.2.2.2.1
theorem dX7_way_55 : decode cX7_way 55 = .ok (.invokevirtual 82, 3) := dX7_way_r26.2.2.2.2.2.2.2.2.2.2.2.2.2.2.1
theorem dX7_way_58 : decode cX7_way 58 = .ok (.ireturn, 1) := dX7_way_r26.2.2.2.2.2.2.2.2.2.2.2.2.2.2.2.1
theorem dX7_way_r59 : zdcP cX7_way 59 [(.aload_n 0, 1), (.getfield 23, 3), (.getfield 30, 3), (.aload_n 0, 1), (.getfield 54, 3), (.getfield 196, 3), (.getfield 30, 3), (.invokevirtual 199, 3), (.aload_n 0, 1), (.getfield 23, 3), (.aload_n 0, 1), (.getfield 54, 3), (.getfield 196, 3), (.invokevirtual 202, 3), (.aload_n 0, 1), (.getfield 54, 3)] := zdcA_ok (by decide +kernel)
theorem dX7_way_59 : decode cX7_way 59 = .ok (.aload_n 0, 1) := dX7_way_r59.1
theorem dX7_way_60 : decode cX7_way 60 = .ok (.getfield 23, 3) := dX7_way_r59.2.1
theorem dX7_way_63 : decode cX7_way 63 = .ok (.getfield 30, 3) := dX7_way_r59.2.2.1
theorem dX7_way_66 : decode cX7_way 66 = .ok (.aload_n 0, 1) := dX7_way_r59.2.2.2.1
theorem dX7_way_67 : decode cX7_way 67 = .ok (.getfield 54, 3) := dX7_way_r59.2.2.2.2.1
theorem dX7_way_70 : decode cX7_way 70 = .ok (.getfield 196, 3) := dX7_way_r59.2.2.2.2.2.1
theorem dX7_way_73 : decode cX7_way 73 = .ok (.getfield 30, 3) := dX7_way_r59.2.2.2.2.2.2.1
theorem dX7_way_76 : decode cX7_way 76 = .ok (.invokevirtual 199, 3) := dX7_way_r59.2.2.2.2.2.2.2.1
theorem dX7_way_79 : decode cX7_way 79 = .ok (.aload_n 0, 1) := dX7_way_r59.2.2.2.2.2.2.2.2.1
theorem dX7_way_80 : decode cX7_way 80 = .ok (.getfield 23, 3) := dX7_way_r59.2.2.2.2.2.2.2.2.2.1
theorem dX7_way_83 : decode cX7_way 83 = .ok (.aload_n 0, 1) := dX7_way_r59.2.2.2.2.2.2.2.2.2.2.1
theorem dX7_way_84 : decode cX7_way 84 = .ok (.getfield 54, 3) := dX7_way_r59.2.2.2.2.2.2.2.2.2.2.2.1
theorem dX7_way_87 : decode cX7_way 87 = .ok (.getfield 196, 3) := dX7_way_r59.2.2.2.2.2.2.2.2.2.2.2.2.1
theorem dX7_way_90 : decode cX7_way 90 = .ok (.invokevirtual 202, 3) := dX7_way_r59.2.2.2.2.2.2.2.2.2.2.2.2.2.1
theorem dX7_way_93 : decode cX7_way 93 = .ok (.aload_n 0, 1) := dX7_way_r59.2.2.2.2.2.2.2.2.2.2.2.2.2.2.1
theorem dX7_way_94 : decode cX7_way 94 = .ok (.getfield 54, 3) := dX7_way_r59.2.2.2.2.2.2.2.2.2.2.2.2.2.2.2.1
theorem dX7_way_r97 : zdcP cX7_way 97 [(.getfield 205, 3), (.ireturn, 1)] := zdcA_ok (by decide +kernel)
theorem dX7_way_97 : decode cX7_way 97 = .ok (.getfield 205, 3) := dX7_way_r97.1
theorem dX7_way_100 : decode cX7_way 100 = .ok (.ireturn, 1) := dX7_way_r97.2.1
def wp_82 (v1 : Int32) (m : zf_Me) (Q : Int32 → zf_Me → Prop) : Prop := wp_111 v1 m (fun x1 m2 => ((x1.toInt = 0 → ((0 ≤ (Int32.toInt v1) ∧ (Int32.toInt v1) < 8) ∧ wp_26 (47 + 2 * (Int32.toInt v1).toNat) (48 + 2 * (Int32.toInt v1).toNat) 2 3 8 m2 (fun m6 => (∀ m7, m7 = zf_u m6 0 10 (m6.1 35 6) → ((((m7.1 0 10)).toInt = (-1) → wp_63 3 37 m7 (fun m10 => wp_43 2 3 8 36 37 42 m10 (fun m12 => Q (m12.1 35 5) m12))) ∧ (¬ ((m7.1 0 10)).toInt = (-1) → wp_109 6 m7 (fun x13 m14 => Q x13 m14))))))) ∧ (¬ x1.toInt = 0 → wp_109 x1 m2 (fun x15 m16 => Q x15 m16))))
theorem zr_82 {d : Nat} (hd : 10 ≤ d) {v1 : Int32} {Q : Int32 → zf_Me → Prop} {m : zf_Me} (h : wp_82 v1 m Q) : zf_M d 82 [.inr (.inr (1, 0)), .inl v1] m (zf_I Q) := by
  obtain ⟨e, rfl⟩ : ∃ z, d = z + 1 := ⟨d - 1, by omega⟩
  unfold wp_82 at h
  refine zf_M_of (Nat.le_of_ble_eq_true rfl) zm_82 (L := [some (.inr (.inr (1, 0))), some (.inl v1), none]) rfl ?_
  refine zf_ld (pc' := 1) (v := .inr (.inr (1, 0))) dX7_way_0 rfl (fun _ _ _ => rfl) rfl rfl rfl ?_
  refine zf_ld (pc' := 2) (v := .inl v1) dX7_way_1 rfl (fun _ _ _ => rfl) rfl rfl rfl ?_
  refine zf_iv (k := 111) (pc' := 5) (r := []) dX7_way_2 rfl rfl rfl rfl (by decide) rfl rfl rfl (zr_111 (by omega) h) (zf_kI (fun x1 m2 h => ?_))
  refine zf_st (pc' := 6) (L2 := [some (.inr (.inr (1, 0))), some (.inl v1), some (.inl x1)]) dX7_way_5 rfl (fun _ _ _ => rfl) rfl rfl rfl rfl rfl rfl ?_
  refine zf_ld (pc' := 7) (v := .inl x1) dX7_way_6 rfl (fun _ _ _ => rfl) rfl rfl rfl ?_
  refine zf_if_eq (tgt := 16) (pc' := 10) dX7_way_7 rfl rfl (fun g => ?_) (fun g => ?_)
  · replace h := h.1 g
    refine zf_ld (pc' := 17) (v := .inr (.inr (1, 0))) dX7_way_16 rfl (fun _ _ _ => rfl) rfl rfl rfl ?_
    refine zf_gfr (pc' := 20) (b := 35) dX7_way_17 rfl rfl (by decide) rfl rfl ?_
    refine zf_ld (pc' := 21) (v := .inr (.inr (1, 0))) dX7_way_20 rfl (fun _ _ _ => rfl) rfl rfl rfl ?_
    refine zf_gfr (pc' := 24) (b := 1) dX7_way_21 rfl rfl (by decide) rfl rfl ?_
    refine zf_ld (pc' := 25) (v := .inl v1) dX7_way_24 rfl (fun _ _ _ => rfl) rfl rfl rfl ?_
    refine zf_aal (b := 47) (n := 8) (pc' := 26) dX7_way_25 rfl (by decide) rfl (by decide) rfl h.1 zf_row1 ?_
    have hb3 := h.1
    replace h := h.2
    have hx4 : zf_shelf (47 + 2 * (Int32.toInt v1).toNat) (48 + 2 * (Int32.toInt v1).toNat) := zf_shelves (by omega)
    refine zf_ld (pc' := 27) (v := .inr (.inr (1, 0))) dX7_way_26 rfl (fun _ _ _ => rfl) rfl rfl rfl ?_
    refine zf_gfr (pc' := 30) (b := 2) dX7_way_27 rfl rfl (by decide) rfl rfl ?_
    refine zf_iv (k := 26) (pc' := 33) (r := []) dX7_way_30 rfl rfl rfl rfl (by decide) rfl rfl rfl (zr_26 (by omega) hx4 zf_walk2 h) (zf_kO (fun m6 h => ?_))
    refine zf_ld (pc' := 34) (v := .inr (.inr (1, 0))) dX7_way_33 rfl (fun _ _ _ => rfl) rfl rfl rfl ?_
    refine zf_ld (pc' := 35) (v := .inr (.inr (1, 0))) dX7_way_34 rfl (fun _ _ _ => rfl) rfl rfl rfl ?_
    refine zf_gfr (pc' := 38) (b := 35) dX7_way_35 rfl rfl (by decide) rfl rfl ?_
    refine zf_gfi (pc' := 41) dX7_way_38 rfl rfl (by decide) rfl rfl ?_
    refine zf_pf (pc' := 44) dX7_way_41 rfl rfl (by decide) rfl rfl rfl (fun m7 e8 => ?_)
    replace h := h m7 e8
    refine zf_ld (pc' := 45) (v := .inr (.inr (1, 0))) dX7_way_44 rfl (fun _ _ _ => rfl) rfl rfl rfl ?_
    refine zf_gfi (pc' := 48) dX7_way_45 rfl rfl (by decide) rfl rfl ?_
    refine zf_ic (v := (-1)) (pc' := 49) dX7_way_48 rfl rfl ?_
    refine zf_icmp_eq (tgt := 59) (pc' := 52) dX7_way_49 rfl rfl (fun g => ?_) (fun g => ?_)
    · replace h := h.1 g
      refine zf_ld (pc' := 60) (v := .inr (.inr (1, 0))) dX7_way_59 rfl (fun _ _ _ => rfl) rfl rfl rfl ?_
      refine zf_gfr (pc' := 63) (b := 2) dX7_way_60 rfl rfl (by decide) rfl rfl ?_
      refine zf_gfr (pc' := 66) (b := 3) dX7_way_63 rfl rfl zf_walk2.1 zf_walk2.2.1 rfl ?_
      refine zf_ld (pc' := 67) (v := .inr (.inr (1, 0))) dX7_way_66 rfl (fun _ _ _ => rfl) rfl rfl rfl ?_
      refine zf_gfr (pc' := 70) (b := 35) dX7_way_67 rfl rfl (by decide) rfl rfl ?_
      refine zf_gfr (pc' := 73) (b := 36) dX7_way_70 rfl rfl (by decide) rfl rfl ?_
      refine zf_gfr (pc' := 76) (b := 37) dX7_way_73 rfl rfl zf_walk36.1 zf_walk36.2.1 rfl ?_
      refine zf_iv (k := 63) (pc' := 79) (r := []) dX7_way_76 rfl rfl rfl rfl zf_walk2.2.2.1.1 zf_walk2.2.2.1.2.1 rfl rfl (zr_63 (by omega) zf_walk2.2.2.1 zf_walk36.2.2.1 h) (zf_kO (fun m10 h => ?_))
      refine zf_ld (pc' := 80) (v := .inr (.inr (1, 0))) dX7_way_79 rfl (fun _ _ _ => rfl) rfl rfl rfl ?_
      refine zf_gfr (pc' := 83) (b := 2) dX7_way_80 rfl rfl (by decide) rfl rfl ?_
      refine zf_ld (pc' := 84) (v := .inr (.inr (1, 0))) dX7_way_83 rfl (fun _ _ _ => rfl) rfl rfl rfl ?_
      refine zf_gfr (pc' := 87) (b := 35) dX7_way_84 rfl rfl (by decide) rfl rfl ?_
      refine zf_gfr (pc' := 90) (b := 36) dX7_way_87 rfl rfl (by decide) rfl rfl ?_
      refine zf_iv (k := 43) (pc' := 93) (r := []) dX7_way_90 rfl rfl rfl rfl zf_walk2.1 zf_walk2.2.1 rfl rfl (zr_43 (by omega) zf_walk2 zf_walk36 h) (zf_kO (fun m12 h => ?_))
      refine zf_ld (pc' := 94) (v := .inr (.inr (1, 0))) dX7_way_93 rfl (fun _ _ _ => rfl) rfl rfl rfl ?_
      refine zf_gfr (pc' := 97) (b := 35) dX7_way_94 rfl rfl (by decide) rfl rfl ?_
      refine zf_gfi (pc' := 100) dX7_way_97 rfl rfl (by decide) rfl rfl ?_
      exact zf_ri dX7_way_100 rfl h
    · replace h := h.2 g
      refine zf_ld (pc' := 53) (v := .inr (.inr (1, 0))) dX7_way_52 rfl (fun _ _ _ => rfl) rfl rfl rfl ?_
      refine zf_bi (v := 6) (pc' := 55) dX7_way_53 rfl rfl ?_
      refine zf_iv (k := 109) (pc' := 58) (r := []) dX7_way_55 rfl rfl rfl rfl (by decide) rfl rfl rfl (zr_109 (by omega) h) (zf_kI (fun x13 m14 h => ?_))
      exact zf_ri dX7_way_58 rfl h
  · replace h := h.2 g
    refine zf_ld (pc' := 11) (v := .inr (.inr (1, 0))) dX7_way_10 rfl (fun _ _ _ => rfl) rfl rfl rfl ?_
    refine zf_ld (pc' := 12) (v := .inl x1) dX7_way_11 rfl (fun _ _ _ => rfl) rfl rfl rfl ?_
    refine zf_iv (k := 109) (pc' := 15) (r := []) dX7_way_12 rfl rfl rfl rfl (by decide) rfl rfl rfl (zr_109 (by omega) h) (zf_kI (fun x15 m16 h => ?_))
    exact zf_ri dX7_way_15 rfl h
def zt_83 : zx_MT := (7, yX7_fault, cX7_fault, 1, (some FieldType.int), 0, 0)
theorem zm_83 : zx_m 83 = zt_83 := rfl
theorem dX7_fault_r0 : zdcP cX7_fault 0 [(.aload_n 0, 1), (.getfield 73, 3), (.ireturn, 1)] := zdcA_ok (by decide +kernel)
theorem dX7_fault_0 : decode cX7_fault 0 = .ok (.aload_n 0, 1) := dX7_fault_r0.1
theorem dX7_fault_1 : decode cX7_fault 1 = .ok (.getfield 73, 3) := dX7_fault_r0.2.1
theorem dX7_fault_4 : decode cX7_fault 4 = .ok (.ireturn, 1) := dX7_fault_r0.2.2.1
def wp_83 (m : zf_Me) (Q : Int32 → zf_Me → Prop) : Prop := Q (m.1 0 10) m
theorem zr_83 {d : Nat} (hd : 0 ≤ d) {Q : Int32 → zf_Me → Prop} {m : zf_Me} (h : wp_83 m Q) : zf_M d 83 [.inr (.inr (1, 0))] m (zf_I Q) := by
  unfold wp_83 at h
  refine zf_M_of (Nat.le_of_ble_eq_true rfl) zm_83 (L := [some (.inr (.inr (1, 0)))]) rfl ?_
  refine zf_ld (pc' := 1) (v := .inr (.inr (1, 0))) dX7_fault_0 rfl (fun _ _ _ => rfl) rfl rfl rfl ?_
  refine zf_gfi (pc' := 4) dX7_fault_1 rfl rfl (by decide) rfl rfl ?_
  exact zf_ri dX7_fault_4 rfl h
def zt_84 : zx_MT := (7, yX7_load, cX7_load, 3, (some FieldType.int), 2, 0)
theorem zm_84 : zx_m 84 = zt_84 := rfl
theorem dX7_load_r0 : zdcP cX7_load 0 [(.aload_n 0, 1), (.getfield 23, 3), (.getfield 30, 3), (.iload_n 1, 1), (.invokevirtual 118, 3), (.ifCond .ne 9, 3), (.aload_n 0, 1), (.iconst 1, 1), (.invokevirtual 82, 3), (.ireturn, 1), (.aload_n 0, 1), (.getfield 23, 3), (.getfield 30, 3), (.iload_n 2, 1), (.invokevirtual 159, 3), (.ifCond .ne 9, 3)] := zdcA_ok (by decide +kernel)
theorem dX7_load_0 : decode cX7_load 0 = .ok (.aload_n 0, 1) := dX7_load_r0.1
theorem dX7_load_1 : decode cX7_load 1 = .ok (.getfield 23, 3) := dX7_load_r0.2.1
theorem dX7_load_4 : decode cX7_load 4 = .ok (.getfield 30, 3) := dX7_load_r0.2.2.1
theorem dX7_load_7 : decode cX7_load 7 = .ok (.iload_n 1, 1) := dX7_load_r0.2.2.2.1
theorem dX7_load_8 : decode cX7_load 8 = .ok (.invokevirtual 118, 3) := dX7_load_r0.2.2.2.2.1
theorem dX7_load_11 : decode cX7_load 11 = .ok (.ifCond .ne 9, 3) := dX7_load_r0.2.2.2.2.2.1
theorem dX7_load_14 : decode cX7_load 14 = .ok (.aload_n 0, 1) := dX7_load_r0.2.2.2.2.2.2.1
theorem dX7_load_15 : decode cX7_load 15 = .ok (.iconst 1, 1) := dX7_load_r0.2.2.2.2.2.2.2.1
theorem dX7_load_16 : decode cX7_load 16 = .ok (.invokevirtual 82, 3) := dX7_load_r0.2.2.2.2.2.2.2.2.1
theorem dX7_load_19 : decode cX7_load 19 = .ok (.ireturn, 1) := dX7_load_r0.2.2.2.2.2.2.2.2.2.1
theorem dX7_load_20 : decode cX7_load 20 = .ok (.aload_n 0, 1) := dX7_load_r0.2.2.2.2.2.2.2.2.2.2.1
theorem dX7_load_21 : decode cX7_load 21 = .ok (.getfield 23, 3) := dX7_load_r0.2.2.2.2.2.2.2.2.2.2.2.1
theorem dX7_load_24 : decode cX7_load 24 = .ok (.getfield 30, 3) := dX7_load_r0.2.2.2.2.2.2.2.2.2.2.2.2.1
theorem dX7_load_27 : decode cX7_load 27 = .ok (.iload_n 2, 1) := dX7_load_r0.2.2.2.2.2.2.2.2.2.2.2.2.2.1
theorem dX7_load_28 : decode cX7_load 28 = .ok (.invokevirtual 159, 3) := dX7_load_r0.2.2.2.2.2.2.2.2.2.2.2.2.2.2.1
theorem dX7_load_31 : decode cX7_load 31 = .ok (.ifCond .ne 9, 3) := dX7_load_r0.2.2.2.2.2.2.2.2.2.2.2.2.2.2.2.1
theorem dX7_load_r34 : zdcP cX7_load 34 [(.aload_n 0, 1), (.iconst 5, 1), (.invokevirtual 82, 3), (.ireturn, 1), (.aload_n 0, 1), (.getfield 23, 3), (.iload_n 1, 1), (.aload_n 0, 1), (.getfield 23, 3), (.getfield 30, 3), (.getfield 165, 3), (.iload_n 2, 1), (.iaload, 1), (.invokevirtual 140, 3), (.ireturn, 1)] := zdcA_ok (by decide +kernel)
theorem dX7_load_34 : decode cX7_load 34 = .ok (.aload_n 0, 1) := dX7_load_r34.1
theorem dX7_load_35 : decode cX7_load 35 = .ok (.iconst 5, 1) := dX7_load_r34.2.1
theorem dX7_load_36 : decode cX7_load 36 = .ok (.invokevirtual 82, 3) := dX7_load_r34.2.2.1
theorem dX7_load_39 : decode cX7_load 39 = .ok (.ireturn, 1) := dX7_load_r34.2.2.2.1
theorem dX7_load_40 : decode cX7_load 40 = .ok (.aload_n 0, 1) := dX7_load_r34.2.2.2.2.1
theorem dX7_load_41 : decode cX7_load 41 = .ok (.getfield 23, 3) := dX7_load_r34.2.2.2.2.2.1
theorem dX7_load_44 : decode cX7_load 44 = .ok (.iload_n 1, 1) := dX7_load_r34.2.2.2.2.2.2.1
theorem dX7_load_45 : decode cX7_load 45 = .ok (.aload_n 0, 1) := dX7_load_r34.2.2.2.2.2.2.2.1
theorem dX7_load_46 : decode cX7_load 46 = .ok (.getfield 23, 3) := dX7_load_r34.2.2.2.2.2.2.2.2.1
theorem dX7_load_49 : decode cX7_load 49 = .ok (.getfield 30, 3) := dX7_load_r34.2.2.2.2.2.2.2.2.2.1
theorem dX7_load_52 : decode cX7_load 52 = .ok (.getfield 165, 3) := dX7_load_r34.2.2.2.2.2.2.2.2.2.2.1
theorem dX7_load_55 : decode cX7_load 55 = .ok (.iload_n 2, 1) := dX7_load_r34.2.2.2.2.2.2.2.2.2.2.2.1
theorem dX7_load_56 : decode cX7_load 56 = .ok (.iaload, 1) := dX7_load_r34.2.2.2.2.2.2.2.2.2.2.2.2.1
theorem dX7_load_57 : decode cX7_load 57 = .ok (.invokevirtual 140, 3) := dX7_load_r34.2.2.2.2.2.2.2.2.2.2.2.2.2.1
theorem dX7_load_60 : decode cX7_load 60 = .ok (.ireturn, 1) := dX7_load_r34.2.2.2.2.2.2.2.2.2.2.2.2.2.2.1
def wp_84 (v1 : Int32) (v2 : Int32) (m : zf_Me) (Q : Int32 → zf_Me → Prop) : Prop := wp_65 3 v1 m (fun b1 m2 => ((b1 = true → wp_64 3 v2 m2 (fun b3 m4 => ((b3 = true → ((0 ≤ (Int32.toInt v2) ∧ (Int32.toInt v2) < (24 : Int)) ∧ wp_51 2 3 8 v1 (m4.1 4 (Int32.toInt v2).toNat) m4 (fun x5 m6 => Q x5 m6))) ∧ (b3 = false → wp_109 5 m4 (fun x7 m8 => Q x7 m8))))) ∧ (b1 = false → wp_109 1 m2 (fun x9 m10 => Q x9 m10))))
theorem zr_84 {d : Nat} (hd : 1 ≤ d) {v1 : Int32} {v2 : Int32} {Q : Int32 → zf_Me → Prop} {m : zf_Me} (h : wp_84 v1 v2 m Q) : zf_M d 84 [.inr (.inr (1, 0)), .inl v1, .inl v2] m (zf_I Q) := by
  obtain ⟨e, rfl⟩ : ∃ z, d = z + 1 := ⟨d - 1, by omega⟩
  unfold wp_84 at h
  refine zf_M_of (Nat.le_of_ble_eq_true rfl) zm_84 (L := [some (.inr (.inr (1, 0))), some (.inl v1), some (.inl v2)]) rfl ?_
  refine zf_ld (pc' := 1) (v := .inr (.inr (1, 0))) dX7_load_0 rfl (fun _ _ _ => rfl) rfl rfl rfl ?_
  refine zf_gfr (pc' := 4) (b := 2) dX7_load_1 rfl rfl (by decide) rfl rfl ?_
  refine zf_gfr (pc' := 7) (b := 3) dX7_load_4 rfl rfl zf_walk2.1 zf_walk2.2.1 rfl ?_
  refine zf_ld (pc' := 8) (v := .inl v1) dX7_load_7 rfl (fun _ _ _ => rfl) rfl rfl rfl ?_
  refine zf_iv (k := 65) (pc' := 11) (r := []) dX7_load_8 rfl rfl rfl rfl zf_walk2.2.2.1.1 zf_walk2.2.2.1.2.1 rfl rfl (zr_65 (by omega) zf_walk2.2.2.1 h) (zf_kB (fun b1 m2 h => ?_))
  refine zf_ib_ne (tgt := 20) (pc' := 14) dX7_load_11 rfl rfl (fun g => ?_) (fun g => ?_)
  · replace h := h.1 g
    refine zf_ld (pc' := 21) (v := .inr (.inr (1, 0))) dX7_load_20 rfl (fun _ _ _ => rfl) rfl rfl rfl ?_
    refine zf_gfr (pc' := 24) (b := 2) dX7_load_21 rfl rfl (by decide) rfl rfl ?_
    refine zf_gfr (pc' := 27) (b := 3) dX7_load_24 rfl rfl zf_walk2.1 zf_walk2.2.1 rfl ?_
    refine zf_ld (pc' := 28) (v := .inl v2) dX7_load_27 rfl (fun _ _ _ => rfl) rfl rfl rfl ?_
    refine zf_iv (k := 64) (pc' := 31) (r := []) dX7_load_28 rfl rfl rfl rfl zf_walk2.2.2.1.1 zf_walk2.2.2.1.2.1 rfl rfl (zr_64 (by omega) zf_walk2.2.2.1 h) (zf_kB (fun b3 m4 h => ?_))
    refine zf_ib_ne (tgt := 40) (pc' := 34) dX7_load_31 rfl rfl (fun g => ?_) (fun g => ?_)
    · replace h := h.1 g
      refine zf_ld (pc' := 41) (v := .inr (.inr (1, 0))) dX7_load_40 rfl (fun _ _ _ => rfl) rfl rfl rfl ?_
      refine zf_gfr (pc' := 44) (b := 2) dX7_load_41 rfl rfl (by decide) rfl rfl ?_
      refine zf_ld (pc' := 45) (v := .inl v1) dX7_load_44 rfl (fun _ _ _ => rfl) rfl rfl rfl ?_
      refine zf_ld (pc' := 46) (v := .inr (.inr (1, 0))) dX7_load_45 rfl (fun _ _ _ => rfl) rfl rfl rfl ?_
      refine zf_gfr (pc' := 49) (b := 2) dX7_load_46 rfl rfl (by decide) rfl rfl ?_
      refine zf_gfr (pc' := 52) (b := 3) dX7_load_49 rfl rfl zf_walk2.1 zf_walk2.2.1 rfl ?_
      refine zf_gfr (pc' := 55) (b := 4) dX7_load_52 rfl rfl zf_walk2.2.2.1.1 zf_walk2.2.2.1.2.1 rfl ?_
      refine zf_ld (pc' := 56) (v := .inl v2) dX7_load_55 rfl (fun _ _ _ => rfl) rfl rfl rfl ?_
      refine zf_ial (pc' := 57) dX7_load_56 rfl zf_walk2.2.2.1.2.2.1.1 zf_walk2.2.2.1.2.2.1.2 h.1 rfl ?_
      replace h := h.2
      refine zf_iv (k := 51) (pc' := 60) (r := []) dX7_load_57 rfl rfl rfl rfl zf_walk2.1 zf_walk2.2.1 rfl rfl (zr_51 (by omega) zf_walk2 h) (zf_kI (fun x5 m6 h => ?_))
      exact zf_ri dX7_load_60 rfl h
    · replace h := h.2 g
      refine zf_ld (pc' := 35) (v := .inr (.inr (1, 0))) dX7_load_34 rfl (fun _ _ _ => rfl) rfl rfl rfl ?_
      refine zf_ic (v := 5) (pc' := 36) dX7_load_35 rfl rfl ?_
      refine zf_iv (k := 109) (pc' := 39) (r := []) dX7_load_36 rfl rfl rfl rfl (by decide) rfl rfl rfl (zr_109 (by omega) h) (zf_kI (fun x7 m8 h => ?_))
      exact zf_ri dX7_load_39 rfl h
  · replace h := h.2 g
    refine zf_ld (pc' := 15) (v := .inr (.inr (1, 0))) dX7_load_14 rfl (fun _ _ _ => rfl) rfl rfl rfl ?_
    refine zf_ic (v := 1) (pc' := 16) dX7_load_15 rfl rfl ?_
    refine zf_iv (k := 109) (pc' := 19) (r := []) dX7_load_16 rfl rfl rfl rfl (by decide) rfl rfl rfl (zr_109 (by omega) h) (zf_kI (fun x9 m10 h => ?_))
    exact zf_ri dX7_load_19 rfl h
def zt_85 : zx_MT := (7, yX7_may, cX7_may, 2, (some FieldType.int), 1, 0)
theorem zm_85 : zx_m 85 = zt_85 := rfl
theorem dX7_may_r0 : zdcP cX7_may 0 [(.iload_n 1, 1), (.ifCond .lt 9, 3), (.iload_n 1, 1), (.bipush 10, 2), (.if_icmp .lt 10, 3), (.aload_n 0, 1), (.bipush 6, 2), (.invokevirtual 82, 3), (.ireturn, 1), (.aload_n 0, 1), (.getfield 23, 3), (.iload_n 1, 1), (.invokevirtual 208, 3), (.ifCond .eq 7, 3), (.iconst 1, 1), (.goto 4, 3)] := zdcA_ok (by decide +kernel)
theorem dX7_may_0 : decode cX7_may 0 = .ok (.iload_n 1, 1) := dX7_may_r0.1
theorem dX7_may_1 : decode cX7_may 1 = .ok (.ifCond .lt 9, 3) := dX7_may_r0.2.1
theorem dX7_may_4 : decode cX7_may 4 = .ok (.iload_n 1, 1) := dX7_may_r0.2.2.1
theorem dX7_may_5 : decode cX7_may 5 = .ok (.bipush 10, 2) := dX7_may_r0.2.2.2.1
theorem dX7_may_7 : decode cX7_may 7 = .ok (.if_icmp .lt 10, 3) := dX7_may_r0.2.2.2.2.1
theorem dX7_may_10 : decode cX7_may 10 = .ok (.aload_n 0, 1) := dX7_may_r0.2.2.2.2.2.1
theorem dX7_may_11 : decode cX7_may 11 = .ok (.bipush 6, 2) := dX7_may_r0.2.2.2.2.2.2.1
theorem dX7_may_13 : decode cX7_may 13 = .ok (.invokevirtual 82, 3) := dX7_may_r0.2.2.2.2.2.2.2.1
theorem dX7_may_16 : decode cX7_may 16 = .ok (.ireturn, 1) := dX7_may_r0.2.2.2.2.2.2.2.2.1
theorem dX7_may_17 : decode cX7_may 17 = .ok (.aload_n 0, 1) := dX7_may_r0.2.2.2.2.2.2.2.2.2.1
theorem dX7_may_18 : decode cX7_may 18 = .ok (.getfield 23, 3) := dX7_may_r0.2.2.2.2.2.2.2.2.2.2.1
theorem dX7_may_21 : decode cX7_may 21 = .ok (.iload_n 1, 1) := dX7_may_r0.2.2.2.2.2.2.2.2.2.2.2.1
theorem dX7_may_22 : decode cX7_may 22 = .ok (.invokevirtual 208, 3) := dX7_may_r0.2.2.2.2.2.2.2.2.2.2.2.2.1
theorem dX7_may_25 : decode cX7_may 25 = .ok (.ifCond .eq 7, 3) := dX7_may_r0.2.2.2.2.2.2.2.2.2.2.2.2.2.1
theorem dX7_may_28 : decode cX7_may 28 = .ok (.iconst 1, 1) := dX7_may_r0.2.2.2.2.2.2.2.2.2.2.2.2.2.2.1
theorem dX7_may_29 : decode cX7_may 29 = .ok (.goto 4, 3) := dX7_may_r0.2.2.2.2.2.2.2.2.2.2.2.2.2.2.2.1
theorem dX7_may_r32 : zdcP cX7_may 32 [(.iconst 0, 1), (.ireturn, 1)] := zdcA_ok (by decide +kernel)
theorem dX7_may_32 : decode cX7_may 32 = .ok (.iconst 0, 1) := dX7_may_r32.1
theorem dX7_may_33 : decode cX7_may 33 = .ok (.ireturn, 1) := dX7_may_r32.2.1
def wp_85 (v1 : Int32) (m : zf_Me) (Q : Int32 → zf_Me → Prop) : Prop := ((v1.toInt < 0 → wp_109 6 m (fun x1 m2 => Q x1 m2)) ∧ (v1.toInt ≥ 0 → ((v1.toInt < 10 → wp_52 2 3 8 v1 m (fun b3 m4 => ((b3 = false → Q 0 m4) ∧ (b3 = true → Q 1 m4)))) ∧ (v1.toInt ≥ 10 → wp_109 6 m (fun x5 m6 => Q x5 m6)))))
theorem zr_85 {d : Nat} (hd : 3 ≤ d) {v1 : Int32} {Q : Int32 → zf_Me → Prop} {m : zf_Me} (h : wp_85 v1 m Q) : zf_M d 85 [.inr (.inr (1, 0)), .inl v1] m (zf_I Q) := by
  obtain ⟨e, rfl⟩ : ∃ z, d = z + 1 := ⟨d - 1, by omega⟩
  unfold wp_85 at h
  refine zf_M_of (Nat.le_of_ble_eq_true rfl) zm_85 (L := [some (.inr (.inr (1, 0))), some (.inl v1)]) rfl ?_
  refine zf_ld (pc' := 1) (v := .inl v1) dX7_may_0 rfl (fun _ _ _ => rfl) rfl rfl rfl ?_
  refine zf_if_lt (tgt := 10) (pc' := 4) dX7_may_1 rfl rfl (fun g => ?_) (fun g => ?_)
  · replace h := h.1 g
    refine zf_ld (pc' := 11) (v := .inr (.inr (1, 0))) dX7_may_10 rfl (fun _ _ _ => rfl) rfl rfl rfl ?_
    refine zf_bi (v := 6) (pc' := 13) dX7_may_11 rfl rfl ?_
    refine zf_iv (k := 109) (pc' := 16) (r := []) dX7_may_13 rfl rfl rfl rfl (by decide) rfl rfl rfl (zr_109 (by omega) h) (zf_kI (fun x1 m2 h => ?_))
    exact zf_ri dX7_may_16 rfl h
  · replace h := h.2 g
    refine zf_ld (pc' := 5) (v := .inl v1) dX7_may_4 rfl (fun _ _ _ => rfl) rfl rfl rfl ?_
    refine zf_bi (v := 10) (pc' := 7) dX7_may_5 rfl rfl ?_
    refine zf_icmp_lt (tgt := 17) (pc' := 10) dX7_may_7 rfl rfl (fun g => ?_) (fun g => ?_)
    · replace h := h.1 g
      refine zf_ld (pc' := 18) (v := .inr (.inr (1, 0))) dX7_may_17 rfl (fun _ _ _ => rfl) rfl rfl rfl ?_
      refine zf_gfr (pc' := 21) (b := 2) dX7_may_18 rfl rfl (by decide) rfl rfl ?_
      refine zf_ld (pc' := 22) (v := .inl v1) dX7_may_21 rfl (fun _ _ _ => rfl) rfl rfl rfl ?_
      refine zf_iv (k := 52) (pc' := 25) (r := []) dX7_may_22 rfl rfl rfl rfl zf_walk2.1 zf_walk2.2.1 rfl rfl (zr_52 (by omega) zf_walk2 h) (zf_kB (fun b3 m4 h => ?_))
      refine zf_ib_eq (tgt := 32) (pc' := 28) dX7_may_25 rfl rfl (fun g => ?_) (fun g => ?_)
      · replace h := h.1 g
        refine zf_ic (v := 0) (pc' := 33) dX7_may_32 rfl rfl ?_
        exact zf_ri dX7_may_33 rfl h
      · replace h := h.2 g
        refine zf_ic (v := 1) (pc' := 29) dX7_may_28 rfl rfl ?_
        refine zf_goto (tgt := 33) dX7_may_29 rfl ?_
        exact zf_ri dX7_may_33 rfl h
    · replace h := h.2 g
      refine zf_ld (pc' := 11) (v := .inr (.inr (1, 0))) dX7_may_10 rfl (fun _ _ _ => rfl) rfl rfl rfl ?_
      refine zf_bi (v := 6) (pc' := 13) dX7_may_11 rfl rfl ?_
      refine zf_iv (k := 109) (pc' := 16) (r := []) dX7_may_13 rfl rfl rfl rfl (by decide) rfl rfl rfl (zr_109 (by omega) h) (zf_kI (fun x5 m6 h => ?_))
      exact zf_ri dX7_may_16 rfl h
def zt_86 : zx_MT := (7, yX7_next, cX7_next, 3, (some FieldType.int), 0, 0)
theorem zm_86 : zx_m 86 = zt_86 := rfl
theorem dX7_next_r0 : zdcP cX7_next 0 [(.iconst 0, 1), (.istore_n 1, 1), (.iconst 0, 1), (.istore_n 2, 1), (.iload_n 2, 1), (.bipush 10, 2), (.if_icmp .ge 26, 3), (.aload_n 0, 1), (.getfield 23, 3), (.iload_n 2, 1), (.invokevirtual 208, 3), (.ifCond .eq 9, 3), (.iload_n 1, 1), (.iconst 1, 1), (.iload_n 2, 1), (.ishl, 1)] := zdcA_ok (by decide +kernel)
theorem dX7_next_0 : decode cX7_next 0 = .ok (.iconst 0, 1) := dX7_next_r0.1
theorem dX7_next_1 : decode cX7_next 1 = .ok (.istore_n 1, 1) := dX7_next_r0.2.1
theorem dX7_next_2 : decode cX7_next 2 = .ok (.iconst 0, 1) := dX7_next_r0.2.2.1
theorem dX7_next_3 : decode cX7_next 3 = .ok (.istore_n 2, 1) := dX7_next_r0.2.2.2.1
theorem dX7_next_4 : decode cX7_next 4 = .ok (.iload_n 2, 1) := dX7_next_r0.2.2.2.2.1
theorem dX7_next_5 : decode cX7_next 5 = .ok (.bipush 10, 2) := dX7_next_r0.2.2.2.2.2.1
theorem dX7_next_7 : decode cX7_next 7 = .ok (.if_icmp .ge 26, 3) := dX7_next_r0.2.2.2.2.2.2.1
theorem dX7_next_10 : decode cX7_next 10 = .ok (.aload_n 0, 1) := dX7_next_r0.2.2.2.2.2.2.2.1
theorem dX7_next_11 : decode cX7_next 11 = .ok (.getfield 23, 3) := dX7_next_r0.2.2.2.2.2.2.2.2.1
theorem dX7_next_14 : decode cX7_next 14 = .ok (.iload_n 2, 1) := dX7_next_r0.2.2.2.2.2.2.2.2.2.1
theorem dX7_next_15 : decode cX7_next 15 = .ok (.invokevirtual 208, 3) := dX7_next_r0.2.2.2.2.2.2.2.2.2.2.1
theorem dX7_next_18 : decode cX7_next 18 = .ok (.ifCond .eq 9, 3) := dX7_next_r0.2.2.2.2.2.2.2.2.2.2.2.1
theorem dX7_next_21 : decode cX7_next 21 = .ok (.iload_n 1, 1) := dX7_next_r0.2.2.2.2.2.2.2.2.2.2.2.2.1
theorem dX7_next_22 : decode cX7_next 22 = .ok (.iconst 1, 1) := dX7_next_r0.2.2.2.2.2.2.2.2.2.2.2.2.2.1
theorem dX7_next_23 : decode cX7_next 23 = .ok (.iload_n 2, 1) := dX7_next_r0.2.2.2.2.2.2.2.2.2.2.2.2.2.2.1
theorem dX7_next_24 : decode cX7_next 24 = .ok (.ishl, 1) := dX7_next_r0.2.2.2.2.2.2.2.2.2.2.2.2.2.2.2.1
theorem dX7_next_r25 : zdcP cX7_next 25 [(.ior, 1), (.istore_n 1, 1), (.iinc 2 1, 3), (.goto (-26), 3), (.iload_n 1, 1), (.ireturn, 1)] := zdcA_ok (by decide +kernel)
theorem dX7_next_25 : decode cX7_next 25 = .ok (.ior, 1) := dX7_next_r25.1
theorem dX7_next_26 : decode cX7_next 26 = .ok (.istore_n 1, 1) := dX7_next_r25.2.1
theorem dX7_next_27 : decode cX7_next 27 = .ok (.iinc 2 1, 3) := dX7_next_r25.2.2.1
theorem dX7_next_30 : decode cX7_next 30 = .ok (.goto (-26), 3) := dX7_next_r25.2.2.2.1
theorem dX7_next_33 : decode cX7_next 33 = .ok (.iload_n 1, 1) := dX7_next_r25.2.2.2.2.1
theorem dX7_next_34 : decode cX7_next 34 = .ok (.ireturn, 1) := dX7_next_r25.2.2.2.2.2.1
def wq_86_4 (Q : Int32 → zf_Me → Prop) : Nat → Int32 → Int32 → zf_Me → Prop
  | 0, _, _, _ => False
  | n + 1, v1, v2, m => ((v2.toInt ≥ 10 → Q v1 m) ∧ (v2.toInt < 10 → wp_52 2 3 8 v2 m (fun b1 m2 => ((b1 = false → wq_86_4 Q n v1 (v2 + 1) m2) ∧ (b1 = true → wq_86_4 Q n (v1 ||| (1 <<< (v2 &&& 31))) (v2 + 1) m2)))))
theorem zq_86_4 {d : Nat} (hd : 3 ≤ d) {Q : Int32 → zf_Me → Prop} : ∀ (n : Nat) (v1 : Int32) (v2 : Int32) (m : zf_Me), wq_86_4 Q n v1 v2 m → zf_W none 0 0 d zt_86 4 [some (.inr (.inr (1, 0))), some (.inl v1), some (.inl v2)] [] m (zf_I Q) := by
  obtain ⟨e, rfl⟩ : ∃ z, d = z + 1 := ⟨d - 1, by omega⟩
  intro n
  induction n with
  | zero =>
    intro v1 v2 m h
    exact h.elim
  | succ n ih =>
    intro v1 v2 m h
    unfold wq_86_4 at h
    refine zf_ld (pc' := 5) (v := .inl v2) dX7_next_4 rfl (fun _ _ _ => rfl) rfl rfl rfl ?_
    refine zf_bi (v := 10) (pc' := 7) dX7_next_5 rfl rfl ?_
    refine zf_icmp_ge (tgt := 33) (pc' := 10) dX7_next_7 rfl rfl (fun g => ?_) (fun g => ?_)
    · replace h := h.1 g
      refine zf_ld (pc' := 34) (v := .inl v1) dX7_next_33 rfl (fun _ _ _ => rfl) rfl rfl rfl ?_
      exact zf_ri dX7_next_34 rfl h
    · replace h := h.2 g
      refine zf_ld (pc' := 11) (v := .inr (.inr (1, 0))) dX7_next_10 rfl (fun _ _ _ => rfl) rfl rfl rfl ?_
      refine zf_gfr (pc' := 14) (b := 2) dX7_next_11 rfl rfl (by decide) rfl rfl ?_
      refine zf_ld (pc' := 15) (v := .inl v2) dX7_next_14 rfl (fun _ _ _ => rfl) rfl rfl rfl ?_
      refine zf_iv (k := 52) (pc' := 18) (r := []) dX7_next_15 rfl rfl rfl rfl zf_walk2.1 zf_walk2.2.1 rfl rfl (zr_52 (by omega) zf_walk2 h) (zf_kB (fun b1 m2 h => ?_))
      refine zf_ib_eq (tgt := 27) (pc' := 21) dX7_next_18 rfl rfl (fun g => ?_) (fun g => ?_)
      · replace h := h.1 g
        refine zf_ii (y := (v2 + 1)) (L2 := [some (.inr (.inr (1, 0))), some (.inl v1), some (.inl (v2 + 1))]) (pc' := 30) dX7_next_27 rfl rfl rfl rfl rfl ?_
        refine zf_goto (tgt := 4) dX7_next_30 rfl ?_
        exact zf_lo (ih _ _ _ h) ⟨rfl, rfl, rfl, trivial⟩
      · replace h := h.2 g
        refine zf_ld (pc' := 22) (v := .inl v1) dX7_next_21 rfl (fun _ _ _ => rfl) rfl rfl rfl ?_
        refine zf_ic (v := 1) (pc' := 23) dX7_next_22 rfl rfl ?_
        refine zf_ld (pc' := 24) (v := .inl v2) dX7_next_23 rfl (fun _ _ _ => rfl) rfl rfl rfl ?_
        refine zf_in (pc' := 25) (S' := [.inl (1 <<< (v2 &&& 31)), .inl v1]) dX7_next_24 rfl (fun _ _ _ => rfl) ?_
        refine zf_in (pc' := 26) (S' := [.inl (v1 ||| (1 <<< (v2 &&& 31)))]) dX7_next_25 rfl (fun _ _ _ => rfl) ?_
        refine zf_st (pc' := 27) (L2 := [some (.inr (.inr (1, 0))), some (.inl (v1 ||| (1 <<< (v2 &&& 31)))), some (.inl v2)]) dX7_next_26 rfl (fun _ _ _ => rfl) rfl rfl rfl rfl rfl rfl ?_
        refine zf_ii (y := (v2 + 1)) (L2 := [some (.inr (.inr (1, 0))), some (.inl (v1 ||| (1 <<< (v2 &&& 31)))), some (.inl (v2 + 1))]) (pc' := 30) dX7_next_27 rfl rfl rfl rfl rfl ?_
        refine zf_goto (tgt := 4) dX7_next_30 rfl ?_
        exact zf_lo (ih _ _ _ h) ⟨rfl, rfl, rfl, trivial⟩
def wp_86 (m : zf_Me) (Q : Int32 → zf_Me → Prop) : Prop := (∃ n4, wq_86_4 Q n4 0 0 m)
theorem zr_86 {d : Nat} (hd : 3 ≤ d) {Q : Int32 → zf_Me → Prop} {m : zf_Me} (h : wp_86 m Q) : zf_M d 86 [.inr (.inr (1, 0))] m (zf_I Q) := by
  unfold wp_86 at h
  refine zf_M_of (Nat.le_of_ble_eq_true rfl) zm_86 (L := [some (.inr (.inr (1, 0))), none, none]) rfl ?_
  refine zf_ic (v := 0) (pc' := 1) dX7_next_0 rfl rfl ?_
  refine zf_st (pc' := 2) (L2 := [some (.inr (.inr (1, 0))), some (.inl 0), none]) dX7_next_1 rfl (fun _ _ _ => rfl) rfl rfl rfl rfl rfl rfl ?_
  refine zf_ic (v := 0) (pc' := 3) dX7_next_2 rfl rfl ?_
  refine zf_st (pc' := 4) (L2 := [some (.inr (.inr (1, 0))), some (.inl 0), some (.inl 0)]) dX7_next_3 rfl (fun _ _ _ => rfl) rfl rfl rfl rfl rfl rfl ?_
  obtain ⟨n4, h⟩ := h
  exact zf_lo (zq_86_4 (by omega) n4 _ _ _ h) ⟨rfl, rfl, rfl, trivial⟩
def zt_87 : zx_MT := (7, yX7_ahead, cX7_ahead, 3, (some FieldType.int), 2, 0)
theorem zm_87 : zx_m 87 = zt_87 := rfl
theorem dX7_ahead_r0 : zdcP cX7_ahead 0 [(.iload_n 2, 1), (.iconst (-1), 1), (.if_icmp .lt 9, 3), (.iload_n 2, 1), (.bipush 6, 2), (.if_icmp .le 9, 3), (.aload_n 0, 1), (.iconst 5, 1), (.invokevirtual 82, 3), (.ireturn, 1), (.iload_n 1, 1), (.iconst 1, 1), (.if_icmp .lt 8, 3), (.iload_n 1, 1), (.iconst 4, 1), (.if_icmp .le 10, 3)] := zdcA_ok (by decide +kernel)
theorem dX7_ahead_0 : decode cX7_ahead 0 = .ok (.iload_n 2, 1) := dX7_ahead_r0.1
theorem dX7_ahead_1 : decode cX7_ahead 1 = .ok (.iconst (-1), 1) := dX7_ahead_r0.2.1
theorem dX7_ahead_2 : decode cX7_ahead 2 = .ok (.if_icmp .lt 9, 3) := dX7_ahead_r0.2.2.1
theorem dX7_ahead_5 : decode cX7_ahead 5 = .ok (.iload_n 2, 1) := dX7_ahead_r0.2.2.2.1
theorem dX7_ahead_6 : decode cX7_ahead 6 = .ok (.bipush 6, 2) := dX7_ahead_r0.2.2.2.2.1
theorem dX7_ahead_8 : decode cX7_ahead 8 = .ok (.if_icmp .le 9, 3) := dX7_ahead_r0.2.2.2.2.2.1
theorem dX7_ahead_11 : decode cX7_ahead 11 = .ok (.aload_n 0, 1) := dX7_ahead_r0.2.2.2.2.2.2.1
theorem dX7_ahead_12 : decode cX7_ahead 12 = .ok (.iconst 5, 1) := dX7_ahead_r0.2.2.2.2.2.2.2.1
theorem dX7_ahead_13 : decode cX7_ahead 13 = .ok (.invokevirtual 82, 3) := dX7_ahead_r0.2.2.2.2.2.2.2.2.1
theorem dX7_ahead_16 : decode cX7_ahead 16 = .ok (.ireturn, 1) := dX7_ahead_r0.2.2.2.2.2.2.2.2.2.1
theorem dX7_ahead_17 : decode cX7_ahead 17 = .ok (.iload_n 1, 1) := dX7_ahead_r0.2.2.2.2.2.2.2.2.2.2.1
theorem dX7_ahead_18 : decode cX7_ahead 18 = .ok (.iconst 1, 1) := dX7_ahead_r0.2.2.2.2.2.2.2.2.2.2.2.1
theorem dX7_ahead_19 : decode cX7_ahead 19 = .ok (.if_icmp .lt 8, 3) := dX7_ahead_r0.2.2.2.2.2.2.2.2.2.2.2.2.1
theorem dX7_ahead_22 : decode cX7_ahead 22 = .ok (.iload_n 1, 1) := dX7_ahead_r0.2.2.2.2.2.2.2.2.2.2.2.2.2.1
theorem dX7_ahead_23 : decode cX7_ahead 23 = .ok (.iconst 4, 1) := dX7_ahead_r0.2.2.2.2.2.2.2.2.2.2.2.2.2.2.1
theorem dX7_ahead_24 : decode cX7_ahead 24 = .ok (.if_icmp .le 10, 3) := dX7_ahead_r0.2.2.2.2.2.2.2.2.2.2.2.2.2.2.2.1
theorem dX7_ahead_r27 : zdcP cX7_ahead 27 [(.aload_n 0, 1), (.bipush 6, 2), (.invokevirtual 82, 3), (.ireturn, 1), (.aload_n 0, 1), (.getfield 47, 3), (.aload_n 0, 1), (.getfield 23, 3), (.iload_n 1, 1), (.invokevirtual 211, 3), (.iload_n 2, 1)] := zdcA_ok (by decide +kernel)
theorem dX7_ahead_27 : decode cX7_ahead 27 = .ok (.aload_n 0, 1) := dX7_ahead_r27.1
theorem dX7_ahead_28 : decode cX7_ahead 28 = .ok (.bipush 6, 2) := dX7_ahead_r27.2.1
theorem dX7_ahead_30 : decode cX7_ahead 30 = .ok (.invokevirtual 82, 3) := dX7_ahead_r27.2.2.1
theorem dX7_ahead_33 : decode cX7_ahead 33 = .ok (.ireturn, 1) := dX7_ahead_r27.2.2.2.1
theorem dX7_ahead_34 : decode cX7_ahead 34 = .ok (.aload_n 0, 1) := dX7_ahead_r27.2.2.2.2.1
theorem dX7_ahead_35 : decode cX7_ahead 35 = .ok (.getfield 47, 3) := dX7_ahead_r27.2.2.2.2.2.1
theorem dX7_ahead_38 : decode cX7_ahead 38 = .ok (.aload_n 0, 1) := dX7_ahead_r27.2.2.2.2.2.2.1
theorem dX7_ahead_39 : decode cX7_ahead 39 = .ok (.getfield 23, 3) := dX7_ahead_r27.2.2.2.2.2.2.2.1
theorem dX7_ahead_42 : decode cX7_ahead 42 = .ok (.iload_n 1, 1) := dX7_ahead_r27.2.2.2.2.2.2.2.2.1
theorem dX7_ahead_43 : decode cX7_ahead 43 = .ok (.invokevirtual 211, 3) := dX7_ahead_r27.2.2.2.2.2.2.2.2.2.1
theorem dX7_ahead_46 : decode cX7_ahead 46 = .ok (.iload_n 2, 1) := dX7_ahead_r27.2.2.2.2.2.2.2.2.2.2.1
theorem dX7_ahead_47 : decode cX7_ahead 47 = .ok (.tableswitch 93 (-1) 6 #[45, 93, 93, 93, 93, 53, 69, 77], 45) := by decide +kernel
theorem dX7_ahead_r92 : zdcP cX7_ahead 92 [(.aload_n 0, 1), (.getfield 47, 3), (.getfield 215, 3), (.ireturn, 1), (.aload_n 0, 1), (.getfield 47, 3), (.getfield 218, 3), (.aload_n 0, 1), (.getfield 23, 3), (.getfield 221, 3), (.isub, 1), (.ireturn, 1), (.aload_n 0, 1), (.getfield 47, 3), (.getfield 224, 3), (.ireturn, 1)] := zdcA_ok (by decide +kernel)
theorem dX7_ahead_92 : decode cX7_ahead 92 = .ok (.aload_n 0, 1) := dX7_ahead_r92.1
theorem dX7_ahead_93 : decode cX7_ahead 93 = .ok (.getfield 47, 3) := dX7_ahead_r92.2.1
theorem dX7_ahead_96 : decode cX7_ahead 96 = .ok (.getfield 215, 3) := dX7_ahead_r92.2.2.1
theorem dX7_ahead_99 : decode cX7_ahead 99 = .ok (.ireturn, 1) := dX7_ahead_r92.2.2.2.1
theorem dX7_ahead_100 : decode cX7_ahead 100 = .ok (.aload_n 0, 1) := dX7_ahead_r92.2.2.2.2.1
theorem dX7_ahead_101 : decode cX7_ahead 101 = .ok (.getfield 47, 3) := dX7_ahead_r92.2.2.2.2.2.1
theorem dX7_ahead_104 : decode cX7_ahead 104 = .ok (.getfield 218, 3) := dX7_ahead_r92.2.2.2.2.2.2.1
theorem dX7_ahead_107 : decode cX7_ahead 107 = .ok (.aload_n 0, 1) := dX7_ahead_r92.2.2.2.2.2.2.2.1
theorem dX7_ahead_108 : decode cX7_ahead 108 = .ok (.getfield 23, 3) := dX7_ahead_r92.2.2.2.2.2.2.2.2.1
theorem dX7_ahead_111 : decode cX7_ahead 111 = .ok (.getfield 221, 3) := dX7_ahead_r92.2.2.2.2.2.2.2.2.2.1
theorem dX7_ahead_114 : decode cX7_ahead 114 = .ok (.isub, 1) := dX7_ahead_r92.2.2.2.2.2.2.2.2.2.2.1
theorem dX7_ahead_115 : decode cX7_ahead 115 = .ok (.ireturn, 1) := dX7_ahead_r92.2.2.2.2.2.2.2.2.2.2.2.1
theorem dX7_ahead_116 : decode cX7_ahead 116 = .ok (.aload_n 0, 1) := dX7_ahead_r92.2.2.2.2.2.2.2.2.2.2.2.2.1
theorem dX7_ahead_117 : decode cX7_ahead 117 = .ok (.getfield 47, 3) := dX7_ahead_r92.2.2.2.2.2.2.2.2.2.2.2.2.2.1
theorem dX7_ahead_120 : decode cX7_ahead 120 = .ok (.getfield 224, 3) := dX7_ahead_r92.2.2.2.2.2.2.2.2.2.2.2.2.2.2.1
theorem dX7_ahead_123 : decode cX7_ahead 123 = .ok (.ireturn, 1) := dX7_ahead_r92.2.2.2.2.2.2.2.2.2.2.2.2.2.2.2.1
theorem dX7_ahead_r124 : zdcP cX7_ahead 124 [(.aload_n 0, 1), (.getfield 47, 3), (.getfield 227, 3), (.aload_n 0, 1), (.getfield 23, 3), (.getfield 230, 3), (.isub, 1), (.ireturn, 1), (.iload_n 2, 1), (.aload_n 0, 1), (.getfield 47, 3), (.getfield 215, 3), (.if_icmp .ge 15, 3), (.aload_n 0, 1), (.getfield 47, 3), (.getfield 233, 3)] := zdcA_ok (by decide +kernel)
theorem dX7_ahead_124 : decode cX7_ahead 124 = .ok (.aload_n 0, 1) := dX7_ahead_r124.1
theorem dX7_ahead_125 : decode cX7_ahead 125 = .ok (.getfield 47, 3) := dX7_ahead_r124.2.1
theorem dX7_ahead_128 : decode cX7_ahead 128 = .ok (.getfield 227, 3) := dX7_ahead_r124.2.2.1
theorem dX7_ahead_131 : decode cX7_ahead 131 = .ok (.aload_n 0, 1) := dX7_ahead_r124.2.2.2.1
theorem dX7_ahead_132 : decode cX7_ahead 132 = .ok (.getfield 23, 3) := dX7_ahead_r124.2.2.2.2.1
theorem dX7_ahead_135 : decode cX7_ahead 135 = .ok (.getfield 230, 3) := dX7_ahead_r124.2.2.2.2.2.1
theorem dX7_ahead_138 : decode cX7_ahead 138 = .ok (.isub, 1) := dX7_ahead_r124.2.2.2.2.2.2.1
theorem dX7_ahead_139 : decode cX7_ahead 139 = .ok (.ireturn, 1) := dX7_ahead_r124.2.2.2.2.2.2.2.1
theorem dX7_ahead_140 : decode cX7_ahead 140 = .ok (.iload_n 2, 1) := dX7_ahead_r124.2.2.2.2.2.2.2.2.1
theorem dX7_ahead_141 : decode cX7_ahead 141 = .ok (.aload_n 0, 1) := dX7_ahead_r124.2.2.2.2.2.2.2.2.2.1
theorem dX7_ahead_142 : decode cX7_ahead 142 = .ok (.getfield 47, 3) := dX7_ahead_r124.2.2.2.2.2.2.2.2.2.2.1
theorem dX7_ahead_145 : decode cX7_ahead 145 = .ok (.getfield 215, 3) := dX7_ahead_r124.2.2.2.2.2.2.2.2.2.2.2.1
theorem dX7_ahead_148 : decode cX7_ahead 148 = .ok (.if_icmp .ge 15, 3) := dX7_ahead_r124.2.2.2.2.2.2.2.2.2.2.2.2.1
theorem dX7_ahead_151 : decode cX7_ahead 151 = .ok (.aload_n 0, 1) := dX7_ahead_r124.2.2.2.2.2.2.2.2.2.2.2.2.2.1
theorem dX7_ahead_152 : decode cX7_ahead 152 = .ok (.getfield 47, 3) := dX7_ahead_r124.2.2.2.2.2.2.2.2.2.2.2.2.2.2.1
theorem dX7_ahead_155 : decode cX7_ahead 155 = .ok (.getfield 233, 3) := dX7_ahead_r124.2.2.2.2.2.2.2.2.2.2.2.2.2.2.2.1
theorem dX7_ahead_r158 : zdcP cX7_ahead 158 [(.iload_n 2, 1), (.iaload, 1), (.goto 8, 3), (.aload_n 0, 1), (.iconst 5, 1), (.invokevirtual 82, 3), (.ireturn, 1)] := zdcA_ok (by decide +kernel)
theorem dX7_ahead_158 : decode cX7_ahead 158 = .ok (.iload_n 2, 1) := dX7_ahead_r158.1
theorem dX7_ahead_159 : decode cX7_ahead 159 = .ok (.iaload, 1) := dX7_ahead_r158.2.1
theorem dX7_ahead_160 : decode cX7_ahead 160 = .ok (.goto 8, 3) := dX7_ahead_r158.2.2.1
theorem dX7_ahead_163 : decode cX7_ahead 163 = .ok (.aload_n 0, 1) := dX7_ahead_r158.2.2.2.1
theorem dX7_ahead_164 : decode cX7_ahead 164 = .ok (.iconst 5, 1) := dX7_ahead_r158.2.2.2.2.1
theorem dX7_ahead_165 : decode cX7_ahead 165 = .ok (.invokevirtual 82, 3) := dX7_ahead_r158.2.2.2.2.2.1
theorem dX7_ahead_168 : decode cX7_ahead 168 = .ok (.ireturn, 1) := dX7_ahead_r158.2.2.2.2.2.2.1
def wp_87 (v1 : Int32) (v2 : Int32) (m : zf_Me) (Q : Int32 → zf_Me → Prop) : Prop := ((v2.toInt < (-1) → wp_109 5 m (fun x1 m2 => Q x1 m2)) ∧ (v2.toInt ≥ (-1) → ((v2.toInt ≤ 6 → ((v1.toInt < 1 → wp_109 6 m (fun x3 m4 => Q x3 m4)) ∧ (v1.toInt ≥ 1 → ((v1.toInt ≤ 4 → wp_14 2 3 8 v1 m (fun m6 => (((v2.toInt < (-1) ∨ v2.toInt > 6) → ((v2.toInt ≥ ((m6.1 21 4)).toInt → wp_109 5 m6 (fun x7 m8 => Q x7 m8)) ∧ (v2.toInt < ((m6.1 21 4)).toInt → ((0 ≤ (Int32.toInt v2) ∧ (Int32.toInt v2) < (4 : Int)) ∧ Q (m6.1 24 (Int32.toInt v2).toNat) m6)))) ∧ (v2.toInt = (-1) → Q (m6.1 21 4) m6) ∧ (v2.toInt = 0 → ((v2.toInt ≥ ((m6.1 21 4)).toInt → wp_109 5 m6 (fun x9 m10 => Q x9 m10)) ∧ (v2.toInt < ((m6.1 21 4)).toInt → ((0 ≤ (Int32.toInt v2) ∧ (Int32.toInt v2) < (4 : Int)) ∧ Q (m6.1 24 (Int32.toInt v2).toNat) m6)))) ∧ (v2.toInt = 1 → ((v2.toInt ≥ ((m6.1 21 4)).toInt → wp_109 5 m6 (fun x11 m12 => Q x11 m12)) ∧ (v2.toInt < ((m6.1 21 4)).toInt → ((0 ≤ (Int32.toInt v2) ∧ (Int32.toInt v2) < (4 : Int)) ∧ Q (m6.1 24 (Int32.toInt v2).toNat) m6)))) ∧ (v2.toInt = 2 → ((v2.toInt ≥ ((m6.1 21 4)).toInt → wp_109 5 m6 (fun x13 m14 => Q x13 m14)) ∧ (v2.toInt < ((m6.1 21 4)).toInt → ((0 ≤ (Int32.toInt v2) ∧ (Int32.toInt v2) < (4 : Int)) ∧ Q (m6.1 24 (Int32.toInt v2).toNat) m6)))) ∧ (v2.toInt = 3 → ((v2.toInt ≥ ((m6.1 21 4)).toInt → wp_109 5 m6 (fun x15 m16 => Q x15 m16)) ∧ (v2.toInt < ((m6.1 21 4)).toInt → ((0 ≤ (Int32.toInt v2) ∧ (Int32.toInt v2) < (4 : Int)) ∧ Q (m6.1 24 (Int32.toInt v2).toNat) m6)))) ∧ (v2.toInt = 4 → Q ((m6.1 21 5) - (m6.1 2 10)) m6) ∧ (v2.toInt = 5 → Q (m6.1 21 6) m6) ∧ (v2.toInt = 6 → Q ((m6.1 21 7) - (m6.1 2 11)) m6)))) ∧ (v1.toInt > 4 → wp_109 6 m (fun x17 m18 => Q x17 m18)))))) ∧ (v2.toInt > 6 → wp_109 5 m (fun x19 m20 => Q x19 m20)))))
theorem zr_87 {d : Nat} (hd : 14 ≤ d) {v1 : Int32} {v2 : Int32} {Q : Int32 → zf_Me → Prop} {m : zf_Me} (h : wp_87 v1 v2 m Q) : zf_M d 87 [.inr (.inr (1, 0)), .inl v1, .inl v2] m (zf_I Q) := by
  obtain ⟨e, rfl⟩ : ∃ z, d = z + 1 := ⟨d - 1, by omega⟩
  unfold wp_87 at h
  refine zf_M_of (Nat.le_of_ble_eq_true rfl) zm_87 (L := [some (.inr (.inr (1, 0))), some (.inl v1), some (.inl v2)]) rfl ?_
  refine zf_ld (pc' := 1) (v := .inl v2) dX7_ahead_0 rfl (fun _ _ _ => rfl) rfl rfl rfl ?_
  refine zf_ic (v := (-1)) (pc' := 2) dX7_ahead_1 rfl rfl ?_
  refine zf_icmp_lt (tgt := 11) (pc' := 5) dX7_ahead_2 rfl rfl (fun g => ?_) (fun g => ?_)
  · replace h := h.1 g
    refine zf_ld (pc' := 12) (v := .inr (.inr (1, 0))) dX7_ahead_11 rfl (fun _ _ _ => rfl) rfl rfl rfl ?_
    refine zf_ic (v := 5) (pc' := 13) dX7_ahead_12 rfl rfl ?_
    refine zf_iv (k := 109) (pc' := 16) (r := []) dX7_ahead_13 rfl rfl rfl rfl (by decide) rfl rfl rfl (zr_109 (by omega) h) (zf_kI (fun x1 m2 h => ?_))
    exact zf_ri dX7_ahead_16 rfl h
  · replace h := h.2 g
    refine zf_ld (pc' := 6) (v := .inl v2) dX7_ahead_5 rfl (fun _ _ _ => rfl) rfl rfl rfl ?_
    refine zf_bi (v := 6) (pc' := 8) dX7_ahead_6 rfl rfl ?_
    refine zf_icmp_le (tgt := 17) (pc' := 11) dX7_ahead_8 rfl rfl (fun g => ?_) (fun g => ?_)
    · replace h := h.1 g
      refine zf_ld (pc' := 18) (v := .inl v1) dX7_ahead_17 rfl (fun _ _ _ => rfl) rfl rfl rfl ?_
      refine zf_ic (v := 1) (pc' := 19) dX7_ahead_18 rfl rfl ?_
      refine zf_icmp_lt (tgt := 27) (pc' := 22) dX7_ahead_19 rfl rfl (fun g => ?_) (fun g => ?_)
      · replace h := h.1 g
        refine zf_ld (pc' := 28) (v := .inr (.inr (1, 0))) dX7_ahead_27 rfl (fun _ _ _ => rfl) rfl rfl rfl ?_
        refine zf_bi (v := 6) (pc' := 30) dX7_ahead_28 rfl rfl ?_
        refine zf_iv (k := 109) (pc' := 33) (r := []) dX7_ahead_30 rfl rfl rfl rfl (by decide) rfl rfl rfl (zr_109 (by omega) h) (zf_kI (fun x3 m4 h => ?_))
        exact zf_ri dX7_ahead_33 rfl h
      · replace h := h.2 g
        refine zf_ld (pc' := 23) (v := .inl v1) dX7_ahead_22 rfl (fun _ _ _ => rfl) rfl rfl rfl ?_
        refine zf_ic (v := 4) (pc' := 24) dX7_ahead_23 rfl rfl ?_
        refine zf_icmp_le (tgt := 34) (pc' := 27) dX7_ahead_24 rfl rfl (fun g => ?_) (fun g => ?_)
        · replace h := h.1 g
          refine zf_ld (pc' := 35) (v := .inr (.inr (1, 0))) dX7_ahead_34 rfl (fun _ _ _ => rfl) rfl rfl rfl ?_
          refine zf_gfr (pc' := 38) (b := 21) dX7_ahead_35 rfl rfl (by decide) rfl rfl ?_
          refine zf_ld (pc' := 39) (v := .inr (.inr (1, 0))) dX7_ahead_38 rfl (fun _ _ _ => rfl) rfl rfl rfl ?_
          refine zf_gfr (pc' := 42) (b := 2) dX7_ahead_39 rfl rfl (by decide) rfl rfl ?_
          refine zf_ld (pc' := 43) (v := .inl v1) dX7_ahead_42 rfl (fun _ _ _ => rfl) rfl rfl rfl ?_
          refine zf_iv (k := 14) (pc' := 46) (r := []) dX7_ahead_43 rfl rfl rfl rfl (by decide) rfl rfl rfl (zr_14 (by omega) zf_walk2 h) (zf_kO (fun m6 h => ?_))
          refine zf_ld (pc' := 47) (v := .inl v2) dX7_ahead_46 rfl (fun _ _ _ => rfl) rfl rfl rfl ?_
          refine zf_tsc (tgd := 140) dX7_ahead_47 rfl [92, 140, 140, 140, 140, 100, 116, 124] (by decide) (by decide) (fun g => ?_) (zl_cons (fun g => ?_) (zl_cons (fun g => ?_) (zl_cons (fun g => ?_) (zl_cons (fun g => ?_) (zl_cons (fun g => ?_) (zl_cons (fun g => ?_) (zl_cons (fun g => ?_) (zl_cons (fun g => ?_) (zl_nil)))))))))
          · replace h := h.1 (by omega)
            refine zf_ld (pc' := 141) (v := .inl v2) dX7_ahead_140 rfl (fun _ _ _ => rfl) rfl rfl rfl ?_
            refine zf_ld (pc' := 142) (v := .inr (.inr (1, 0))) dX7_ahead_141 rfl (fun _ _ _ => rfl) rfl rfl rfl ?_
            refine zf_gfr (pc' := 145) (b := 21) dX7_ahead_142 rfl rfl (by decide) rfl rfl ?_
            refine zf_gfi (pc' := 148) dX7_ahead_145 rfl rfl (by decide) rfl rfl ?_
            refine zf_icmp_ge (tgt := 163) (pc' := 151) dX7_ahead_148 rfl rfl (fun g => ?_) (fun g => ?_)
            · replace h := h.1 g
              refine zf_ld (pc' := 164) (v := .inr (.inr (1, 0))) dX7_ahead_163 rfl (fun _ _ _ => rfl) rfl rfl rfl ?_
              refine zf_ic (v := 5) (pc' := 165) dX7_ahead_164 rfl rfl ?_
              refine zf_iv (k := 109) (pc' := 168) (r := []) dX7_ahead_165 rfl rfl rfl rfl (by decide) rfl rfl rfl (zr_109 (by omega) h) (zf_kI (fun x7 m8 h => ?_))
              exact zf_ri dX7_ahead_168 rfl h
            · replace h := h.2 g
              refine zf_ld (pc' := 152) (v := .inr (.inr (1, 0))) dX7_ahead_151 rfl (fun _ _ _ => rfl) rfl rfl rfl ?_
              refine zf_gfr (pc' := 155) (b := 21) dX7_ahead_152 rfl rfl (by decide) rfl rfl ?_
              refine zf_gfr (pc' := 158) (b := 24) dX7_ahead_155 rfl rfl (by decide) rfl rfl ?_
              refine zf_ld (pc' := 159) (v := .inl v2) dX7_ahead_158 rfl (fun _ _ _ => rfl) rfl rfl rfl ?_
              refine zf_ial (pc' := 160) dX7_ahead_159 rfl (⟨by decide, rfl⟩ : zf_arr 24 4).1 (⟨by decide, rfl⟩ : zf_arr 24 4).2 h.1 rfl ?_
              replace h := h.2
              refine zf_goto (tgt := 168) dX7_ahead_160 rfl ?_
              exact zf_ri dX7_ahead_168 rfl h
          · replace h := h.2.1 (by omega)
            refine zf_ld (pc' := 93) (v := .inr (.inr (1, 0))) dX7_ahead_92 rfl (fun _ _ _ => rfl) rfl rfl rfl ?_
            refine zf_gfr (pc' := 96) (b := 21) dX7_ahead_93 rfl rfl (by decide) rfl rfl ?_
            refine zf_gfi (pc' := 99) dX7_ahead_96 rfl rfl (by decide) rfl rfl ?_
            exact zf_ri dX7_ahead_99 rfl h
          · replace h := h.2.2.1 (by omega)
            refine zf_ld (pc' := 141) (v := .inl v2) dX7_ahead_140 rfl (fun _ _ _ => rfl) rfl rfl rfl ?_
            refine zf_ld (pc' := 142) (v := .inr (.inr (1, 0))) dX7_ahead_141 rfl (fun _ _ _ => rfl) rfl rfl rfl ?_
            refine zf_gfr (pc' := 145) (b := 21) dX7_ahead_142 rfl rfl (by decide) rfl rfl ?_
            refine zf_gfi (pc' := 148) dX7_ahead_145 rfl rfl (by decide) rfl rfl ?_
            refine zf_icmp_ge (tgt := 163) (pc' := 151) dX7_ahead_148 rfl rfl (fun g => ?_) (fun g => ?_)
            · replace h := h.1 g
              refine zf_ld (pc' := 164) (v := .inr (.inr (1, 0))) dX7_ahead_163 rfl (fun _ _ _ => rfl) rfl rfl rfl ?_
              refine zf_ic (v := 5) (pc' := 165) dX7_ahead_164 rfl rfl ?_
              refine zf_iv (k := 109) (pc' := 168) (r := []) dX7_ahead_165 rfl rfl rfl rfl (by decide) rfl rfl rfl (zr_109 (by omega) h) (zf_kI (fun x9 m10 h => ?_))
              exact zf_ri dX7_ahead_168 rfl h
            · replace h := h.2 g
              refine zf_ld (pc' := 152) (v := .inr (.inr (1, 0))) dX7_ahead_151 rfl (fun _ _ _ => rfl) rfl rfl rfl ?_
              refine zf_gfr (pc' := 155) (b := 21) dX7_ahead_152 rfl rfl (by decide) rfl rfl ?_
              refine zf_gfr (pc' := 158) (b := 24) dX7_ahead_155 rfl rfl (by decide) rfl rfl ?_
              refine zf_ld (pc' := 159) (v := .inl v2) dX7_ahead_158 rfl (fun _ _ _ => rfl) rfl rfl rfl ?_
              refine zf_ial (pc' := 160) dX7_ahead_159 rfl (⟨by decide, rfl⟩ : zf_arr 24 4).1 (⟨by decide, rfl⟩ : zf_arr 24 4).2 h.1 rfl ?_
              replace h := h.2
              refine zf_goto (tgt := 168) dX7_ahead_160 rfl ?_
              exact zf_ri dX7_ahead_168 rfl h
          · replace h := h.2.2.2.1 (by omega)
            refine zf_ld (pc' := 141) (v := .inl v2) dX7_ahead_140 rfl (fun _ _ _ => rfl) rfl rfl rfl ?_
            refine zf_ld (pc' := 142) (v := .inr (.inr (1, 0))) dX7_ahead_141 rfl (fun _ _ _ => rfl) rfl rfl rfl ?_
            refine zf_gfr (pc' := 145) (b := 21) dX7_ahead_142 rfl rfl (by decide) rfl rfl ?_
            refine zf_gfi (pc' := 148) dX7_ahead_145 rfl rfl (by decide) rfl rfl ?_
            refine zf_icmp_ge (tgt := 163) (pc' := 151) dX7_ahead_148 rfl rfl (fun g => ?_) (fun g => ?_)
            · replace h := h.1 g
              refine zf_ld (pc' := 164) (v := .inr (.inr (1, 0))) dX7_ahead_163 rfl (fun _ _ _ => rfl) rfl rfl rfl ?_
              refine zf_ic (v := 5) (pc' := 165) dX7_ahead_164 rfl rfl ?_
              refine zf_iv (k := 109) (pc' := 168) (r := []) dX7_ahead_165 rfl rfl rfl rfl (by decide) rfl rfl rfl (zr_109 (by omega) h) (zf_kI (fun x11 m12 h => ?_))
              exact zf_ri dX7_ahead_168 rfl h
            · replace h := h.2 g
              refine zf_ld (pc' := 152) (v := .inr (.inr (1, 0))) dX7_ahead_151 rfl (fun _ _ _ => rfl) rfl rfl rfl ?_
              refine zf_gfr (pc' := 155) (b := 21) dX7_ahead_152 rfl rfl (by decide) rfl rfl ?_
              refine zf_gfr (pc' := 158) (b := 24) dX7_ahead_155 rfl rfl (by decide) rfl rfl ?_
              refine zf_ld (pc' := 159) (v := .inl v2) dX7_ahead_158 rfl (fun _ _ _ => rfl) rfl rfl rfl ?_
              refine zf_ial (pc' := 160) dX7_ahead_159 rfl (⟨by decide, rfl⟩ : zf_arr 24 4).1 (⟨by decide, rfl⟩ : zf_arr 24 4).2 h.1 rfl ?_
              replace h := h.2
              refine zf_goto (tgt := 168) dX7_ahead_160 rfl ?_
              exact zf_ri dX7_ahead_168 rfl h
          · replace h := h.2.2.2.2.1 (by omega)
            refine zf_ld (pc' := 141) (v := .inl v2) dX7_ahead_140 rfl (fun _ _ _ => rfl) rfl rfl rfl ?_
            refine zf_ld (pc' := 142) (v := .inr (.inr (1, 0))) dX7_ahead_141 rfl (fun _ _ _ => rfl) rfl rfl rfl ?_
            refine zf_gfr (pc' := 145) (b := 21) dX7_ahead_142 rfl rfl (by decide) rfl rfl ?_
            refine zf_gfi (pc' := 148) dX7_ahead_145 rfl rfl (by decide) rfl rfl ?_
            refine zf_icmp_ge (tgt := 163) (pc' := 151) dX7_ahead_148 rfl rfl (fun g => ?_) (fun g => ?_)
            · replace h := h.1 g
              refine zf_ld (pc' := 164) (v := .inr (.inr (1, 0))) dX7_ahead_163 rfl (fun _ _ _ => rfl) rfl rfl rfl ?_
              refine zf_ic (v := 5) (pc' := 165) dX7_ahead_164 rfl rfl ?_
              refine zf_iv (k := 109) (pc' := 168) (r := []) dX7_ahead_165 rfl rfl rfl rfl (by decide) rfl rfl rfl (zr_109 (by omega) h) (zf_kI (fun x13 m14 h => ?_))
              exact zf_ri dX7_ahead_168 rfl h
            · replace h := h.2 g
              refine zf_ld (pc' := 152) (v := .inr (.inr (1, 0))) dX7_ahead_151 rfl (fun _ _ _ => rfl) rfl rfl rfl ?_
              refine zf_gfr (pc' := 155) (b := 21) dX7_ahead_152 rfl rfl (by decide) rfl rfl ?_
              refine zf_gfr (pc' := 158) (b := 24) dX7_ahead_155 rfl rfl (by decide) rfl rfl ?_
              refine zf_ld (pc' := 159) (v := .inl v2) dX7_ahead_158 rfl (fun _ _ _ => rfl) rfl rfl rfl ?_
              refine zf_ial (pc' := 160) dX7_ahead_159 rfl (⟨by decide, rfl⟩ : zf_arr 24 4).1 (⟨by decide, rfl⟩ : zf_arr 24 4).2 h.1 rfl ?_
              replace h := h.2
              refine zf_goto (tgt := 168) dX7_ahead_160 rfl ?_
              exact zf_ri dX7_ahead_168 rfl h
          · replace h := h.2.2.2.2.2.1 (by omega)
            refine zf_ld (pc' := 141) (v := .inl v2) dX7_ahead_140 rfl (fun _ _ _ => rfl) rfl rfl rfl ?_
            refine zf_ld (pc' := 142) (v := .inr (.inr (1, 0))) dX7_ahead_141 rfl (fun _ _ _ => rfl) rfl rfl rfl ?_
            refine zf_gfr (pc' := 145) (b := 21) dX7_ahead_142 rfl rfl (by decide) rfl rfl ?_
            refine zf_gfi (pc' := 148) dX7_ahead_145 rfl rfl (by decide) rfl rfl ?_
            refine zf_icmp_ge (tgt := 163) (pc' := 151) dX7_ahead_148 rfl rfl (fun g => ?_) (fun g => ?_)
            · replace h := h.1 g
              refine zf_ld (pc' := 164) (v := .inr (.inr (1, 0))) dX7_ahead_163 rfl (fun _ _ _ => rfl) rfl rfl rfl ?_
              refine zf_ic (v := 5) (pc' := 165) dX7_ahead_164 rfl rfl ?_
              refine zf_iv (k := 109) (pc' := 168) (r := []) dX7_ahead_165 rfl rfl rfl rfl (by decide) rfl rfl rfl (zr_109 (by omega) h) (zf_kI (fun x15 m16 h => ?_))
              exact zf_ri dX7_ahead_168 rfl h
            · replace h := h.2 g
              refine zf_ld (pc' := 152) (v := .inr (.inr (1, 0))) dX7_ahead_151 rfl (fun _ _ _ => rfl) rfl rfl rfl ?_
              refine zf_gfr (pc' := 155) (b := 21) dX7_ahead_152 rfl rfl (by decide) rfl rfl ?_
              refine zf_gfr (pc' := 158) (b := 24) dX7_ahead_155 rfl rfl (by decide) rfl rfl ?_
              refine zf_ld (pc' := 159) (v := .inl v2) dX7_ahead_158 rfl (fun _ _ _ => rfl) rfl rfl rfl ?_
              refine zf_ial (pc' := 160) dX7_ahead_159 rfl (⟨by decide, rfl⟩ : zf_arr 24 4).1 (⟨by decide, rfl⟩ : zf_arr 24 4).2 h.1 rfl ?_
              replace h := h.2
              refine zf_goto (tgt := 168) dX7_ahead_160 rfl ?_
              exact zf_ri dX7_ahead_168 rfl h
          · replace h := h.2.2.2.2.2.2.1 (by omega)
            refine zf_ld (pc' := 101) (v := .inr (.inr (1, 0))) dX7_ahead_100 rfl (fun _ _ _ => rfl) rfl rfl rfl ?_
            refine zf_gfr (pc' := 104) (b := 21) dX7_ahead_101 rfl rfl (by decide) rfl rfl ?_
            refine zf_gfi (pc' := 107) dX7_ahead_104 rfl rfl (by decide) rfl rfl ?_
            refine zf_ld (pc' := 108) (v := .inr (.inr (1, 0))) dX7_ahead_107 rfl (fun _ _ _ => rfl) rfl rfl rfl ?_
            refine zf_gfr (pc' := 111) (b := 2) dX7_ahead_108 rfl rfl (by decide) rfl rfl ?_
            refine zf_gfi (pc' := 114) dX7_ahead_111 rfl rfl zf_walk2.1 zf_walk2.2.1 rfl ?_
            refine zf_in (pc' := 115) (S' := [.inl ((m6.1 21 5) - (m6.1 2 10))]) dX7_ahead_114 rfl (fun _ _ _ => rfl) ?_
            exact zf_ri dX7_ahead_115 rfl h
          · replace h := h.2.2.2.2.2.2.2.1 (by omega)
            refine zf_ld (pc' := 117) (v := .inr (.inr (1, 0))) dX7_ahead_116 rfl (fun _ _ _ => rfl) rfl rfl rfl ?_
            refine zf_gfr (pc' := 120) (b := 21) dX7_ahead_117 rfl rfl (by decide) rfl rfl ?_
            refine zf_gfi (pc' := 123) dX7_ahead_120 rfl rfl (by decide) rfl rfl ?_
            exact zf_ri dX7_ahead_123 rfl h
          · replace h := h.2.2.2.2.2.2.2.2 (by omega)
            refine zf_ld (pc' := 125) (v := .inr (.inr (1, 0))) dX7_ahead_124 rfl (fun _ _ _ => rfl) rfl rfl rfl ?_
            refine zf_gfr (pc' := 128) (b := 21) dX7_ahead_125 rfl rfl (by decide) rfl rfl ?_
            refine zf_gfi (pc' := 131) dX7_ahead_128 rfl rfl (by decide) rfl rfl ?_
            refine zf_ld (pc' := 132) (v := .inr (.inr (1, 0))) dX7_ahead_131 rfl (fun _ _ _ => rfl) rfl rfl rfl ?_
            refine zf_gfr (pc' := 135) (b := 2) dX7_ahead_132 rfl rfl (by decide) rfl rfl ?_
            refine zf_gfi (pc' := 138) dX7_ahead_135 rfl rfl zf_walk2.1 zf_walk2.2.1 rfl ?_
            refine zf_in (pc' := 139) (S' := [.inl ((m6.1 21 7) - (m6.1 2 11))]) dX7_ahead_138 rfl (fun _ _ _ => rfl) ?_
            exact zf_ri dX7_ahead_139 rfl h
        · replace h := h.2 g
          refine zf_ld (pc' := 28) (v := .inr (.inr (1, 0))) dX7_ahead_27 rfl (fun _ _ _ => rfl) rfl rfl rfl ?_
          refine zf_bi (v := 6) (pc' := 30) dX7_ahead_28 rfl rfl ?_
          refine zf_iv (k := 109) (pc' := 33) (r := []) dX7_ahead_30 rfl rfl rfl rfl (by decide) rfl rfl rfl (zr_109 (by omega) h) (zf_kI (fun x17 m18 h => ?_))
          exact zf_ri dX7_ahead_33 rfl h
    · replace h := h.2 g
      refine zf_ld (pc' := 12) (v := .inr (.inr (1, 0))) dX7_ahead_11 rfl (fun _ _ _ => rfl) rfl rfl rfl ?_
      refine zf_ic (v := 5) (pc' := 13) dX7_ahead_12 rfl rfl ?_
      refine zf_iv (k := 109) (pc' := 16) (r := []) dX7_ahead_13 rfl rfl rfl rfl (by decide) rfl rfl rfl (zr_109 (by omega) h) (zf_kI (fun x19 m20 h => ?_))
      exact zf_ri dX7_ahead_16 rfl h
def zt_116 : zx_MT := (7, yX7_isRule, cX7_isRule, 1, (some FieldType.boolean), 1, 1)
theorem zm_116 : zx_m 116 = zt_116 := rfl
theorem dX7_isRule_r0 : zdcP cX7_isRule 0 [(.iload_n 0, 1), (.ifCond .lt 12, 3), (.iload_n 0, 1), (.iconst 4, 1), (.if_icmp .ge 7, 3), (.iconst 1, 1), (.goto 4, 3), (.iconst 0, 1), (.ireturn, 1)] := zdcA_ok (by decide +kernel)
theorem dX7_isRule_0 : decode cX7_isRule 0 = .ok (.iload_n 0, 1) := dX7_isRule_r0.1
theorem dX7_isRule_1 : decode cX7_isRule 1 = .ok (.ifCond .lt 12, 3) := dX7_isRule_r0.2.1
theorem dX7_isRule_4 : decode cX7_isRule 4 = .ok (.iload_n 0, 1) := dX7_isRule_r0.2.2.1
theorem dX7_isRule_5 : decode cX7_isRule 5 = .ok (.iconst 4, 1) := dX7_isRule_r0.2.2.2.1
theorem dX7_isRule_6 : decode cX7_isRule 6 = .ok (.if_icmp .ge 7, 3) := dX7_isRule_r0.2.2.2.2.1
theorem dX7_isRule_9 : decode cX7_isRule 9 = .ok (.iconst 1, 1) := dX7_isRule_r0.2.2.2.2.2.1
theorem dX7_isRule_10 : decode cX7_isRule 10 = .ok (.goto 4, 3) := dX7_isRule_r0.2.2.2.2.2.2.1
theorem dX7_isRule_13 : decode cX7_isRule 13 = .ok (.iconst 0, 1) := dX7_isRule_r0.2.2.2.2.2.2.2.1
theorem dX7_isRule_14 : decode cX7_isRule 14 = .ok (.ireturn, 1) := dX7_isRule_r0.2.2.2.2.2.2.2.2.1
def wp_116 (v0 : Int32) (m : zf_Me) (Q : Bool → zf_Me → Prop) : Prop := ((v0.toInt < 0 → Q false m) ∧ (v0.toInt ≥ 0 → ((v0.toInt ≥ 4 → Q false m) ∧ (v0.toInt < 4 → Q true m))))
theorem zr_116 {d : Nat} (hd : 0 ≤ d) {v0 : Int32} {Q : Bool → zf_Me → Prop} {m : zf_Me} (h : wp_116 v0 m Q) : zf_M d 116 [.inl v0] m (zf_B Q) := by
  unfold wp_116 at h
  refine zf_M_of (Nat.le_of_ble_eq_true rfl) zm_116 (L := [some (.inl v0)]) rfl ?_
  refine zf_ld (pc' := 1) (v := .inl v0) dX7_isRule_0 rfl (fun _ _ _ => rfl) rfl rfl rfl ?_
  refine zf_if_lt (tgt := 13) (pc' := 4) dX7_isRule_1 rfl rfl (fun g => ?_) (fun g => ?_)
  · replace h := h.1 g
    refine zf_ic (v := 0) (pc' := 14) dX7_isRule_13 rfl rfl ?_
    exact zf_rb (b := false) dX7_isRule_14 rfl h
  · replace h := h.2 g
    refine zf_ld (pc' := 5) (v := .inl v0) dX7_isRule_4 rfl (fun _ _ _ => rfl) rfl rfl rfl ?_
    refine zf_ic (v := 4) (pc' := 6) dX7_isRule_5 rfl rfl ?_
    refine zf_icmp_ge (tgt := 13) (pc' := 9) dX7_isRule_6 rfl rfl (fun g => ?_) (fun g => ?_)
    · replace h := h.1 g
      refine zf_ic (v := 0) (pc' := 14) dX7_isRule_13 rfl rfl ?_
      exact zf_rb (b := false) dX7_isRule_14 rfl h
    · replace h := h.2 g
      refine zf_ic (v := 1) (pc' := 10) dX7_isRule_9 rfl rfl ?_
      refine zf_goto (tgt := 14) dX7_isRule_10 rfl ?_
      exact zf_rb (b := true) dX7_isRule_14 rfl h
def zt_88 : zx_MT := (7, yX7_by, cX7_by, 4, (some FieldType.int), 2, 0)
theorem zm_88 : zx_m 88 = zt_88 := rfl
theorem dX7_by_r0 : zdcP cX7_by 0 [(.iload_n 2, 1), (.bipush 10, 2), (.if_icmp .lt 24, 3), (.aload_n 0, 1), (.getfield 23, 3), (.getfield 30, 3), (.iload_n 2, 1), (.bipush 10, 2), (.isub, 1), (.invokevirtual 118, 3), (.ifCond .eq 7, 3), (.iconst 1, 1), (.goto 4, 3), (.iconst 0, 1), (.istore_n 3, 1), (.iload_n 3, 1)] := zdcA_ok (by decide +kernel)
theorem dX7_by_0 : decode cX7_by 0 = .ok (.iload_n 2, 1) := dX7_by_r0.1
theorem dX7_by_1 : decode cX7_by 1 = .ok (.bipush 10, 2) := dX7_by_r0.2.1
theorem dX7_by_3 : decode cX7_by 3 = .ok (.if_icmp .lt 24, 3) := dX7_by_r0.2.2.1
theorem dX7_by_6 : decode cX7_by 6 = .ok (.aload_n 0, 1) := dX7_by_r0.2.2.2.1
theorem dX7_by_7 : decode cX7_by 7 = .ok (.getfield 23, 3) := dX7_by_r0.2.2.2.2.1
theorem dX7_by_10 : decode cX7_by 10 = .ok (.getfield 30, 3) := dX7_by_r0.2.2.2.2.2.1
theorem dX7_by_13 : decode cX7_by 13 = .ok (.iload_n 2, 1) := dX7_by_r0.2.2.2.2.2.2.1
theorem dX7_by_14 : decode cX7_by 14 = .ok (.bipush 10, 2) := dX7_by_r0.2.2.2.2.2.2.2.1
theorem dX7_by_16 : decode cX7_by 16 = .ok (.isub, 1) := dX7_by_r0.2.2.2.2.2.2.2.2.1
theorem dX7_by_17 : decode cX7_by 17 = .ok (.invokevirtual 118, 3) := dX7_by_r0.2.2.2.2.2.2.2.2.2.1
theorem dX7_by_20 : decode cX7_by 20 = .ok (.ifCond .eq 7, 3) := dX7_by_r0.2.2.2.2.2.2.2.2.2.2.1
theorem dX7_by_23 : decode cX7_by 23 = .ok (.iconst 1, 1) := dX7_by_r0.2.2.2.2.2.2.2.2.2.2.2.1
theorem dX7_by_24 : decode cX7_by 24 = .ok (.goto 4, 3) := dX7_by_r0.2.2.2.2.2.2.2.2.2.2.2.2.1
theorem dX7_by_27 : decode cX7_by 27 = .ok (.iconst 0, 1) := dX7_by_r0.2.2.2.2.2.2.2.2.2.2.2.2.2.1
theorem dX7_by_28 : decode cX7_by 28 = .ok (.istore_n 3, 1) := dX7_by_r0.2.2.2.2.2.2.2.2.2.2.2.2.2.2.1
theorem dX7_by_29 : decode cX7_by 29 = .ok (.iload_n 3, 1) := dX7_by_r0.2.2.2.2.2.2.2.2.2.2.2.2.2.2.2.1
theorem dX7_by_r30 : zdcP cX7_by 30 [(.ifCond .ne 18, 3), (.iload_n 2, 1), (.ifCond .lt 8, 3), (.iload_n 2, 1), (.iconst 3, 1), (.if_icmp .le 9, 3), (.aload_n 0, 1), (.iconst 5, 1), (.invokevirtual 82, 3), (.ireturn, 1), (.iload_n 1, 1), (.invokestatic 236, 3), (.ifCond .ne 10, 3), (.aload_n 0, 1), (.bipush 6, 2), (.invokevirtual 82, 3)] := zdcA_ok (by decide +kernel)
theorem dX7_by_30 : decode cX7_by 30 = .ok (.ifCond .ne 18, 3) := dX7_by_r30.1
theorem dX7_by_33 : decode cX7_by 33 = .ok (.iload_n 2, 1) := dX7_by_r30.2.1
theorem dX7_by_34 : decode cX7_by 34 = .ok (.ifCond .lt 8, 3) := dX7_by_r30.2.2.1
theorem dX7_by_37 : decode cX7_by 37 = .ok (.iload_n 2, 1) := dX7_by_r30.2.2.2.1
theorem dX7_by_38 : decode cX7_by 38 = .ok (.iconst 3, 1) := dX7_by_r30.2.2.2.2.1
theorem dX7_by_39 : decode cX7_by 39 = .ok (.if_icmp .le 9, 3) := dX7_by_r30.2.2.2.2.2.1
theorem dX7_by_42 : decode cX7_by 42 = .ok (.aload_n 0, 1) := dX7_by_r30.2.2.2.2.2.2.1
theorem dX7_by_43 : decode cX7_by 43 = .ok (.iconst 5, 1) := dX7_by_r30.2.2.2.2.2.2.2.1
theorem dX7_by_44 : decode cX7_by 44 = .ok (.invokevirtual 82, 3) := dX7_by_r30.2.2.2.2.2.2.2.2.1
theorem dX7_by_47 : decode cX7_by 47 = .ok (.ireturn, 1) := dX7_by_r30.2.2.2.2.2.2.2.2.2.1
theorem dX7_by_48 : decode cX7_by 48 = .ok (.iload_n 1, 1) := dX7_by_r30.2.2.2.2.2.2.2.2.2.2.1
theorem dX7_by_49 : decode cX7_by 49 = .ok (.invokestatic 236, 3) := dX7_by_r30.2.2.2.2.2.2.2.2.2.2.2.1
theorem dX7_by_52 : decode cX7_by 52 = .ok (.ifCond .ne 10, 3) := dX7_by_r30.2.2.2.2.2.2.2.2.2.2.2.2.1
theorem dX7_by_55 : decode cX7_by 55 = .ok (.aload_n 0, 1) := dX7_by_r30.2.2.2.2.2.2.2.2.2.2.2.2.2.1
theorem dX7_by_56 : decode cX7_by 56 = .ok (.bipush 6, 2) := dX7_by_r30.2.2.2.2.2.2.2.2.2.2.2.2.2.2.1
theorem dX7_by_58 : decode cX7_by 58 = .ok (.invokevirtual 82, 3) := dX7_by_r30.2.2.2.2.2.2.2.2.2.2.2.2.2.2.2.1
theorem dX7_by_r61 : zdcP cX7_by 61 [(.ireturn, 1), (.aload_n 0, 1), (.getfield 40, 3), (.aload_n 0, 1), (.getfield 23, 3), (.invokevirtual 239, 3), (.aload_n 0, 1), (.getfield 40, 3), (.iload_n 1, 1), (.invokevirtual 242, 3), (.iload_n 2, 1)] := zdcA_ok (by decide +kernel)
theorem dX7_by_61 : decode cX7_by 61 = .ok (.ireturn, 1) := dX7_by_r61.1
theorem dX7_by_62 : decode cX7_by 62 = .ok (.aload_n 0, 1) := dX7_by_r61.2.1
theorem dX7_by_63 : decode cX7_by 63 = .ok (.getfield 40, 3) := dX7_by_r61.2.2.1
theorem dX7_by_66 : decode cX7_by 66 = .ok (.aload_n 0, 1) := dX7_by_r61.2.2.2.1
theorem dX7_by_67 : decode cX7_by 67 = .ok (.getfield 23, 3) := dX7_by_r61.2.2.2.2.1
theorem dX7_by_70 : decode cX7_by 70 = .ok (.invokevirtual 239, 3) := dX7_by_r61.2.2.2.2.2.1
theorem dX7_by_73 : decode cX7_by 73 = .ok (.aload_n 0, 1) := dX7_by_r61.2.2.2.2.2.2.1
theorem dX7_by_74 : decode cX7_by 74 = .ok (.getfield 40, 3) := dX7_by_r61.2.2.2.2.2.2.2.1
theorem dX7_by_77 : decode cX7_by 77 = .ok (.iload_n 1, 1) := dX7_by_r61.2.2.2.2.2.2.2.2.1
theorem dX7_by_78 : decode cX7_by 78 = .ok (.invokevirtual 242, 3) := dX7_by_r61.2.2.2.2.2.2.2.2.2.1
theorem dX7_by_81 : decode cX7_by 81 = .ok (.iload_n 2, 1) := dX7_by_r61.2.2.2.2.2.2.2.2.2.2.1
theorem dX7_by_82 : decode cX7_by 82 = .ok (.tableswitch 68 0 3 #[30, 41, 52, 60], 30) := by decide +kernel
theorem dX7_by_r112 : zdcP cX7_by 112 [(.aload_n 0, 1), (.getfield 40, 3), (.getfield 246, 3), (.getfield 221, 3), (.ireturn, 1), (.aload_n 0, 1), (.getfield 40, 3), (.getfield 246, 3), (.getfield 230, 3), (.ireturn, 1), (.aload_n 0, 1), (.getfield 40, 3), (.getfield 247, 3), (.ireturn, 1), (.aload_n 0, 1), (.getfield 40, 3)] := zdcA_ok (by decide +kernel)
theorem dX7_by_112 : decode cX7_by 112 = .ok (.aload_n 0, 1) := dX7_by_r112.1
theorem dX7_by_113 : decode cX7_by 113 = .ok (.getfield 40, 3) := dX7_by_r112.2.1
theorem dX7_by_116 : decode cX7_by 116 = .ok (.getfield 246, 3) := dX7_by_r112.2.2.1
theorem dX7_by_119 : decode cX7_by 119 = .ok (.getfield 221, 3) := dX7_by_r112.2.2.2.1
theorem dX7_by_122 : decode cX7_by 122 = .ok (.ireturn, 1) := dX7_by_r112.2.2.2.2.1
theorem dX7_by_123 : decode cX7_by 123 = .ok (.aload_n 0, 1) := dX7_by_r112.2.2.2.2.2.1
theorem dX7_by_124 : decode cX7_by 124 = .ok (.getfield 40, 3) := dX7_by_r112.2.2.2.2.2.2.1
theorem dX7_by_127 : decode cX7_by 127 = .ok (.getfield 246, 3) := dX7_by_r112.2.2.2.2.2.2.2.1
theorem dX7_by_130 : decode cX7_by 130 = .ok (.getfield 230, 3) := dX7_by_r112.2.2.2.2.2.2.2.2.1
theorem dX7_by_133 : decode cX7_by 133 = .ok (.ireturn, 1) := dX7_by_r112.2.2.2.2.2.2.2.2.2.1
theorem dX7_by_134 : decode cX7_by 134 = .ok (.aload_n 0, 1) := dX7_by_r112.2.2.2.2.2.2.2.2.2.2.1
theorem dX7_by_135 : decode cX7_by 135 = .ok (.getfield 40, 3) := dX7_by_r112.2.2.2.2.2.2.2.2.2.2.2.1
theorem dX7_by_138 : decode cX7_by 138 = .ok (.getfield 247, 3) := dX7_by_r112.2.2.2.2.2.2.2.2.2.2.2.2.1
theorem dX7_by_141 : decode cX7_by 141 = .ok (.ireturn, 1) := dX7_by_r112.2.2.2.2.2.2.2.2.2.2.2.2.2.1
theorem dX7_by_142 : decode cX7_by 142 = .ok (.aload_n 0, 1) := dX7_by_r112.2.2.2.2.2.2.2.2.2.2.2.2.2.2.1
theorem dX7_by_143 : decode cX7_by 143 = .ok (.getfield 40, 3) := dX7_by_r112.2.2.2.2.2.2.2.2.2.2.2.2.2.2.2.1
theorem dX7_by_r146 : zdcP cX7_by 146 [(.getfield 250, 3), (.ireturn, 1), (.aload_n 0, 1), (.getfield 40, 3), (.getfield 246, 3), (.getfield 143, 3), (.iload_n 2, 1), (.bipush 10, 2), (.isub, 1), (.iaload, 1), (.ireturn, 1)] := zdcA_ok (by decide +kernel)
theorem dX7_by_146 : decode cX7_by 146 = .ok (.getfield 250, 3) := dX7_by_r146.1
theorem dX7_by_149 : decode cX7_by 149 = .ok (.ireturn, 1) := dX7_by_r146.2.1
theorem dX7_by_150 : decode cX7_by 150 = .ok (.aload_n 0, 1) := dX7_by_r146.2.2.1
theorem dX7_by_151 : decode cX7_by 151 = .ok (.getfield 40, 3) := dX7_by_r146.2.2.2.1
theorem dX7_by_154 : decode cX7_by 154 = .ok (.getfield 246, 3) := dX7_by_r146.2.2.2.2.1
theorem dX7_by_157 : decode cX7_by 157 = .ok (.getfield 143, 3) := dX7_by_r146.2.2.2.2.2.1
theorem dX7_by_160 : decode cX7_by 160 = .ok (.iload_n 2, 1) := dX7_by_r146.2.2.2.2.2.2.1
theorem dX7_by_161 : decode cX7_by 161 = .ok (.bipush 10, 2) := dX7_by_r146.2.2.2.2.2.2.2.1
theorem dX7_by_163 : decode cX7_by 163 = .ok (.isub, 1) := dX7_by_r146.2.2.2.2.2.2.2.2.1
theorem dX7_by_164 : decode cX7_by 164 = .ok (.iaload, 1) := dX7_by_r146.2.2.2.2.2.2.2.2.2.1
theorem dX7_by_165 : decode cX7_by 165 = .ok (.ireturn, 1) := dX7_by_r146.2.2.2.2.2.2.2.2.2.2.1
def wq_88_48 (v1 : Int32) (v2 : Int32) (m : zf_Me) (Q : Int32 → zf_Me → Prop) : Prop := wp_116 v1 m (fun b1 m2 => ((b1 = true → wp_7 2 3 8 m2 (fun m4 => wp_8 v1 m4 (fun m6 => (((v2.toInt < 0 ∨ v2.toInt > 3) → ((0 ≤ (Int32.toInt (v2 - 10)) ∧ (Int32.toInt (v2 - 10)) < (6 : Int)) ∧ Q (m6.1 20 (Int32.toInt (v2 - 10)).toNat) m6)) ∧ (v2.toInt = 0 → Q (m6.1 19 10) m6) ∧ (v2.toInt = 1 → Q (m6.1 19 11) m6) ∧ (v2.toInt = 2 → Q (m6.1 18 3) m6) ∧ (v2.toInt = 3 → Q (m6.1 18 2) m6))))) ∧ (b1 = false → wp_109 6 m2 (fun x7 m8 => Q x7 m8))))
theorem zq_88_48 {d : Nat} (hd : 6 ≤ d) {v1 : Int32} {v2 : Int32} {Q : Int32 → zf_Me → Prop} {m : zf_Me} (h : wq_88_48 v1 v2 m Q) : zf_W none 0 0 d zt_88 48 [some (.inr (.inr (1, 0))), some (.inl v1), some (.inl v2), none] [] m (zf_I Q) := by
  obtain ⟨e, rfl⟩ : ∃ z, d = z + 1 := ⟨d - 1, by omega⟩
  unfold wq_88_48 at h
  refine zf_ld (pc' := 49) (v := .inl v1) dX7_by_48 rfl (fun _ _ _ => rfl) rfl rfl rfl ?_
  refine zf_is (k := 116) (pc' := 52) (r := []) dX7_by_49 rfl rfl rfl rfl rfl (zr_116 (by omega) h) (zf_kB (fun b1 m2 h => ?_))
  refine zf_ib_ne (tgt := 62) (pc' := 55) dX7_by_52 rfl rfl (fun g => ?_) (fun g => ?_)
  · replace h := h.1 g
    refine zf_ld (pc' := 63) (v := .inr (.inr (1, 0))) dX7_by_62 rfl (fun _ _ _ => rfl) rfl rfl rfl ?_
    refine zf_gfr (pc' := 66) (b := 18) dX7_by_63 rfl rfl (by decide) rfl rfl ?_
    refine zf_ld (pc' := 67) (v := .inr (.inr (1, 0))) dX7_by_66 rfl (fun _ _ _ => rfl) rfl rfl rfl ?_
    refine zf_gfr (pc' := 70) (b := 2) dX7_by_67 rfl rfl (by decide) rfl rfl ?_
    refine zf_iv (k := 7) (pc' := 73) (r := []) dX7_by_70 rfl rfl rfl rfl (by decide) rfl rfl rfl (zr_7 (by omega) zf_walk2 h) (zf_kO (fun m4 h => ?_))
    refine zf_ld (pc' := 74) (v := .inr (.inr (1, 0))) dX7_by_73 rfl (fun _ _ _ => rfl) rfl rfl rfl ?_
    refine zf_gfr (pc' := 77) (b := 18) dX7_by_74 rfl rfl (by decide) rfl rfl ?_
    refine zf_ld (pc' := 78) (v := .inl v1) dX7_by_77 rfl (fun _ _ _ => rfl) rfl rfl rfl ?_
    refine zf_iv (k := 8) (pc' := 81) (r := []) dX7_by_78 rfl rfl rfl rfl (by decide) rfl rfl rfl (zr_8 (by omega) h) (zf_kO (fun m6 h => ?_))
    refine zf_ld (pc' := 82) (v := .inl v2) dX7_by_81 rfl (fun _ _ _ => rfl) rfl rfl rfl ?_
    refine zf_tsc (tgd := 150) dX7_by_82 rfl [112, 123, 134, 142] (by decide) (by decide) (fun g => ?_) (zl_cons (fun g => ?_) (zl_cons (fun g => ?_) (zl_cons (fun g => ?_) (zl_cons (fun g => ?_) (zl_nil)))))
    · replace h := h.1 (by omega)
      refine zf_ld (pc' := 151) (v := .inr (.inr (1, 0))) dX7_by_150 rfl (fun _ _ _ => rfl) rfl rfl rfl ?_
      refine zf_gfr (pc' := 154) (b := 18) dX7_by_151 rfl rfl (by decide) rfl rfl ?_
      refine zf_gfr (pc' := 157) (b := 19) dX7_by_154 rfl rfl (by decide) rfl rfl ?_
      refine zf_gfr (pc' := 160) (b := 20) dX7_by_157 rfl rfl zf_walk19.1 zf_walk19.2.1 rfl ?_
      refine zf_ld (pc' := 161) (v := .inl v2) dX7_by_160 rfl (fun _ _ _ => rfl) rfl rfl rfl ?_
      refine zf_bi (v := 10) (pc' := 163) dX7_by_161 rfl rfl ?_
      refine zf_in (pc' := 164) (S' := [.inl (v2 - 10), .inr (.inr (1, 20))]) dX7_by_163 rfl (fun _ _ _ => rfl) ?_
      refine zf_ial (pc' := 165) dX7_by_164 rfl zf_walk19.2.2.2.1 zf_walk19.2.2.2.2 h.1 rfl ?_
      replace h := h.2
      exact zf_ri dX7_by_165 rfl h
    · replace h := h.2.1 (by omega)
      refine zf_ld (pc' := 113) (v := .inr (.inr (1, 0))) dX7_by_112 rfl (fun _ _ _ => rfl) rfl rfl rfl ?_
      refine zf_gfr (pc' := 116) (b := 18) dX7_by_113 rfl rfl (by decide) rfl rfl ?_
      refine zf_gfr (pc' := 119) (b := 19) dX7_by_116 rfl rfl (by decide) rfl rfl ?_
      refine zf_gfi (pc' := 122) dX7_by_119 rfl rfl zf_walk19.1 zf_walk19.2.1 rfl ?_
      exact zf_ri dX7_by_122 rfl h
    · replace h := h.2.2.1 (by omega)
      refine zf_ld (pc' := 124) (v := .inr (.inr (1, 0))) dX7_by_123 rfl (fun _ _ _ => rfl) rfl rfl rfl ?_
      refine zf_gfr (pc' := 127) (b := 18) dX7_by_124 rfl rfl (by decide) rfl rfl ?_
      refine zf_gfr (pc' := 130) (b := 19) dX7_by_127 rfl rfl (by decide) rfl rfl ?_
      refine zf_gfi (pc' := 133) dX7_by_130 rfl rfl zf_walk19.1 zf_walk19.2.1 rfl ?_
      exact zf_ri dX7_by_133 rfl h
    · replace h := h.2.2.2.1 (by omega)
      refine zf_ld (pc' := 135) (v := .inr (.inr (1, 0))) dX7_by_134 rfl (fun _ _ _ => rfl) rfl rfl rfl ?_
      refine zf_gfr (pc' := 138) (b := 18) dX7_by_135 rfl rfl (by decide) rfl rfl ?_
      refine zf_gfi (pc' := 141) dX7_by_138 rfl rfl (by decide) rfl rfl ?_
      exact zf_ri dX7_by_141 rfl h
    · replace h := h.2.2.2.2 (by omega)
      refine zf_ld (pc' := 143) (v := .inr (.inr (1, 0))) dX7_by_142 rfl (fun _ _ _ => rfl) rfl rfl rfl ?_
      refine zf_gfr (pc' := 146) (b := 18) dX7_by_143 rfl rfl (by decide) rfl rfl ?_
      refine zf_gfi (pc' := 149) dX7_by_146 rfl rfl (by decide) rfl rfl ?_
      exact zf_ri dX7_by_149 rfl h
  · replace h := h.2 g
    refine zf_ld (pc' := 56) (v := .inr (.inr (1, 0))) dX7_by_55 rfl (fun _ _ _ => rfl) rfl rfl rfl ?_
    refine zf_bi (v := 6) (pc' := 58) dX7_by_56 rfl rfl ?_
    refine zf_iv (k := 109) (pc' := 61) (r := []) dX7_by_58 rfl rfl rfl rfl (by decide) rfl rfl rfl (zr_109 (by omega) h) (zf_kI (fun x7 m8 h => ?_))
    exact zf_ri dX7_by_61 rfl h
def wq_88_28 (v1 : Int32) (v2 : Int32) (u0 : Int32) (m : zf_Me) (Q : Int32 → zf_Me → Prop) : Prop := ((¬ u0.toInt = 0 → wq_88_48 v1 v2 m Q) ∧ (u0.toInt = 0 → ((v2.toInt < 0 → wp_109 5 m (fun x9 m10 => Q x9 m10)) ∧ (v2.toInt ≥ 0 → ((v2.toInt ≤ 3 → wq_88_48 v1 v2 m Q) ∧ (v2.toInt > 3 → wp_109 5 m (fun x11 m12 => Q x11 m12)))))))
theorem zq_88_28 {d : Nat} (hd : 6 ≤ d) {v1 : Int32} {v2 : Int32} {Q : Int32 → zf_Me → Prop} {u0 : Int32} {m : zf_Me} (h : wq_88_28 v1 v2 u0 m Q) : zf_W none 0 0 d zt_88 28 [some (.inr (.inr (1, 0))), some (.inl v1), some (.inl v2), none] [.inl u0] m (zf_I Q) := by
  obtain ⟨e, rfl⟩ : ∃ z, d = z + 1 := ⟨d - 1, by omega⟩
  unfold wq_88_28 at h
  refine zf_st (pc' := 29) (L2 := [some (.inr (.inr (1, 0))), some (.inl v1), some (.inl v2), some (.inl u0)]) dX7_by_28 rfl (fun _ _ _ => rfl) rfl rfl rfl rfl rfl rfl ?_
  refine zf_ld (pc' := 30) (v := .inl u0) dX7_by_29 rfl (fun _ _ _ => rfl) rfl rfl rfl ?_
  refine zf_if_ne (tgt := 48) (pc' := 33) dX7_by_30 rfl rfl (fun g => ?_) (fun g => ?_)
  · replace h := h.1 g
    exact zf_lo (zq_88_48 (by omega) h) ⟨rfl, rfl, rfl, trivial⟩
  · replace h := h.2 g
    refine zf_ld (pc' := 34) (v := .inl v2) dX7_by_33 rfl (fun _ _ _ => rfl) rfl rfl rfl ?_
    refine zf_if_lt (tgt := 42) (pc' := 37) dX7_by_34 rfl rfl (fun g => ?_) (fun g => ?_)
    · replace h := h.1 g
      refine zf_ld (pc' := 43) (v := .inr (.inr (1, 0))) dX7_by_42 rfl (fun _ _ _ => rfl) rfl rfl rfl ?_
      refine zf_ic (v := 5) (pc' := 44) dX7_by_43 rfl rfl ?_
      refine zf_iv (k := 109) (pc' := 47) (r := []) dX7_by_44 rfl rfl rfl rfl (by decide) rfl rfl rfl (zr_109 (by omega) h) (zf_kI (fun x9 m10 h => ?_))
      exact zf_ri dX7_by_47 rfl h
    · replace h := h.2 g
      refine zf_ld (pc' := 38) (v := .inl v2) dX7_by_37 rfl (fun _ _ _ => rfl) rfl rfl rfl ?_
      refine zf_ic (v := 3) (pc' := 39) dX7_by_38 rfl rfl ?_
      refine zf_icmp_le (tgt := 48) (pc' := 42) dX7_by_39 rfl rfl (fun g => ?_) (fun g => ?_)
      · replace h := h.1 g
        exact zf_lo (zq_88_48 (by omega) h) ⟨rfl, rfl, rfl, trivial⟩
      · replace h := h.2 g
        refine zf_ld (pc' := 43) (v := .inr (.inr (1, 0))) dX7_by_42 rfl (fun _ _ _ => rfl) rfl rfl rfl ?_
        refine zf_ic (v := 5) (pc' := 44) dX7_by_43 rfl rfl ?_
        refine zf_iv (k := 109) (pc' := 47) (r := []) dX7_by_44 rfl rfl rfl rfl (by decide) rfl rfl rfl (zr_109 (by omega) h) (zf_kI (fun x11 m12 h => ?_))
        exact zf_ri dX7_by_47 rfl h
def wq_88_27 (v1 : Int32) (v2 : Int32) (m : zf_Me) (Q : Int32 → zf_Me → Prop) : Prop := wq_88_28 v1 v2 0 m Q
theorem zq_88_27 {d : Nat} (hd : 6 ≤ d) {v1 : Int32} {v2 : Int32} {Q : Int32 → zf_Me → Prop} {m : zf_Me} (h : wq_88_27 v1 v2 m Q) : zf_W none 0 0 d zt_88 27 [some (.inr (.inr (1, 0))), some (.inl v1), some (.inl v2), none] [] m (zf_I Q) := by
  unfold wq_88_27 at h
  refine zf_ic (v := 0) (pc' := 28) dX7_by_27 rfl rfl ?_
  exact zf_lo (zq_88_28 (by omega) h) ⟨rfl, rfl, rfl, trivial⟩
def wp_88 (v1 : Int32) (v2 : Int32) (m : zf_Me) (Q : Int32 → zf_Me → Prop) : Prop := ((v2.toInt < 10 → wq_88_27 v1 v2 m Q) ∧ (v2.toInt ≥ 10 → wp_65 3 (v2 - 10) m (fun b13 m14 => ((b13 = false → wq_88_27 v1 v2 m14 Q) ∧ (b13 = true → wq_88_28 v1 v2 1 m14 Q)))))
theorem zr_88 {d : Nat} (hd : 6 ≤ d) {v1 : Int32} {v2 : Int32} {Q : Int32 → zf_Me → Prop} {m : zf_Me} (h : wp_88 v1 v2 m Q) : zf_M d 88 [.inr (.inr (1, 0)), .inl v1, .inl v2] m (zf_I Q) := by
  obtain ⟨e, rfl⟩ : ∃ z, d = z + 1 := ⟨d - 1, by omega⟩
  unfold wp_88 at h
  refine zf_M_of (Nat.le_of_ble_eq_true rfl) zm_88 (L := [some (.inr (.inr (1, 0))), some (.inl v1), some (.inl v2), none]) rfl ?_
  refine zf_ld (pc' := 1) (v := .inl v2) dX7_by_0 rfl (fun _ _ _ => rfl) rfl rfl rfl ?_
  refine zf_bi (v := 10) (pc' := 3) dX7_by_1 rfl rfl ?_
  refine zf_icmp_lt (tgt := 27) (pc' := 6) dX7_by_3 rfl rfl (fun g => ?_) (fun g => ?_)
  · replace h := h.1 g
    exact zf_lo (zq_88_27 (by omega) h) ⟨rfl, rfl, rfl, trivial⟩
  · replace h := h.2 g
    refine zf_ld (pc' := 7) (v := .inr (.inr (1, 0))) dX7_by_6 rfl (fun _ _ _ => rfl) rfl rfl rfl ?_
    refine zf_gfr (pc' := 10) (b := 2) dX7_by_7 rfl rfl (by decide) rfl rfl ?_
    refine zf_gfr (pc' := 13) (b := 3) dX7_by_10 rfl rfl zf_walk2.1 zf_walk2.2.1 rfl ?_
    refine zf_ld (pc' := 14) (v := .inl v2) dX7_by_13 rfl (fun _ _ _ => rfl) rfl rfl rfl ?_
    refine zf_bi (v := 10) (pc' := 16) dX7_by_14 rfl rfl ?_
    refine zf_in (pc' := 17) (S' := [.inl (v2 - 10), .inr (.inr (1, 3))]) dX7_by_16 rfl (fun _ _ _ => rfl) ?_
    refine zf_iv (k := 65) (pc' := 20) (r := []) dX7_by_17 rfl rfl rfl rfl zf_walk2.2.2.1.1 zf_walk2.2.2.1.2.1 rfl rfl (zr_65 (by omega) zf_walk2.2.2.1 h) (zf_kB (fun b13 m14 h => ?_))
    refine zf_ib_eq (tgt := 27) (pc' := 23) dX7_by_20 rfl rfl (fun g => ?_) (fun g => ?_)
    · replace h := h.1 g
      exact zf_lo (zq_88_27 (by omega) h) ⟨rfl, rfl, rfl, trivial⟩
    · replace h := h.2 g
      refine zf_ic (v := 1) (pc' := 24) dX7_by_23 rfl rfl ?_
      refine zf_goto (tgt := 28) dX7_by_24 rfl ?_
      exact zf_lo (zq_88_28 (by omega) h) ⟨rfl, rfl, rfl, trivial⟩
end
section
/-! part 32: methods 89..: laid by wip/flat/dec.py -/
def zt_89 : zx_MT := (7, yX7_best, cX7_best, 7, (some FieldType.int), 1, 0)
theorem zm_89 : zx_m 89 = zt_89 := rfl
theorem dX7_best_r0 : zdcP cX7_best 0 [(.iload_n 1, 1), (.ifCond .lt 8, 3), (.iload_n 1, 1), (.iconst 1, 1), (.if_icmp .le 9, 3), (.aload_n 0, 1), (.iconst 5, 1), (.invokevirtual 82, 3), (.ireturn, 1), (.iconst 0, 1), (.istore_n 2, 1), (.iconst (-1), 1), (.istore_n 3, 1), (.iconst 0, 1), (.istore 4, 2), (.iconst 0, 1)] := zdcA_ok (by decide +kernel)
theorem dX7_best_0 : decode cX7_best 0 = .ok (.iload_n 1, 1) := dX7_best_r0.1
theorem dX7_best_1 : decode cX7_best 1 = .ok (.ifCond .lt 8, 3) := dX7_best_r0.2.1
theorem dX7_best_4 : decode cX7_best 4 = .ok (.iload_n 1, 1) := dX7_best_r0.2.2.1
theorem dX7_best_5 : decode cX7_best 5 = .ok (.iconst 1, 1) := dX7_best_r0.2.2.2.1
theorem dX7_best_6 : decode cX7_best 6 = .ok (.if_icmp .le 9, 3) := dX7_best_r0.2.2.2.2.1
theorem dX7_best_9 : decode cX7_best 9 = .ok (.aload_n 0, 1) := dX7_best_r0.2.2.2.2.2.1
theorem dX7_best_10 : decode cX7_best 10 = .ok (.iconst 5, 1) := dX7_best_r0.2.2.2.2.2.2.1
theorem dX7_best_11 : decode cX7_best 11 = .ok (.invokevirtual 82, 3) := dX7_best_r0.2.2.2.2.2.2.2.1
theorem dX7_best_14 : decode cX7_best 14 = .ok (.ireturn, 1) := dX7_best_r0.2.2.2.2.2.2.2.2.1
theorem dX7_best_15 : decode cX7_best 15 = .ok (.iconst 0, 1) := dX7_best_r0.2.2.2.2.2.2.2.2.2.1
theorem dX7_best_16 : decode cX7_best 16 = .ok (.istore_n 2, 1) := dX7_best_r0.2.2.2.2.2.2.2.2.2.2.1
theorem dX7_best_17 : decode cX7_best 17 = .ok (.iconst (-1), 1) := dX7_best_r0.2.2.2.2.2.2.2.2.2.2.2.1
theorem dX7_best_18 : decode cX7_best 18 = .ok (.istore_n 3, 1) := dX7_best_r0.2.2.2.2.2.2.2.2.2.2.2.2.1
theorem dX7_best_19 : decode cX7_best 19 = .ok (.iconst 0, 1) := dX7_best_r0.2.2.2.2.2.2.2.2.2.2.2.2.2.1
theorem dX7_best_20 : decode cX7_best 20 = .ok (.istore 4, 2) := dX7_best_r0.2.2.2.2.2.2.2.2.2.2.2.2.2.2.1
theorem dX7_best_22 : decode cX7_best 22 = .ok (.iconst 0, 1) := dX7_best_r0.2.2.2.2.2.2.2.2.2.2.2.2.2.2.2.1
theorem dX7_best_r23 : zdcP cX7_best 23 [(.istore 5, 2), (.iload 5, 2), (.iconst 4, 1), (.if_icmp .ge 94, 3), (.aload_n 0, 1), (.getfield 40, 3), (.aload_n 0, 1), (.getfield 23, 3), (.invokevirtual 239, 3), (.aload_n 0, 1), (.getfield 40, 3), (.iload 5, 2), (.invokevirtual 242, 3), (.iload_n 1, 1), (.ifCond .ne 13, 3), (.aload_n 0, 1)] := zdcA_ok (by decide +kernel)
theorem dX7_best_23 : decode cX7_best 23 = .ok (.istore 5, 2) := dX7_best_r23.1
theorem dX7_best_25 : decode cX7_best 25 = .ok (.iload 5, 2) := dX7_best_r23.2.1
theorem dX7_best_27 : decode cX7_best 27 = .ok (.iconst 4, 1) := dX7_best_r23.2.2.1
theorem dX7_best_28 : decode cX7_best 28 = .ok (.if_icmp .ge 94, 3) := dX7_best_r23.2.2.2.1
theorem dX7_best_31 : decode cX7_best 31 = .ok (.aload_n 0, 1) := dX7_best_r23.2.2.2.2.1
theorem dX7_best_32 : decode cX7_best 32 = .ok (.getfield 40, 3) := dX7_best_r23.2.2.2.2.2.1
theorem dX7_best_35 : decode cX7_best 35 = .ok (.aload_n 0, 1) := dX7_best_r23.2.2.2.2.2.2.1
theorem dX7_best_36 : decode cX7_best 36 = .ok (.getfield 23, 3) := dX7_best_r23.2.2.2.2.2.2.2.1
theorem dX7_best_39 : decode cX7_best 39 = .ok (.invokevirtual 239, 3) := dX7_best_r23.2.2.2.2.2.2.2.2.1
theorem dX7_best_42 : decode cX7_best 42 = .ok (.aload_n 0, 1) := dX7_best_r23.2.2.2.2.2.2.2.2.2.1
theorem dX7_best_43 : decode cX7_best 43 = .ok (.getfield 40, 3) := dX7_best_r23.2.2.2.2.2.2.2.2.2.2.1
theorem dX7_best_46 : decode cX7_best 46 = .ok (.iload 5, 2) := dX7_best_r23.2.2.2.2.2.2.2.2.2.2.2.1
theorem dX7_best_48 : decode cX7_best 48 = .ok (.invokevirtual 242, 3) := dX7_best_r23.2.2.2.2.2.2.2.2.2.2.2.2.1
theorem dX7_best_51 : decode cX7_best 51 = .ok (.iload_n 1, 1) := dX7_best_r23.2.2.2.2.2.2.2.2.2.2.2.2.2.1
theorem dX7_best_52 : decode cX7_best 52 = .ok (.ifCond .ne 13, 3) := dX7_best_r23.2.2.2.2.2.2.2.2.2.2.2.2.2.2.1
theorem dX7_best_55 : decode cX7_best 55 = .ok (.aload_n 0, 1) := dX7_best_r23.2.2.2.2.2.2.2.2.2.2.2.2.2.2.2.1
theorem dX7_best_r56 : zdcP cX7_best 56 [(.getfield 40, 3), (.getfield 247, 3), (.goto 13, 3), (.aload_n 0, 1), (.getfield 40, 3), (.getfield 246, 3), (.getfield 230, 3), (.istore 6, 2), (.aload_n 0, 1), (.getfield 40, 3), (.getfield 246, 3), (.getfield 221, 3), (.iload 6, 2), (.iload_n 3, 1), (.iload 4, 2), (.invokestatic 253, 3)] := zdcA_ok (by decide +kernel)
theorem dX7_best_56 : decode cX7_best 56 = .ok (.getfield 40, 3) := dX7_best_r56.1
theorem dX7_best_59 : decode cX7_best 59 = .ok (.getfield 247, 3) := dX7_best_r56.2.1
theorem dX7_best_62 : decode cX7_best 62 = .ok (.goto 13, 3) := dX7_best_r56.2.2.1
theorem dX7_best_65 : decode cX7_best 65 = .ok (.aload_n 0, 1) := dX7_best_r56.2.2.2.1
theorem dX7_best_66 : decode cX7_best 66 = .ok (.getfield 40, 3) := dX7_best_r56.2.2.2.2.1
theorem dX7_best_69 : decode cX7_best 69 = .ok (.getfield 246, 3) := dX7_best_r56.2.2.2.2.2.1
theorem dX7_best_72 : decode cX7_best 72 = .ok (.getfield 230, 3) := dX7_best_r56.2.2.2.2.2.2.1
theorem dX7_best_75 : decode cX7_best 75 = .ok (.istore 6, 2) := dX7_best_r56.2.2.2.2.2.2.2.1
theorem dX7_best_77 : decode cX7_best 77 = .ok (.aload_n 0, 1) := dX7_best_r56.2.2.2.2.2.2.2.2.1
theorem dX7_best_78 : decode cX7_best 78 = .ok (.getfield 40, 3) := dX7_best_r56.2.2.2.2.2.2.2.2.2.1
theorem dX7_best_81 : decode cX7_best 81 = .ok (.getfield 246, 3) := dX7_best_r56.2.2.2.2.2.2.2.2.2.2.1
theorem dX7_best_84 : decode cX7_best 84 = .ok (.getfield 221, 3) := dX7_best_r56.2.2.2.2.2.2.2.2.2.2.2.1
theorem dX7_best_87 : decode cX7_best 87 = .ok (.iload 6, 2) := dX7_best_r56.2.2.2.2.2.2.2.2.2.2.2.2.1
theorem dX7_best_89 : decode cX7_best 89 = .ok (.iload_n 3, 1) := dX7_best_r56.2.2.2.2.2.2.2.2.2.2.2.2.2.1
theorem dX7_best_90 : decode cX7_best 90 = .ok (.iload 4, 2) := dX7_best_r56.2.2.2.2.2.2.2.2.2.2.2.2.2.2.1
theorem dX7_best_92 : decode cX7_best 92 = .ok (.invokestatic 253, 3) := dX7_best_r56.2.2.2.2.2.2.2.2.2.2.2.2.2.2.2.1
theorem dX7_best_r95 : zdcP cX7_best 95 [(.ifCond .eq 21, 3), (.iload 5, 2), (.istore_n 2, 1), (.aload_n 0, 1), (.getfield 40, 3), (.getfield 246, 3), (.getfield 221, 3), (.istore_n 3, 1), (.iload 6, 2), (.istore 4, 2), (.iinc 5 1, 3), (.goto (-94), 3), (.iload_n 2, 1), (.ireturn, 1)] := zdcA_ok (by decide +kernel)
theorem dX7_best_95 : decode cX7_best 95 = .ok (.ifCond .eq 21, 3) := dX7_best_r95.1
theorem dX7_best_98 : decode cX7_best 98 = .ok (.iload 5, 2) := dX7_best_r95.2.1
theorem dX7_best_100 : decode cX7_best 100 = .ok (.istore_n 2, 1) := dX7_best_r95.2.2.1
theorem dX7_best_101 : decode cX7_best 101 = .ok (.aload_n 0, 1) := dX7_best_r95.2.2.2.1
theorem dX7_best_102 : decode cX7_best 102 = .ok (.getfield 40, 3) := dX7_best_r95.2.2.2.2.1
theorem dX7_best_105 : decode cX7_best 105 = .ok (.getfield 246, 3) := dX7_best_r95.2.2.2.2.2.1
theorem dX7_best_108 : decode cX7_best 108 = .ok (.getfield 221, 3) := dX7_best_r95.2.2.2.2.2.2.1
theorem dX7_best_111 : decode cX7_best 111 = .ok (.istore_n 3, 1) := dX7_best_r95.2.2.2.2.2.2.2.1
theorem dX7_best_112 : decode cX7_best 112 = .ok (.iload 6, 2) := dX7_best_r95.2.2.2.2.2.2.2.2.1
theorem dX7_best_114 : decode cX7_best 114 = .ok (.istore 4, 2) := dX7_best_r95.2.2.2.2.2.2.2.2.2.1
theorem dX7_best_116 : decode cX7_best 116 = .ok (.iinc 5 1, 3) := dX7_best_r95.2.2.2.2.2.2.2.2.2.2.1
theorem dX7_best_119 : decode cX7_best 119 = .ok (.goto (-94), 3) := dX7_best_r95.2.2.2.2.2.2.2.2.2.2.2.1
theorem dX7_best_122 : decode cX7_best 122 = .ok (.iload_n 2, 1) := dX7_best_r95.2.2.2.2.2.2.2.2.2.2.2.2.1
theorem dX7_best_123 : decode cX7_best 123 = .ok (.ireturn, 1) := dX7_best_r95.2.2.2.2.2.2.2.2.2.2.2.2.2.1
def wq_89_75 (v1 : Int32) (F25 : Int32 → Int32 → Int32 → Int32 → zf_Me → Prop) (v2 : Int32) (v3 : Int32) (v4 : Int32) (v5 : Int32) (u0 : Int32) (m : zf_Me) (Q : Int32 → zf_Me → Prop) : Prop := wp_119 (m.1 19 10) u0 v3 v4 m (fun b7 m8 => ((b7 = false → F25 v2 v3 v4 (v5 + 1) m8) ∧ (b7 = true → F25 v5 (m8.1 19 10) u0 (v5 + 1) m8)))
theorem zq_89_75 {d : Nat} (hd : 6 ≤ d) {v1 : Int32} {F25 : Int32 → Int32 → Int32 → Int32 → zf_Me → Prop} {Q : Int32 → zf_Me → Prop} (hF25 : ∀ (v2 : Int32) (v3 : Int32) (v4 : Int32) (v5 : Int32) (m : zf_Me), F25 v2 v3 v4 v5 m → zf_W none 0 0 d zt_89 25 [some (.inr (.inr (1, 0))), some (.inl v1), some (.inl v2), some (.inl v3), some (.inl v4), some (.inl v5), none] [] m (zf_I Q)) {v2 : Int32} {v3 : Int32} {v4 : Int32} {v5 : Int32} {u0 : Int32} {m : zf_Me} (h : wq_89_75 v1 F25 v2 v3 v4 v5 u0 m Q) : zf_W none 0 0 d zt_89 75 [some (.inr (.inr (1, 0))), some (.inl v1), some (.inl v2), some (.inl v3), some (.inl v4), some (.inl v5), none] [.inl u0] m (zf_I Q) := by
  obtain ⟨e, rfl⟩ : ∃ z, d = z + 1 := ⟨d - 1, by omega⟩
  unfold wq_89_75 at h
  refine zf_st (pc' := 77) (L2 := [some (.inr (.inr (1, 0))), some (.inl v1), some (.inl v2), some (.inl v3), some (.inl v4), some (.inl v5), some (.inl u0)]) dX7_best_75 rfl (fun _ _ _ => rfl) rfl rfl rfl rfl rfl rfl ?_
  refine zf_ld (pc' := 78) (v := .inr (.inr (1, 0))) dX7_best_77 rfl (fun _ _ _ => rfl) rfl rfl rfl ?_
  refine zf_gfr (pc' := 81) (b := 18) dX7_best_78 rfl rfl (by decide) rfl rfl ?_
  refine zf_gfr (pc' := 84) (b := 19) dX7_best_81 rfl rfl (by decide) rfl rfl ?_
  refine zf_gfi (pc' := 87) dX7_best_84 rfl rfl zf_walk19.1 zf_walk19.2.1 rfl ?_
  refine zf_ld (pc' := 89) (v := .inl u0) dX7_best_87 rfl (fun _ _ _ => rfl) rfl rfl rfl ?_
  refine zf_ld (pc' := 90) (v := .inl v3) dX7_best_89 rfl (fun _ _ _ => rfl) rfl rfl rfl ?_
  refine zf_ld (pc' := 92) (v := .inl v4) dX7_best_90 rfl (fun _ _ _ => rfl) rfl rfl rfl ?_
  refine zf_is (k := 119) (pc' := 95) (r := []) dX7_best_92 rfl rfl rfl rfl rfl (zr_119 (by omega) h) (zf_kB (fun b7 m8 h => ?_))
  refine zf_ib_eq (tgt := 116) (pc' := 98) dX7_best_95 rfl rfl (fun g => ?_) (fun g => ?_)
  · replace h := h.1 g
    refine zf_ii (y := (v5 + 1)) (L2 := [some (.inr (.inr (1, 0))), some (.inl v1), some (.inl v2), some (.inl v3), some (.inl v4), some (.inl (v5 + 1)), some (.inl u0)]) (pc' := 119) dX7_best_116 rfl rfl rfl rfl rfl ?_
    refine zf_goto (tgt := 25) dX7_best_119 rfl ?_
    exact zf_lo (hF25 _ _ _ _ _ h) ⟨rfl, rfl, rfl, rfl, rfl, rfl, trivial⟩
  · replace h := h.2 g
    refine zf_ld (pc' := 100) (v := .inl v5) dX7_best_98 rfl (fun _ _ _ => rfl) rfl rfl rfl ?_
    refine zf_st (pc' := 101) (L2 := [some (.inr (.inr (1, 0))), some (.inl v1), some (.inl v5), some (.inl v3), some (.inl v4), some (.inl v5), some (.inl u0)]) dX7_best_100 rfl (fun _ _ _ => rfl) rfl rfl rfl rfl rfl rfl ?_
    refine zf_ld (pc' := 102) (v := .inr (.inr (1, 0))) dX7_best_101 rfl (fun _ _ _ => rfl) rfl rfl rfl ?_
    refine zf_gfr (pc' := 105) (b := 18) dX7_best_102 rfl rfl (by decide) rfl rfl ?_
    refine zf_gfr (pc' := 108) (b := 19) dX7_best_105 rfl rfl (by decide) rfl rfl ?_
    refine zf_gfi (pc' := 111) dX7_best_108 rfl rfl zf_walk19.1 zf_walk19.2.1 rfl ?_
    refine zf_st (pc' := 112) (L2 := [some (.inr (.inr (1, 0))), some (.inl v1), some (.inl v5), some (.inl (m8.1 19 10)), some (.inl v4), some (.inl v5), some (.inl u0)]) dX7_best_111 rfl (fun _ _ _ => rfl) rfl rfl rfl rfl rfl rfl ?_
    refine zf_ld (pc' := 114) (v := .inl u0) dX7_best_112 rfl (fun _ _ _ => rfl) rfl rfl rfl ?_
    refine zf_st (pc' := 116) (L2 := [some (.inr (.inr (1, 0))), some (.inl v1), some (.inl v5), some (.inl (m8.1 19 10)), some (.inl u0), some (.inl v5), some (.inl u0)]) dX7_best_114 rfl (fun _ _ _ => rfl) rfl rfl rfl rfl rfl rfl ?_
    refine zf_ii (y := (v5 + 1)) (L2 := [some (.inr (.inr (1, 0))), some (.inl v1), some (.inl v5), some (.inl (m8.1 19 10)), some (.inl u0), some (.inl (v5 + 1)), some (.inl u0)]) (pc' := 119) dX7_best_116 rfl rfl rfl rfl rfl ?_
    refine zf_goto (tgt := 25) dX7_best_119 rfl ?_
    exact zf_lo (hF25 _ _ _ _ _ h) ⟨rfl, rfl, rfl, rfl, rfl, rfl, trivial⟩
def wq_89_25 (v1 : Int32) (Q : Int32 → zf_Me → Prop) : Nat → Int32 → Int32 → Int32 → Int32 → zf_Me → Prop
  | 0, _, _, _, _, _ => False
  | n + 1, v2, v3, v4, v5, m => ((v5.toInt ≥ 4 → Q v2 m) ∧ (v5.toInt < 4 → wp_7 2 3 8 m (fun m4 => wp_8 v5 m4 (fun m6 => ((¬ v1.toInt = 0 → wq_89_75 v1 (wq_89_25 v1 Q n) v2 v3 v4 v5 (m6.1 19 11) m6 Q) ∧ (v1.toInt = 0 → wq_89_75 v1 (wq_89_25 v1 Q n) v2 v3 v4 v5 (m6.1 18 3) m6 Q))))))
theorem zq_89_25 {d : Nat} (hd : 6 ≤ d) {v1 : Int32} {Q : Int32 → zf_Me → Prop} : ∀ (n : Nat) (v2 : Int32) (v3 : Int32) (v4 : Int32) (v5 : Int32) (m : zf_Me), wq_89_25 v1 Q n v2 v3 v4 v5 m → zf_W none 0 0 d zt_89 25 [some (.inr (.inr (1, 0))), some (.inl v1), some (.inl v2), some (.inl v3), some (.inl v4), some (.inl v5), none] [] m (zf_I Q) := by
  obtain ⟨e, rfl⟩ : ∃ z, d = z + 1 := ⟨d - 1, by omega⟩
  intro n
  induction n with
  | zero =>
    intro v2 v3 v4 v5 m h
    exact h.elim
  | succ n ih =>
    intro v2 v3 v4 v5 m h
    unfold wq_89_25 at h
    refine zf_ld (pc' := 27) (v := .inl v5) dX7_best_25 rfl (fun _ _ _ => rfl) rfl rfl rfl ?_
    refine zf_ic (v := 4) (pc' := 28) dX7_best_27 rfl rfl ?_
    refine zf_icmp_ge (tgt := 122) (pc' := 31) dX7_best_28 rfl rfl (fun g => ?_) (fun g => ?_)
    · replace h := h.1 g
      refine zf_ld (pc' := 123) (v := .inl v2) dX7_best_122 rfl (fun _ _ _ => rfl) rfl rfl rfl ?_
      exact zf_ri dX7_best_123 rfl h
    · replace h := h.2 g
      refine zf_ld (pc' := 32) (v := .inr (.inr (1, 0))) dX7_best_31 rfl (fun _ _ _ => rfl) rfl rfl rfl ?_
      refine zf_gfr (pc' := 35) (b := 18) dX7_best_32 rfl rfl (by decide) rfl rfl ?_
      refine zf_ld (pc' := 36) (v := .inr (.inr (1, 0))) dX7_best_35 rfl (fun _ _ _ => rfl) rfl rfl rfl ?_
      refine zf_gfr (pc' := 39) (b := 2) dX7_best_36 rfl rfl (by decide) rfl rfl ?_
      refine zf_iv (k := 7) (pc' := 42) (r := []) dX7_best_39 rfl rfl rfl rfl (by decide) rfl rfl rfl (zr_7 (by omega) zf_walk2 h) (zf_kO (fun m4 h => ?_))
      refine zf_ld (pc' := 43) (v := .inr (.inr (1, 0))) dX7_best_42 rfl (fun _ _ _ => rfl) rfl rfl rfl ?_
      refine zf_gfr (pc' := 46) (b := 18) dX7_best_43 rfl rfl (by decide) rfl rfl ?_
      refine zf_ld (pc' := 48) (v := .inl v5) dX7_best_46 rfl (fun _ _ _ => rfl) rfl rfl rfl ?_
      refine zf_iv (k := 8) (pc' := 51) (r := []) dX7_best_48 rfl rfl rfl rfl (by decide) rfl rfl rfl (zr_8 (by omega) h) (zf_kO (fun m6 h => ?_))
      refine zf_ld (pc' := 52) (v := .inl v1) dX7_best_51 rfl (fun _ _ _ => rfl) rfl rfl rfl ?_
      refine zf_if_ne (tgt := 65) (pc' := 55) dX7_best_52 rfl rfl (fun g => ?_) (fun g => ?_)
      · replace h := h.1 g
        refine zf_ld (pc' := 66) (v := .inr (.inr (1, 0))) dX7_best_65 rfl (fun _ _ _ => rfl) rfl rfl rfl ?_
        refine zf_gfr (pc' := 69) (b := 18) dX7_best_66 rfl rfl (by decide) rfl rfl ?_
        refine zf_gfr (pc' := 72) (b := 19) dX7_best_69 rfl rfl (by decide) rfl rfl ?_
        refine zf_gfi (pc' := 75) dX7_best_72 rfl rfl zf_walk19.1 zf_walk19.2.1 rfl ?_
        exact zf_lo (zq_89_75 (by omega) ih h) ⟨rfl, rfl, rfl, rfl, rfl, rfl, trivial⟩
      · replace h := h.2 g
        refine zf_ld (pc' := 56) (v := .inr (.inr (1, 0))) dX7_best_55 rfl (fun _ _ _ => rfl) rfl rfl rfl ?_
        refine zf_gfr (pc' := 59) (b := 18) dX7_best_56 rfl rfl (by decide) rfl rfl ?_
        refine zf_gfi (pc' := 62) dX7_best_59 rfl rfl (by decide) rfl rfl ?_
        refine zf_goto (tgt := 75) dX7_best_62 rfl ?_
        exact zf_lo (zq_89_75 (by omega) ih h) ⟨rfl, rfl, rfl, rfl, rfl, rfl, trivial⟩
def wp_89 (v1 : Int32) (m : zf_Me) (Q : Int32 → zf_Me → Prop) : Prop := ((v1.toInt < 0 → wp_109 5 m (fun x1 m2 => Q x1 m2)) ∧ (v1.toInt ≥ 0 → ((v1.toInt ≤ 1 → (∃ n25, wq_89_25 v1 Q n25 0 (-1) 0 0 m)) ∧ (v1.toInt > 1 → wp_109 5 m (fun x9 m10 => Q x9 m10)))))
theorem zr_89 {d : Nat} (hd : 6 ≤ d) {v1 : Int32} {Q : Int32 → zf_Me → Prop} {m : zf_Me} (h : wp_89 v1 m Q) : zf_M d 89 [.inr (.inr (1, 0)), .inl v1] m (zf_I Q) := by
  obtain ⟨e, rfl⟩ : ∃ z, d = z + 1 := ⟨d - 1, by omega⟩
  unfold wp_89 at h
  refine zf_M_of (Nat.le_of_ble_eq_true rfl) zm_89 (L := [some (.inr (.inr (1, 0))), some (.inl v1), none, none, none, none, none]) rfl ?_
  refine zf_ld (pc' := 1) (v := .inl v1) dX7_best_0 rfl (fun _ _ _ => rfl) rfl rfl rfl ?_
  refine zf_if_lt (tgt := 9) (pc' := 4) dX7_best_1 rfl rfl (fun g => ?_) (fun g => ?_)
  · replace h := h.1 g
    refine zf_ld (pc' := 10) (v := .inr (.inr (1, 0))) dX7_best_9 rfl (fun _ _ _ => rfl) rfl rfl rfl ?_
    refine zf_ic (v := 5) (pc' := 11) dX7_best_10 rfl rfl ?_
    refine zf_iv (k := 109) (pc' := 14) (r := []) dX7_best_11 rfl rfl rfl rfl (by decide) rfl rfl rfl (zr_109 (by omega) h) (zf_kI (fun x1 m2 h => ?_))
    exact zf_ri dX7_best_14 rfl h
  · replace h := h.2 g
    refine zf_ld (pc' := 5) (v := .inl v1) dX7_best_4 rfl (fun _ _ _ => rfl) rfl rfl rfl ?_
    refine zf_ic (v := 1) (pc' := 6) dX7_best_5 rfl rfl ?_
    refine zf_icmp_le (tgt := 15) (pc' := 9) dX7_best_6 rfl rfl (fun g => ?_) (fun g => ?_)
    · replace h := h.1 g
      refine zf_ic (v := 0) (pc' := 16) dX7_best_15 rfl rfl ?_
      refine zf_st (pc' := 17) (L2 := [some (.inr (.inr (1, 0))), some (.inl v1), some (.inl 0), none, none, none, none]) dX7_best_16 rfl (fun _ _ _ => rfl) rfl rfl rfl rfl rfl rfl ?_
      refine zf_ic (v := (-1)) (pc' := 18) dX7_best_17 rfl rfl ?_
      refine zf_st (pc' := 19) (L2 := [some (.inr (.inr (1, 0))), some (.inl v1), some (.inl 0), some (.inl (-1)), none, none, none]) dX7_best_18 rfl (fun _ _ _ => rfl) rfl rfl rfl rfl rfl rfl ?_
      refine zf_ic (v := 0) (pc' := 20) dX7_best_19 rfl rfl ?_
      refine zf_st (pc' := 22) (L2 := [some (.inr (.inr (1, 0))), some (.inl v1), some (.inl 0), some (.inl (-1)), some (.inl 0), none, none]) dX7_best_20 rfl (fun _ _ _ => rfl) rfl rfl rfl rfl rfl rfl ?_
      refine zf_ic (v := 0) (pc' := 23) dX7_best_22 rfl rfl ?_
      refine zf_st (pc' := 25) (L2 := [some (.inr (.inr (1, 0))), some (.inl v1), some (.inl 0), some (.inl (-1)), some (.inl 0), some (.inl 0), none]) dX7_best_23 rfl (fun _ _ _ => rfl) rfl rfl rfl rfl rfl rfl ?_
      obtain ⟨n25, h⟩ := h
      exact zf_lo (zq_89_25 (by omega) n25 _ _ _ _ _ h) ⟨rfl, rfl, rfl, rfl, rfl, rfl, trivial⟩
    · replace h := h.2 g
      refine zf_ld (pc' := 10) (v := .inr (.inr (1, 0))) dX7_best_9 rfl (fun _ _ _ => rfl) rfl rfl rfl ?_
      refine zf_ic (v := 5) (pc' := 11) dX7_best_10 rfl rfl ?_
      refine zf_iv (k := 109) (pc' := 14) (r := []) dX7_best_11 rfl rfl rfl rfl (by decide) rfl rfl rfl (zr_109 (by omega) h) (zf_kI (fun x9 m10 h => ?_))
      exact zf_ri dX7_best_14 rfl h
def zt_90 : zx_MT := (7, yX7_whose, cX7_whose, 5, (some FieldType.int), 1, 0)
theorem zm_90 : zx_m 90 = zt_90 := rfl
theorem dX7_whose_r0 : zdcP cX7_whose 0 [(.aload_n 0, 1), (.getfield 23, 3), (.getfield 30, 3), (.iload_n 1, 1), (.invokevirtual 159, 3), (.ifCond .eq 16, 3), (.aload_n 0, 1), (.getfield 23, 3), (.getfield 30, 3), (.getfield 153, 3), (.ifCond .ne 9, 3), (.aload_n 0, 1), (.iconst 5, 1), (.invokevirtual 82, 3), (.ireturn, 1), (.aload_n 0, 1)] := zdcA_ok (by decide +kernel)
theorem dX7_whose_0 : decode cX7_whose 0 = .ok (.aload_n 0, 1) := dX7_whose_r0.1
theorem dX7_whose_1 : decode cX7_whose 1 = .ok (.getfield 23, 3) := dX7_whose_r0.2.1
theorem dX7_whose_4 : decode cX7_whose 4 = .ok (.getfield 30, 3) := dX7_whose_r0.2.2.1
theorem dX7_whose_7 : decode cX7_whose 7 = .ok (.iload_n 1, 1) := dX7_whose_r0.2.2.2.1
theorem dX7_whose_8 : decode cX7_whose 8 = .ok (.invokevirtual 159, 3) := dX7_whose_r0.2.2.2.2.1
theorem dX7_whose_11 : decode cX7_whose 11 = .ok (.ifCond .eq 16, 3) := dX7_whose_r0.2.2.2.2.2.1
theorem dX7_whose_14 : decode cX7_whose 14 = .ok (.aload_n 0, 1) := dX7_whose_r0.2.2.2.2.2.2.1
theorem dX7_whose_15 : decode cX7_whose 15 = .ok (.getfield 23, 3) := dX7_whose_r0.2.2.2.2.2.2.2.1
theorem dX7_whose_18 : decode cX7_whose 18 = .ok (.getfield 30, 3) := dX7_whose_r0.2.2.2.2.2.2.2.2.1
theorem dX7_whose_21 : decode cX7_whose 21 = .ok (.getfield 153, 3) := dX7_whose_r0.2.2.2.2.2.2.2.2.2.1
theorem dX7_whose_24 : decode cX7_whose 24 = .ok (.ifCond .ne 9, 3) := dX7_whose_r0.2.2.2.2.2.2.2.2.2.2.1
theorem dX7_whose_27 : decode cX7_whose 27 = .ok (.aload_n 0, 1) := dX7_whose_r0.2.2.2.2.2.2.2.2.2.2.2.1
theorem dX7_whose_28 : decode cX7_whose 28 = .ok (.iconst 5, 1) := dX7_whose_r0.2.2.2.2.2.2.2.2.2.2.2.2.1
theorem dX7_whose_29 : decode cX7_whose 29 = .ok (.invokevirtual 82, 3) := dX7_whose_r0.2.2.2.2.2.2.2.2.2.2.2.2.2.1
theorem dX7_whose_32 : decode cX7_whose 32 = .ok (.ireturn, 1) := dX7_whose_r0.2.2.2.2.2.2.2.2.2.2.2.2.2.2.1
theorem dX7_whose_33 : decode cX7_whose 33 = .ok (.aload_n 0, 1) := dX7_whose_r0.2.2.2.2.2.2.2.2.2.2.2.2.2.2.2.1
theorem dX7_whose_r34 : zdcP cX7_whose 34 [(.getfield 23, 3), (.getfield 30, 3), (.getfield 165, 3), (.iload_n 1, 1), (.iaload, 1), (.istore_n 2, 1), (.iconst 0, 1), (.istore_n 3, 1), (.iconst 1, 1), (.istore 4, 2), (.iload 4, 2), (.aload_n 0, 1), (.getfield 23, 3), (.getfield 30, 3), (.getfield 153, 3), (.if_icmp .ge 34, 3)] := zdcA_ok (by decide +kernel)
theorem dX7_whose_34 : decode cX7_whose 34 = .ok (.getfield 23, 3) := dX7_whose_r34.1
theorem dX7_whose_37 : decode cX7_whose 37 = .ok (.getfield 30, 3) := dX7_whose_r34.2.1
theorem dX7_whose_40 : decode cX7_whose 40 = .ok (.getfield 165, 3) := dX7_whose_r34.2.2.1
theorem dX7_whose_43 : decode cX7_whose 43 = .ok (.iload_n 1, 1) := dX7_whose_r34.2.2.2.1
theorem dX7_whose_44 : decode cX7_whose 44 = .ok (.iaload, 1) := dX7_whose_r34.2.2.2.2.1
theorem dX7_whose_45 : decode cX7_whose 45 = .ok (.istore_n 2, 1) := dX7_whose_r34.2.2.2.2.2.1
theorem dX7_whose_46 : decode cX7_whose 46 = .ok (.iconst 0, 1) := dX7_whose_r34.2.2.2.2.2.2.1
theorem dX7_whose_47 : decode cX7_whose 47 = .ok (.istore_n 3, 1) := dX7_whose_r34.2.2.2.2.2.2.2.1
theorem dX7_whose_48 : decode cX7_whose 48 = .ok (.iconst 1, 1) := dX7_whose_r34.2.2.2.2.2.2.2.2.1
theorem dX7_whose_49 : decode cX7_whose 49 = .ok (.istore 4, 2) := dX7_whose_r34.2.2.2.2.2.2.2.2.2.1
theorem dX7_whose_51 : decode cX7_whose 51 = .ok (.iload 4, 2) := dX7_whose_r34.2.2.2.2.2.2.2.2.2.2.1
theorem dX7_whose_53 : decode cX7_whose 53 = .ok (.aload_n 0, 1) := dX7_whose_r34.2.2.2.2.2.2.2.2.2.2.2.1
theorem dX7_whose_54 : decode cX7_whose 54 = .ok (.getfield 23, 3) := dX7_whose_r34.2.2.2.2.2.2.2.2.2.2.2.2.1
theorem dX7_whose_57 : decode cX7_whose 57 = .ok (.getfield 30, 3) := dX7_whose_r34.2.2.2.2.2.2.2.2.2.2.2.2.2.1
theorem dX7_whose_60 : decode cX7_whose 60 = .ok (.getfield 153, 3) := dX7_whose_r34.2.2.2.2.2.2.2.2.2.2.2.2.2.2.1
theorem dX7_whose_63 : decode cX7_whose 63 = .ok (.if_icmp .ge 34, 3) := dX7_whose_r34.2.2.2.2.2.2.2.2.2.2.2.2.2.2.2.1
theorem dX7_whose_r66 : zdcP cX7_whose 66 [(.aload_n 0, 1), (.getfield 23, 3), (.iload 4, 2), (.iload_n 2, 1), (.invokevirtual 140, 3), (.aload_n 0, 1), (.getfield 23, 3), (.iload_n 3, 1), (.iload_n 2, 1), (.invokevirtual 140, 3), (.if_icmp .ge 6, 3), (.iload 4, 2), (.istore_n 3, 1), (.iinc 4 1, 3), (.goto (-43), 3), (.iload_n 3, 1)] := zdcA_ok (by decide +kernel)
theorem dX7_whose_66 : decode cX7_whose 66 = .ok (.aload_n 0, 1) := dX7_whose_r66.1
theorem dX7_whose_67 : decode cX7_whose 67 = .ok (.getfield 23, 3) := dX7_whose_r66.2.1
theorem dX7_whose_70 : decode cX7_whose 70 = .ok (.iload 4, 2) := dX7_whose_r66.2.2.1
theorem dX7_whose_72 : decode cX7_whose 72 = .ok (.iload_n 2, 1) := dX7_whose_r66.2.2.2.1
theorem dX7_whose_73 : decode cX7_whose 73 = .ok (.invokevirtual 140, 3) := dX7_whose_r66.2.2.2.2.1
theorem dX7_whose_76 : decode cX7_whose 76 = .ok (.aload_n 0, 1) := dX7_whose_r66.2.2.2.2.2.1
theorem dX7_whose_77 : decode cX7_whose 77 = .ok (.getfield 23, 3) := dX7_whose_r66.2.2.2.2.2.2.1
theorem dX7_whose_80 : decode cX7_whose 80 = .ok (.iload_n 3, 1) := dX7_whose_r66.2.2.2.2.2.2.2.1
theorem dX7_whose_81 : decode cX7_whose 81 = .ok (.iload_n 2, 1) := dX7_whose_r66.2.2.2.2.2.2.2.2.1
theorem dX7_whose_82 : decode cX7_whose 82 = .ok (.invokevirtual 140, 3) := dX7_whose_r66.2.2.2.2.2.2.2.2.2.1
theorem dX7_whose_85 : decode cX7_whose 85 = .ok (.if_icmp .ge 6, 3) := dX7_whose_r66.2.2.2.2.2.2.2.2.2.2.1
theorem dX7_whose_88 : decode cX7_whose 88 = .ok (.iload 4, 2) := dX7_whose_r66.2.2.2.2.2.2.2.2.2.2.2.1
theorem dX7_whose_90 : decode cX7_whose 90 = .ok (.istore_n 3, 1) := dX7_whose_r66.2.2.2.2.2.2.2.2.2.2.2.2.1
theorem dX7_whose_91 : decode cX7_whose 91 = .ok (.iinc 4 1, 3) := dX7_whose_r66.2.2.2.2.2.2.2.2.2.2.2.2.2.1
theorem dX7_whose_94 : decode cX7_whose 94 = .ok (.goto (-43), 3) := dX7_whose_r66.2.2.2.2.2.2.2.2.2.2.2.2.2.2.1
theorem dX7_whose_97 : decode cX7_whose 97 = .ok (.iload_n 3, 1) := dX7_whose_r66.2.2.2.2.2.2.2.2.2.2.2.2.2.2.2.1
theorem dX7_whose_98 : decode cX7_whose 98 = .ok (.ireturn, 1) := zdc_ok (by decide +kernel)
def wq_90_51 (v1 : Int32) (Q : Int32 → zf_Me → Prop) : Nat → Int32 → Int32 → Int32 → zf_Me → Prop
  | 0, _, _, _, _ => False
  | n + 1, v2, v3, v4, m => ((v4.toInt ≥ ((m.1 3 5)).toInt → Q v3 m) ∧ (v4.toInt < ((m.1 3 5)).toInt → wp_51 2 3 8 v4 v2 m (fun x5 m6 => wp_51 2 3 8 v3 v2 m6 (fun x7 m8 => ((x5.toInt ≥ x7.toInt → wq_90_51 v1 Q n v2 v3 (v4 + 1) m8) ∧ (x5.toInt < x7.toInt → wq_90_51 v1 Q n v2 v4 (v4 + 1) m8))))))
theorem zq_90_51 {d : Nat} (hd : 1 ≤ d) {v1 : Int32} {Q : Int32 → zf_Me → Prop} : ∀ (n : Nat) (v2 : Int32) (v3 : Int32) (v4 : Int32) (m : zf_Me), wq_90_51 v1 Q n v2 v3 v4 m → zf_W none 0 0 d zt_90 51 [some (.inr (.inr (1, 0))), none, some (.inl v2), some (.inl v3), some (.inl v4)] [] m (zf_I Q) := by
  obtain ⟨e, rfl⟩ : ∃ z, d = z + 1 := ⟨d - 1, by omega⟩
  intro n
  induction n with
  | zero =>
    intro v2 v3 v4 m h
    exact h.elim
  | succ n ih =>
    intro v2 v3 v4 m h
    unfold wq_90_51 at h
    refine zf_ld (pc' := 53) (v := .inl v4) dX7_whose_51 rfl (fun _ _ _ => rfl) rfl rfl rfl ?_
    refine zf_ld (pc' := 54) (v := .inr (.inr (1, 0))) dX7_whose_53 rfl (fun _ _ _ => rfl) rfl rfl rfl ?_
    refine zf_gfr (pc' := 57) (b := 2) dX7_whose_54 rfl rfl (by decide) rfl rfl ?_
    refine zf_gfr (pc' := 60) (b := 3) dX7_whose_57 rfl rfl zf_walk2.1 zf_walk2.2.1 rfl ?_
    refine zf_gfi (pc' := 63) dX7_whose_60 rfl rfl zf_walk2.2.2.1.1 zf_walk2.2.2.1.2.1 rfl ?_
    refine zf_icmp_ge (tgt := 97) (pc' := 66) dX7_whose_63 rfl rfl (fun g => ?_) (fun g => ?_)
    · replace h := h.1 g
      refine zf_ld (pc' := 98) (v := .inl v3) dX7_whose_97 rfl (fun _ _ _ => rfl) rfl rfl rfl ?_
      exact zf_ri dX7_whose_98 rfl h
    · replace h := h.2 g
      refine zf_ld (pc' := 67) (v := .inr (.inr (1, 0))) dX7_whose_66 rfl (fun _ _ _ => rfl) rfl rfl rfl ?_
      refine zf_gfr (pc' := 70) (b := 2) dX7_whose_67 rfl rfl (by decide) rfl rfl ?_
      refine zf_ld (pc' := 72) (v := .inl v4) dX7_whose_70 rfl (fun _ _ _ => rfl) rfl rfl rfl ?_
      refine zf_ld (pc' := 73) (v := .inl v2) dX7_whose_72 rfl (fun _ _ _ => rfl) rfl rfl rfl ?_
      refine zf_iv (k := 51) (pc' := 76) (r := []) dX7_whose_73 rfl rfl rfl rfl zf_walk2.1 zf_walk2.2.1 rfl rfl (zr_51 (by omega) zf_walk2 h) (zf_kI (fun x5 m6 h => ?_))
      refine zf_ld (pc' := 77) (v := .inr (.inr (1, 0))) dX7_whose_76 rfl (fun _ _ _ => rfl) rfl rfl rfl ?_
      refine zf_gfr (pc' := 80) (b := 2) dX7_whose_77 rfl rfl (by decide) rfl rfl ?_
      refine zf_ld (pc' := 81) (v := .inl v3) dX7_whose_80 rfl (fun _ _ _ => rfl) rfl rfl rfl ?_
      refine zf_ld (pc' := 82) (v := .inl v2) dX7_whose_81 rfl (fun _ _ _ => rfl) rfl rfl rfl ?_
      refine zf_iv (k := 51) (pc' := 85) (r := [.inl x5]) dX7_whose_82 rfl rfl rfl rfl zf_walk2.1 zf_walk2.2.1 rfl rfl (zr_51 (by omega) zf_walk2 h) (zf_kI (fun x7 m8 h => ?_))
      refine zf_icmp_ge (tgt := 91) (pc' := 88) dX7_whose_85 rfl rfl (fun g => ?_) (fun g => ?_)
      · replace h := h.1 g
        refine zf_ii (y := (v4 + 1)) (L2 := [some (.inr (.inr (1, 0))), none, some (.inl v2), some (.inl v3), some (.inl (v4 + 1))]) (pc' := 94) dX7_whose_91 rfl rfl rfl rfl rfl ?_
        refine zf_goto (tgt := 51) dX7_whose_94 rfl ?_
        exact zf_lo (ih _ _ _ _ h) ⟨rfl, rfl, rfl, rfl, trivial⟩
      · replace h := h.2 g
        refine zf_ld (pc' := 90) (v := .inl v4) dX7_whose_88 rfl (fun _ _ _ => rfl) rfl rfl rfl ?_
        refine zf_st (pc' := 91) (L2 := [some (.inr (.inr (1, 0))), none, some (.inl v2), some (.inl v4), some (.inl v4)]) dX7_whose_90 rfl (fun _ _ _ => rfl) rfl rfl rfl rfl rfl rfl ?_
        refine zf_ii (y := (v4 + 1)) (L2 := [some (.inr (.inr (1, 0))), none, some (.inl v2), some (.inl v4), some (.inl (v4 + 1))]) (pc' := 94) dX7_whose_91 rfl rfl rfl rfl rfl ?_
        refine zf_goto (tgt := 51) dX7_whose_94 rfl ?_
        exact zf_lo (ih _ _ _ _ h) ⟨rfl, rfl, rfl, rfl, trivial⟩
def wp_90 (v1 : Int32) (m : zf_Me) (Q : Int32 → zf_Me → Prop) : Prop := wp_64 3 v1 m (fun b1 m2 => ((b1 = false → wp_109 5 m2 (fun x3 m4 => Q x3 m4)) ∧ (b1 = true → ((¬ ((m2.1 3 5)).toInt = 0 → ((0 ≤ (Int32.toInt v1) ∧ (Int32.toInt v1) < (24 : Int)) ∧ (∃ n51, wq_90_51 v1 Q n51 (m2.1 4 (Int32.toInt v1).toNat) 0 1 m2))) ∧ (((m2.1 3 5)).toInt = 0 → wp_109 5 m2 (fun x9 m10 => Q x9 m10))))))
theorem zr_90 {d : Nat} (hd : 1 ≤ d) {v1 : Int32} {Q : Int32 → zf_Me → Prop} {m : zf_Me} (h : wp_90 v1 m Q) : zf_M d 90 [.inr (.inr (1, 0)), .inl v1] m (zf_I Q) := by
  obtain ⟨e, rfl⟩ : ∃ z, d = z + 1 := ⟨d - 1, by omega⟩
  unfold wp_90 at h
  refine zf_M_of (Nat.le_of_ble_eq_true rfl) zm_90 (L := [some (.inr (.inr (1, 0))), some (.inl v1), none, none, none]) rfl ?_
  refine zf_ld (pc' := 1) (v := .inr (.inr (1, 0))) dX7_whose_0 rfl (fun _ _ _ => rfl) rfl rfl rfl ?_
  refine zf_gfr (pc' := 4) (b := 2) dX7_whose_1 rfl rfl (by decide) rfl rfl ?_
  refine zf_gfr (pc' := 7) (b := 3) dX7_whose_4 rfl rfl zf_walk2.1 zf_walk2.2.1 rfl ?_
  refine zf_ld (pc' := 8) (v := .inl v1) dX7_whose_7 rfl (fun _ _ _ => rfl) rfl rfl rfl ?_
  refine zf_iv (k := 64) (pc' := 11) (r := []) dX7_whose_8 rfl rfl rfl rfl zf_walk2.2.2.1.1 zf_walk2.2.2.1.2.1 rfl rfl (zr_64 (by omega) zf_walk2.2.2.1 h) (zf_kB (fun b1 m2 h => ?_))
  refine zf_ib_eq (tgt := 27) (pc' := 14) dX7_whose_11 rfl rfl (fun g => ?_) (fun g => ?_)
  · replace h := h.1 g
    refine zf_ld (pc' := 28) (v := .inr (.inr (1, 0))) dX7_whose_27 rfl (fun _ _ _ => rfl) rfl rfl rfl ?_
    refine zf_ic (v := 5) (pc' := 29) dX7_whose_28 rfl rfl ?_
    refine zf_iv (k := 109) (pc' := 32) (r := []) dX7_whose_29 rfl rfl rfl rfl (by decide) rfl rfl rfl (zr_109 (by omega) h) (zf_kI (fun x3 m4 h => ?_))
    exact zf_ri dX7_whose_32 rfl h
  · replace h := h.2 g
    refine zf_ld (pc' := 15) (v := .inr (.inr (1, 0))) dX7_whose_14 rfl (fun _ _ _ => rfl) rfl rfl rfl ?_
    refine zf_gfr (pc' := 18) (b := 2) dX7_whose_15 rfl rfl (by decide) rfl rfl ?_
    refine zf_gfr (pc' := 21) (b := 3) dX7_whose_18 rfl rfl zf_walk2.1 zf_walk2.2.1 rfl ?_
    refine zf_gfi (pc' := 24) dX7_whose_21 rfl rfl zf_walk2.2.2.1.1 zf_walk2.2.2.1.2.1 rfl ?_
    refine zf_if_ne (tgt := 33) (pc' := 27) dX7_whose_24 rfl rfl (fun g => ?_) (fun g => ?_)
    · replace h := h.1 g
      refine zf_ld (pc' := 34) (v := .inr (.inr (1, 0))) dX7_whose_33 rfl (fun _ _ _ => rfl) rfl rfl rfl ?_
      refine zf_gfr (pc' := 37) (b := 2) dX7_whose_34 rfl rfl (by decide) rfl rfl ?_
      refine zf_gfr (pc' := 40) (b := 3) dX7_whose_37 rfl rfl zf_walk2.1 zf_walk2.2.1 rfl ?_
      refine zf_gfr (pc' := 43) (b := 4) dX7_whose_40 rfl rfl zf_walk2.2.2.1.1 zf_walk2.2.2.1.2.1 rfl ?_
      refine zf_ld (pc' := 44) (v := .inl v1) dX7_whose_43 rfl (fun _ _ _ => rfl) rfl rfl rfl ?_
      refine zf_ial (pc' := 45) dX7_whose_44 rfl zf_walk2.2.2.1.2.2.1.1 zf_walk2.2.2.1.2.2.1.2 h.1 rfl ?_
      replace h := h.2
      refine zf_st (pc' := 46) (L2 := [some (.inr (.inr (1, 0))), some (.inl v1), some (.inl (m2.1 4 (Int32.toInt v1).toNat)), none, none]) dX7_whose_45 rfl (fun _ _ _ => rfl) rfl rfl rfl rfl rfl rfl ?_
      refine zf_ic (v := 0) (pc' := 47) dX7_whose_46 rfl rfl ?_
      refine zf_st (pc' := 48) (L2 := [some (.inr (.inr (1, 0))), some (.inl v1), some (.inl (m2.1 4 (Int32.toInt v1).toNat)), some (.inl 0), none]) dX7_whose_47 rfl (fun _ _ _ => rfl) rfl rfl rfl rfl rfl rfl ?_
      refine zf_ic (v := 1) (pc' := 49) dX7_whose_48 rfl rfl ?_
      refine zf_st (pc' := 51) (L2 := [some (.inr (.inr (1, 0))), some (.inl v1), some (.inl (m2.1 4 (Int32.toInt v1).toNat)), some (.inl 0), some (.inl 1)]) dX7_whose_49 rfl (fun _ _ _ => rfl) rfl rfl rfl rfl rfl rfl ?_
      obtain ⟨n51, h⟩ := h
      exact zf_lo (zq_90_51 (by omega) n51 _ _ _ _ h) ⟨rfl, rfl, rfl, rfl, trivial⟩
    · replace h := h.2 g
      refine zf_ld (pc' := 28) (v := .inr (.inr (1, 0))) dX7_whose_27 rfl (fun _ _ _ => rfl) rfl rfl rfl ?_
      refine zf_ic (v := 5) (pc' := 29) dX7_whose_28 rfl rfl ?_
      refine zf_iv (k := 109) (pc' := 32) (r := []) dX7_whose_29 rfl rfl rfl rfl (by decide) rfl rfl rfl (zr_109 (by omega) h) (zf_kI (fun x9 m10 h => ?_))
      exact zf_ri dX7_whose_32 rfl h
def zt_91 : zx_MT := (7, yX7_turn, cX7_turn, 5, (some FieldType.int), 2, 0)
theorem zm_91 : zx_m 91 = zt_91 := rfl
theorem dX7_turn_r0 : zdcP cX7_turn 0 [(.iload_n 1, 1), (.invokestatic 236, 3), (.ifCond .ne 10, 3), (.aload_n 0, 1), (.bipush 6, 2), (.invokevirtual 162, 3), (.ireturn, 1), (.iconst (-1), 1), (.istore_n 3, 1), (.aload_n 0, 1), (.getfield 40, 3), (.aload_n 0, 1), (.getfield 23, 3), (.invokevirtual 239, 3), (.iconst 0, 1), (.istore 4, 2)] := zdcA_ok (by decide +kernel)
theorem dX7_turn_0 : decode cX7_turn 0 = .ok (.iload_n 1, 1) := dX7_turn_r0.1
theorem dX7_turn_1 : decode cX7_turn 1 = .ok (.invokestatic 236, 3) := dX7_turn_r0.2.1
theorem dX7_turn_4 : decode cX7_turn 4 = .ok (.ifCond .ne 10, 3) := dX7_turn_r0.2.2.1
theorem dX7_turn_7 : decode cX7_turn 7 = .ok (.aload_n 0, 1) := dX7_turn_r0.2.2.2.1
theorem dX7_turn_8 : decode cX7_turn 8 = .ok (.bipush 6, 2) := dX7_turn_r0.2.2.2.2.1
theorem dX7_turn_10 : decode cX7_turn 10 = .ok (.invokevirtual 162, 3) := dX7_turn_r0.2.2.2.2.2.1
theorem dX7_turn_13 : decode cX7_turn 13 = .ok (.ireturn, 1) := dX7_turn_r0.2.2.2.2.2.2.1
theorem dX7_turn_14 : decode cX7_turn 14 = .ok (.iconst (-1), 1) := dX7_turn_r0.2.2.2.2.2.2.2.1
theorem dX7_turn_15 : decode cX7_turn 15 = .ok (.istore_n 3, 1) := dX7_turn_r0.2.2.2.2.2.2.2.2.1
theorem dX7_turn_16 : decode cX7_turn 16 = .ok (.aload_n 0, 1) := dX7_turn_r0.2.2.2.2.2.2.2.2.2.1
theorem dX7_turn_17 : decode cX7_turn 17 = .ok (.getfield 40, 3) := dX7_turn_r0.2.2.2.2.2.2.2.2.2.2.1
theorem dX7_turn_20 : decode cX7_turn 20 = .ok (.aload_n 0, 1) := dX7_turn_r0.2.2.2.2.2.2.2.2.2.2.2.1
theorem dX7_turn_21 : decode cX7_turn 21 = .ok (.getfield 23, 3) := dX7_turn_r0.2.2.2.2.2.2.2.2.2.2.2.2.1
theorem dX7_turn_24 : decode cX7_turn 24 = .ok (.invokevirtual 239, 3) := dX7_turn_r0.2.2.2.2.2.2.2.2.2.2.2.2.2.1
theorem dX7_turn_27 : decode cX7_turn 27 = .ok (.iconst 0, 1) := dX7_turn_r0.2.2.2.2.2.2.2.2.2.2.2.2.2.2.1
theorem dX7_turn_28 : decode cX7_turn 28 = .ok (.istore 4, 2) := dX7_turn_r0.2.2.2.2.2.2.2.2.2.2.2.2.2.2.2.1
theorem dX7_turn_r30 : zdcP cX7_turn 30 [(.iload 4, 2), (.bipush 60, 2), (.if_icmp .gt 56, 3), (.aload_n 0, 1), (.getfield 40, 3), (.getfield 246, 3), (.invokevirtual 257, 3), (.iload_n 2, 1), (.if_icmp .gt 42, 3), (.aload_n 0, 1), (.getfield 40, 3), (.getfield 246, 3), (.getfield 221, 3), (.aload_n 0, 1), (.getfield 23, 3), (.getfield 221, 3)] := zdcA_ok (by decide +kernel)
theorem dX7_turn_30 : decode cX7_turn 30 = .ok (.iload 4, 2) := dX7_turn_r30.1
theorem dX7_turn_32 : decode cX7_turn 32 = .ok (.bipush 60, 2) := dX7_turn_r30.2.1
theorem dX7_turn_34 : decode cX7_turn 34 = .ok (.if_icmp .gt 56, 3) := dX7_turn_r30.2.2.1
theorem dX7_turn_37 : decode cX7_turn 37 = .ok (.aload_n 0, 1) := dX7_turn_r30.2.2.2.1
theorem dX7_turn_38 : decode cX7_turn 38 = .ok (.getfield 40, 3) := dX7_turn_r30.2.2.2.2.1
theorem dX7_turn_41 : decode cX7_turn 41 = .ok (.getfield 246, 3) := dX7_turn_r30.2.2.2.2.2.1
theorem dX7_turn_44 : decode cX7_turn 44 = .ok (.invokevirtual 257, 3) := dX7_turn_r30.2.2.2.2.2.2.1
theorem dX7_turn_47 : decode cX7_turn 47 = .ok (.iload_n 2, 1) := dX7_turn_r30.2.2.2.2.2.2.2.1
theorem dX7_turn_48 : decode cX7_turn 48 = .ok (.if_icmp .gt 42, 3) := dX7_turn_r30.2.2.2.2.2.2.2.2.1
theorem dX7_turn_51 : decode cX7_turn 51 = .ok (.aload_n 0, 1) := dX7_turn_r30.2.2.2.2.2.2.2.2.2.1
theorem dX7_turn_52 : decode cX7_turn 52 = .ok (.getfield 40, 3) := dX7_turn_r30.2.2.2.2.2.2.2.2.2.2.1
theorem dX7_turn_55 : decode cX7_turn 55 = .ok (.getfield 246, 3) := dX7_turn_r30.2.2.2.2.2.2.2.2.2.2.2.1
theorem dX7_turn_58 : decode cX7_turn 58 = .ok (.getfield 221, 3) := dX7_turn_r30.2.2.2.2.2.2.2.2.2.2.2.2.1
theorem dX7_turn_61 : decode cX7_turn 61 = .ok (.aload_n 0, 1) := dX7_turn_r30.2.2.2.2.2.2.2.2.2.2.2.2.2.1
theorem dX7_turn_62 : decode cX7_turn 62 = .ok (.getfield 23, 3) := dX7_turn_r30.2.2.2.2.2.2.2.2.2.2.2.2.2.2.1
theorem dX7_turn_65 : decode cX7_turn 65 = .ok (.getfield 221, 3) := dX7_turn_r30.2.2.2.2.2.2.2.2.2.2.2.2.2.2.2.1
theorem dX7_turn_r68 : zdcP cX7_turn 68 [(.isub, 1), (.istore_n 3, 1), (.aload_n 0, 1), (.getfield 40, 3), (.iload_n 1, 1), (.invokevirtual 261, 3), (.ifCond .ne 6, 3), (.goto 9, 3), (.iinc 4 1, 3), (.goto (-57), 3), (.iload_n 3, 1), (.ireturn, 1)] := zdcA_ok (by decide +kernel)
theorem dX7_turn_68 : decode cX7_turn 68 = .ok (.isub, 1) := dX7_turn_r68.1
theorem dX7_turn_69 : decode cX7_turn 69 = .ok (.istore_n 3, 1) := dX7_turn_r68.2.1
theorem dX7_turn_70 : decode cX7_turn 70 = .ok (.aload_n 0, 1) := dX7_turn_r68.2.2.1
theorem dX7_turn_71 : decode cX7_turn 71 = .ok (.getfield 40, 3) := dX7_turn_r68.2.2.2.1
theorem dX7_turn_74 : decode cX7_turn 74 = .ok (.iload_n 1, 1) := dX7_turn_r68.2.2.2.2.1
theorem dX7_turn_75 : decode cX7_turn 75 = .ok (.invokevirtual 261, 3) := dX7_turn_r68.2.2.2.2.2.1
theorem dX7_turn_78 : decode cX7_turn 78 = .ok (.ifCond .ne 6, 3) := dX7_turn_r68.2.2.2.2.2.2.1
theorem dX7_turn_81 : decode cX7_turn 81 = .ok (.goto 9, 3) := dX7_turn_r68.2.2.2.2.2.2.2.1
theorem dX7_turn_84 : decode cX7_turn 84 = .ok (.iinc 4 1, 3) := dX7_turn_r68.2.2.2.2.2.2.2.2.1
theorem dX7_turn_87 : decode cX7_turn 87 = .ok (.goto (-57), 3) := dX7_turn_r68.2.2.2.2.2.2.2.2.2.1
theorem dX7_turn_90 : decode cX7_turn 90 = .ok (.iload_n 3, 1) := dX7_turn_r68.2.2.2.2.2.2.2.2.2.2.1
theorem dX7_turn_91 : decode cX7_turn 91 = .ok (.ireturn, 1) := dX7_turn_r68.2.2.2.2.2.2.2.2.2.2.2.1
def wq_91_30 (v1 : Int32) (v2 : Int32) (Q : Int32 → zf_Me → Prop) : Nat → Int32 → Int32 → zf_Me → Prop
  | 0, _, _, _ => False
  | n + 1, v3, v4, m => ((v4.toInt > 60 → Q v3 m) ∧ (v4.toInt ≤ 60 → wp_50 19 3 20 m (fun x5 m6 => ((x5.toInt > v2.toInt → Q v3 m6) ∧ (x5.toInt ≤ v2.toInt → wp_9 v1 m6 (fun b7 m8 => ((b7 = true → wq_91_30 v1 v2 Q n ((m6.1 19 10) - (m6.1 2 10)) (v4 + 1) m8) ∧ (b7 = false → Q ((m6.1 19 10) - (m6.1 2 10)) m8))))))))
theorem zq_91_30 {d : Nat} (hd : 5 ≤ d) {v1 : Int32} {v2 : Int32} {Q : Int32 → zf_Me → Prop} : ∀ (n : Nat) (v3 : Int32) (v4 : Int32) (m : zf_Me), wq_91_30 v1 v2 Q n v3 v4 m → zf_W none 0 0 d zt_91 30 [some (.inr (.inr (1, 0))), some (.inl v1), some (.inl v2), some (.inl v3), some (.inl v4)] [] m (zf_I Q) := by
  obtain ⟨e, rfl⟩ : ∃ z, d = z + 1 := ⟨d - 1, by omega⟩
  intro n
  induction n with
  | zero =>
    intro v3 v4 m h
    exact h.elim
  | succ n ih =>
    intro v3 v4 m h
    unfold wq_91_30 at h
    refine zf_ld (pc' := 32) (v := .inl v4) dX7_turn_30 rfl (fun _ _ _ => rfl) rfl rfl rfl ?_
    refine zf_bi (v := 60) (pc' := 34) dX7_turn_32 rfl rfl ?_
    refine zf_icmp_gt (tgt := 90) (pc' := 37) dX7_turn_34 rfl rfl (fun g => ?_) (fun g => ?_)
    · replace h := h.1 g
      refine zf_ld (pc' := 91) (v := .inl v3) dX7_turn_90 rfl (fun _ _ _ => rfl) rfl rfl rfl ?_
      exact zf_ri dX7_turn_91 rfl h
    · replace h := h.2 g
      refine zf_ld (pc' := 38) (v := .inr (.inr (1, 0))) dX7_turn_37 rfl (fun _ _ _ => rfl) rfl rfl rfl ?_
      refine zf_gfr (pc' := 41) (b := 18) dX7_turn_38 rfl rfl (by decide) rfl rfl ?_
      refine zf_gfr (pc' := 44) (b := 19) dX7_turn_41 rfl rfl (by decide) rfl rfl ?_
      refine zf_iv (k := 50) (pc' := 47) (r := []) dX7_turn_44 rfl rfl rfl rfl zf_walk19.1 zf_walk19.2.1 rfl rfl (zr_50 (by omega) zf_walk19 h) (zf_kI (fun x5 m6 h => ?_))
      refine zf_ld (pc' := 48) (v := .inl v2) dX7_turn_47 rfl (fun _ _ _ => rfl) rfl rfl rfl ?_
      refine zf_icmp_gt (tgt := 90) (pc' := 51) dX7_turn_48 rfl rfl (fun g => ?_) (fun g => ?_)
      · replace h := h.1 g
        refine zf_ld (pc' := 91) (v := .inl v3) dX7_turn_90 rfl (fun _ _ _ => rfl) rfl rfl rfl ?_
        exact zf_ri dX7_turn_91 rfl h
      · replace h := h.2 g
        refine zf_ld (pc' := 52) (v := .inr (.inr (1, 0))) dX7_turn_51 rfl (fun _ _ _ => rfl) rfl rfl rfl ?_
        refine zf_gfr (pc' := 55) (b := 18) dX7_turn_52 rfl rfl (by decide) rfl rfl ?_
        refine zf_gfr (pc' := 58) (b := 19) dX7_turn_55 rfl rfl (by decide) rfl rfl ?_
        refine zf_gfi (pc' := 61) dX7_turn_58 rfl rfl zf_walk19.1 zf_walk19.2.1 rfl ?_
        refine zf_ld (pc' := 62) (v := .inr (.inr (1, 0))) dX7_turn_61 rfl (fun _ _ _ => rfl) rfl rfl rfl ?_
        refine zf_gfr (pc' := 65) (b := 2) dX7_turn_62 rfl rfl (by decide) rfl rfl ?_
        refine zf_gfi (pc' := 68) dX7_turn_65 rfl rfl zf_walk2.1 zf_walk2.2.1 rfl ?_
        refine zf_in (pc' := 69) (S' := [.inl ((m6.1 19 10) - (m6.1 2 10))]) dX7_turn_68 rfl (fun _ _ _ => rfl) ?_
        refine zf_st (pc' := 70) (L2 := [some (.inr (.inr (1, 0))), some (.inl v1), some (.inl v2), some (.inl ((m6.1 19 10) - (m6.1 2 10))), some (.inl v4)]) dX7_turn_69 rfl (fun _ _ _ => rfl) rfl rfl rfl rfl rfl rfl ?_
        refine zf_ld (pc' := 71) (v := .inr (.inr (1, 0))) dX7_turn_70 rfl (fun _ _ _ => rfl) rfl rfl rfl ?_
        refine zf_gfr (pc' := 74) (b := 18) dX7_turn_71 rfl rfl (by decide) rfl rfl ?_
        refine zf_ld (pc' := 75) (v := .inl v1) dX7_turn_74 rfl (fun _ _ _ => rfl) rfl rfl rfl ?_
        refine zf_iv (k := 9) (pc' := 78) (r := []) dX7_turn_75 rfl rfl rfl rfl (by decide) rfl rfl rfl (zr_9 (by omega) h) (zf_kB (fun b7 m8 h => ?_))
        refine zf_ib_ne (tgt := 84) (pc' := 81) dX7_turn_78 rfl rfl (fun g => ?_) (fun g => ?_)
        · replace h := h.1 g
          refine zf_ii (y := (v4 + 1)) (L2 := [some (.inr (.inr (1, 0))), some (.inl v1), some (.inl v2), some (.inl ((m6.1 19 10) - (m6.1 2 10))), some (.inl (v4 + 1))]) (pc' := 87) dX7_turn_84 rfl rfl rfl rfl rfl ?_
          refine zf_goto (tgt := 30) dX7_turn_87 rfl ?_
          exact zf_lo (ih _ _ _ h) ⟨rfl, rfl, rfl, rfl, rfl, trivial⟩
        · replace h := h.2 g
          refine zf_goto (tgt := 90) dX7_turn_81 rfl ?_
          refine zf_ld (pc' := 91) (v := .inl ((m6.1 19 10) - (m6.1 2 10))) dX7_turn_90 rfl (fun _ _ _ => rfl) rfl rfl rfl ?_
          exact zf_ri dX7_turn_91 rfl h
def wp_91 (v1 : Int32) (v2 : Int32) (m : zf_Me) (Q : Int32 → zf_Me → Prop) : Prop := wp_116 v1 m (fun b1 m2 => ((b1 = true → wp_7 2 3 8 m2 (fun m4 => (∃ n30, wq_91_30 v1 v2 Q n30 (-1) 0 m4))) ∧ (b1 = false → wp_110 6 m2 (fun x9 m10 => Q x9 m10))))
theorem zr_91 {d : Nat} (hd : 5 ≤ d) {v1 : Int32} {v2 : Int32} {Q : Int32 → zf_Me → Prop} {m : zf_Me} (h : wp_91 v1 v2 m Q) : zf_M d 91 [.inr (.inr (1, 0)), .inl v1, .inl v2] m (zf_I Q) := by
  obtain ⟨e, rfl⟩ : ∃ z, d = z + 1 := ⟨d - 1, by omega⟩
  unfold wp_91 at h
  refine zf_M_of (Nat.le_of_ble_eq_true rfl) zm_91 (L := [some (.inr (.inr (1, 0))), some (.inl v1), some (.inl v2), none, none]) rfl ?_
  refine zf_ld (pc' := 1) (v := .inl v1) dX7_turn_0 rfl (fun _ _ _ => rfl) rfl rfl rfl ?_
  refine zf_is (k := 116) (pc' := 4) (r := []) dX7_turn_1 rfl rfl rfl rfl rfl (zr_116 (by omega) h) (zf_kB (fun b1 m2 h => ?_))
  refine zf_ib_ne (tgt := 14) (pc' := 7) dX7_turn_4 rfl rfl (fun g => ?_) (fun g => ?_)
  · replace h := h.1 g
    refine zf_ic (v := (-1)) (pc' := 15) dX7_turn_14 rfl rfl ?_
    refine zf_st (pc' := 16) (L2 := [some (.inr (.inr (1, 0))), some (.inl v1), some (.inl v2), some (.inl (-1)), none]) dX7_turn_15 rfl (fun _ _ _ => rfl) rfl rfl rfl rfl rfl rfl ?_
    refine zf_ld (pc' := 17) (v := .inr (.inr (1, 0))) dX7_turn_16 rfl (fun _ _ _ => rfl) rfl rfl rfl ?_
    refine zf_gfr (pc' := 20) (b := 18) dX7_turn_17 rfl rfl (by decide) rfl rfl ?_
    refine zf_ld (pc' := 21) (v := .inr (.inr (1, 0))) dX7_turn_20 rfl (fun _ _ _ => rfl) rfl rfl rfl ?_
    refine zf_gfr (pc' := 24) (b := 2) dX7_turn_21 rfl rfl (by decide) rfl rfl ?_
    refine zf_iv (k := 7) (pc' := 27) (r := []) dX7_turn_24 rfl rfl rfl rfl (by decide) rfl rfl rfl (zr_7 (by omega) zf_walk2 h) (zf_kO (fun m4 h => ?_))
    refine zf_ic (v := 0) (pc' := 28) dX7_turn_27 rfl rfl ?_
    refine zf_st (pc' := 30) (L2 := [some (.inr (.inr (1, 0))), some (.inl v1), some (.inl v2), some (.inl (-1)), some (.inl 0)]) dX7_turn_28 rfl (fun _ _ _ => rfl) rfl rfl rfl rfl rfl rfl ?_
    obtain ⟨n30, h⟩ := h
    exact zf_lo (zq_91_30 (by omega) n30 _ _ _ h) ⟨rfl, rfl, rfl, rfl, rfl, trivial⟩
  · replace h := h.2 g
    refine zf_ld (pc' := 8) (v := .inr (.inr (1, 0))) dX7_turn_7 rfl (fun _ _ _ => rfl) rfl rfl rfl ?_
    refine zf_bi (v := 6) (pc' := 10) dX7_turn_8 rfl rfl ?_
    refine zf_iv (k := 110) (pc' := 13) (r := []) dX7_turn_10 rfl rfl rfl rfl (by decide) rfl rfl rfl (zr_110 (by omega) h) (zf_kI (fun x9 m10 h => ?_))
    exact zf_ri dX7_turn_13 rfl h
def zt_92 : zx_MT := (7, yX7_pays, cX7_pays, 4, (some FieldType.int), 1, 0)
theorem zm_92 : zx_m 92 = zt_92 := rfl
theorem dX7_pays_r0 : zdcP cX7_pays 0 [(.iload_n 1, 1), (.invokestatic 236, 3), (.ifCond .ne 10, 3), (.aload_n 0, 1), (.bipush 6, 2), (.invokevirtual 82, 3), (.ireturn, 1), (.aload_n 0, 1), (.getfield 23, 3), (.bipush 9, 2), (.invokevirtual 208, 3), (.ifCond .ne 5, 3), (.iconst 0, 1), (.ireturn, 1), (.aload_n 0, 1), (.getfield 40, 3)] := zdcA_ok (by decide +kernel)
theorem dX7_pays_0 : decode cX7_pays 0 = .ok (.iload_n 1, 1) := dX7_pays_r0.1
theorem dX7_pays_1 : decode cX7_pays 1 = .ok (.invokestatic 236, 3) := dX7_pays_r0.2.1
theorem dX7_pays_4 : decode cX7_pays 4 = .ok (.ifCond .ne 10, 3) := dX7_pays_r0.2.2.1
theorem dX7_pays_7 : decode cX7_pays 7 = .ok (.aload_n 0, 1) := dX7_pays_r0.2.2.2.1
theorem dX7_pays_8 : decode cX7_pays 8 = .ok (.bipush 6, 2) := dX7_pays_r0.2.2.2.2.1
theorem dX7_pays_10 : decode cX7_pays 10 = .ok (.invokevirtual 82, 3) := dX7_pays_r0.2.2.2.2.2.1
theorem dX7_pays_13 : decode cX7_pays 13 = .ok (.ireturn, 1) := dX7_pays_r0.2.2.2.2.2.2.1
theorem dX7_pays_14 : decode cX7_pays 14 = .ok (.aload_n 0, 1) := dX7_pays_r0.2.2.2.2.2.2.2.1
theorem dX7_pays_15 : decode cX7_pays 15 = .ok (.getfield 23, 3) := dX7_pays_r0.2.2.2.2.2.2.2.2.1
theorem dX7_pays_18 : decode cX7_pays 18 = .ok (.bipush 9, 2) := dX7_pays_r0.2.2.2.2.2.2.2.2.2.1
theorem dX7_pays_20 : decode cX7_pays 20 = .ok (.invokevirtual 208, 3) := dX7_pays_r0.2.2.2.2.2.2.2.2.2.2.1
theorem dX7_pays_23 : decode cX7_pays 23 = .ok (.ifCond .ne 5, 3) := dX7_pays_r0.2.2.2.2.2.2.2.2.2.2.2.1
theorem dX7_pays_26 : decode cX7_pays 26 = .ok (.iconst 0, 1) := dX7_pays_r0.2.2.2.2.2.2.2.2.2.2.2.2.1
theorem dX7_pays_27 : decode cX7_pays 27 = .ok (.ireturn, 1) := dX7_pays_r0.2.2.2.2.2.2.2.2.2.2.2.2.2.1
theorem dX7_pays_28 : decode cX7_pays 28 = .ok (.aload_n 0, 1) := dX7_pays_r0.2.2.2.2.2.2.2.2.2.2.2.2.2.2.1
theorem dX7_pays_29 : decode cX7_pays 29 = .ok (.getfield 40, 3) := dX7_pays_r0.2.2.2.2.2.2.2.2.2.2.2.2.2.2.2.1
theorem dX7_pays_r32 : zdcP cX7_pays 32 [(.aload_n 0, 1), (.getfield 23, 3), (.invokevirtual 239, 3), (.aload_n 0, 1), (.getfield 40, 3), (.iload_n 1, 1), (.invokevirtual 242, 3), (.aload_n 0, 1), (.getfield 40, 3), (.getfield 246, 3), (.getfield 221, 3), (.istore_n 2, 1), (.aload_n 0, 1), (.getfield 40, 3), (.getfield 247, 3), (.istore_n 3, 1)] := zdcA_ok (by decide +kernel)
theorem dX7_pays_32 : decode cX7_pays 32 = .ok (.aload_n 0, 1) := dX7_pays_r32.1
theorem dX7_pays_33 : decode cX7_pays 33 = .ok (.getfield 23, 3) := dX7_pays_r32.2.1
theorem dX7_pays_36 : decode cX7_pays 36 = .ok (.invokevirtual 239, 3) := dX7_pays_r32.2.2.1
theorem dX7_pays_39 : decode cX7_pays 39 = .ok (.aload_n 0, 1) := dX7_pays_r32.2.2.2.1
theorem dX7_pays_40 : decode cX7_pays 40 = .ok (.getfield 40, 3) := dX7_pays_r32.2.2.2.2.1
theorem dX7_pays_43 : decode cX7_pays 43 = .ok (.iload_n 1, 1) := dX7_pays_r32.2.2.2.2.2.1
theorem dX7_pays_44 : decode cX7_pays 44 = .ok (.invokevirtual 242, 3) := dX7_pays_r32.2.2.2.2.2.2.1
theorem dX7_pays_47 : decode cX7_pays 47 = .ok (.aload_n 0, 1) := dX7_pays_r32.2.2.2.2.2.2.2.1
theorem dX7_pays_48 : decode cX7_pays 48 = .ok (.getfield 40, 3) := dX7_pays_r32.2.2.2.2.2.2.2.2.1
theorem dX7_pays_51 : decode cX7_pays 51 = .ok (.getfield 246, 3) := dX7_pays_r32.2.2.2.2.2.2.2.2.2.1
theorem dX7_pays_54 : decode cX7_pays 54 = .ok (.getfield 221, 3) := dX7_pays_r32.2.2.2.2.2.2.2.2.2.2.1
theorem dX7_pays_57 : decode cX7_pays 57 = .ok (.istore_n 2, 1) := dX7_pays_r32.2.2.2.2.2.2.2.2.2.2.2.1
theorem dX7_pays_58 : decode cX7_pays 58 = .ok (.aload_n 0, 1) := dX7_pays_r32.2.2.2.2.2.2.2.2.2.2.2.2.1
theorem dX7_pays_59 : decode cX7_pays 59 = .ok (.getfield 40, 3) := dX7_pays_r32.2.2.2.2.2.2.2.2.2.2.2.2.2.1
theorem dX7_pays_62 : decode cX7_pays 62 = .ok (.getfield 247, 3) := dX7_pays_r32.2.2.2.2.2.2.2.2.2.2.2.2.2.2.1
theorem dX7_pays_65 : decode cX7_pays 65 = .ok (.istore_n 3, 1) := dX7_pays_r32.2.2.2.2.2.2.2.2.2.2.2.2.2.2.2.1
theorem dX7_pays_r66 : zdcP cX7_pays 66 [(.aload_n 0, 1), (.getfield 40, 3), (.aload_n 0, 1), (.getfield 23, 3), (.invokevirtual 239, 3), (.aload_n 0, 1), (.getfield 40, 3), (.getfield 246, 3), (.bipush 9, 2), (.invokevirtual 264, 3), (.aload_n 0, 1), (.getfield 40, 3), (.iload_n 1, 1), (.invokevirtual 242, 3), (.aload_n 0, 1), (.getfield 40, 3)] := zdcA_ok (by decide +kernel)
theorem dX7_pays_66 : decode cX7_pays 66 = .ok (.aload_n 0, 1) := dX7_pays_r66.1
theorem dX7_pays_67 : decode cX7_pays 67 = .ok (.getfield 40, 3) := dX7_pays_r66.2.1
theorem dX7_pays_70 : decode cX7_pays 70 = .ok (.aload_n 0, 1) := dX7_pays_r66.2.2.1
theorem dX7_pays_71 : decode cX7_pays 71 = .ok (.getfield 23, 3) := dX7_pays_r66.2.2.2.1
theorem dX7_pays_74 : decode cX7_pays 74 = .ok (.invokevirtual 239, 3) := dX7_pays_r66.2.2.2.2.1
theorem dX7_pays_77 : decode cX7_pays 77 = .ok (.aload_n 0, 1) := dX7_pays_r66.2.2.2.2.2.1
theorem dX7_pays_78 : decode cX7_pays 78 = .ok (.getfield 40, 3) := dX7_pays_r66.2.2.2.2.2.2.1
theorem dX7_pays_81 : decode cX7_pays 81 = .ok (.getfield 246, 3) := dX7_pays_r66.2.2.2.2.2.2.2.1
theorem dX7_pays_84 : decode cX7_pays 84 = .ok (.bipush 9, 2) := dX7_pays_r66.2.2.2.2.2.2.2.2.1
theorem dX7_pays_86 : decode cX7_pays 86 = .ok (.invokevirtual 264, 3) := dX7_pays_r66.2.2.2.2.2.2.2.2.2.1
theorem dX7_pays_89 : decode cX7_pays 89 = .ok (.aload_n 0, 1) := dX7_pays_r66.2.2.2.2.2.2.2.2.2.2.1
theorem dX7_pays_90 : decode cX7_pays 90 = .ok (.getfield 40, 3) := dX7_pays_r66.2.2.2.2.2.2.2.2.2.2.2.1
theorem dX7_pays_93 : decode cX7_pays 93 = .ok (.iload_n 1, 1) := dX7_pays_r66.2.2.2.2.2.2.2.2.2.2.2.2.1
theorem dX7_pays_94 : decode cX7_pays 94 = .ok (.invokevirtual 242, 3) := dX7_pays_r66.2.2.2.2.2.2.2.2.2.2.2.2.2.1
theorem dX7_pays_97 : decode cX7_pays 97 = .ok (.aload_n 0, 1) := dX7_pays_r66.2.2.2.2.2.2.2.2.2.2.2.2.2.2.1
theorem dX7_pays_98 : decode cX7_pays 98 = .ok (.getfield 40, 3) := dX7_pays_r66.2.2.2.2.2.2.2.2.2.2.2.2.2.2.2.1
theorem dX7_pays_r101 : zdcP cX7_pays 101 [(.getfield 246, 3), (.getfield 221, 3), (.aload_n 0, 1), (.getfield 40, 3), (.getfield 247, 3), (.iload_n 2, 1), (.iload_n 3, 1), (.invokestatic 253, 3), (.ifCond .eq 7, 3), (.iconst 1, 1), (.goto 4, 3), (.iconst 0, 1), (.ireturn, 1)] := zdcA_ok (by decide +kernel)
theorem dX7_pays_101 : decode cX7_pays 101 = .ok (.getfield 246, 3) := dX7_pays_r101.1
theorem dX7_pays_104 : decode cX7_pays 104 = .ok (.getfield 221, 3) := dX7_pays_r101.2.1
theorem dX7_pays_107 : decode cX7_pays 107 = .ok (.aload_n 0, 1) := dX7_pays_r101.2.2.1
theorem dX7_pays_108 : decode cX7_pays 108 = .ok (.getfield 40, 3) := dX7_pays_r101.2.2.2.1
theorem dX7_pays_111 : decode cX7_pays 111 = .ok (.getfield 247, 3) := dX7_pays_r101.2.2.2.2.1
theorem dX7_pays_114 : decode cX7_pays 114 = .ok (.iload_n 2, 1) := dX7_pays_r101.2.2.2.2.2.1
theorem dX7_pays_115 : decode cX7_pays 115 = .ok (.iload_n 3, 1) := dX7_pays_r101.2.2.2.2.2.2.1
theorem dX7_pays_116 : decode cX7_pays 116 = .ok (.invokestatic 253, 3) := dX7_pays_r101.2.2.2.2.2.2.2.1
theorem dX7_pays_119 : decode cX7_pays 119 = .ok (.ifCond .eq 7, 3) := dX7_pays_r101.2.2.2.2.2.2.2.2.1
theorem dX7_pays_122 : decode cX7_pays 122 = .ok (.iconst 1, 1) := dX7_pays_r101.2.2.2.2.2.2.2.2.2.1
theorem dX7_pays_123 : decode cX7_pays 123 = .ok (.goto 4, 3) := dX7_pays_r101.2.2.2.2.2.2.2.2.2.2.1
theorem dX7_pays_126 : decode cX7_pays 126 = .ok (.iconst 0, 1) := dX7_pays_r101.2.2.2.2.2.2.2.2.2.2.2.1
theorem dX7_pays_127 : decode cX7_pays 127 = .ok (.ireturn, 1) := dX7_pays_r101.2.2.2.2.2.2.2.2.2.2.2.2.1
def wp_92 (v1 : Int32) (m : zf_Me) (Q : Int32 → zf_Me → Prop) : Prop := wp_116 v1 m (fun b1 m2 => ((b1 = true → wp_52 2 3 8 9 m2 (fun b3 m4 => ((b3 = true → wp_7 2 3 8 m4 (fun m6 => wp_8 v1 m6 (fun m8 => wp_7 2 3 8 m8 (fun m10 => wp_56 19 3 20 9 m10 (fun m12 => wp_8 v1 m12 (fun m14 => wp_119 (m14.1 19 10) (m14.1 18 3) (m8.1 19 10) (m8.1 18 3) m14 (fun b15 m16 => ((b15 = false → Q 0 m16) ∧ (b15 = true → Q 1 m16))))))))) ∧ (b3 = false → Q 0 m4)))) ∧ (b1 = false → wp_109 6 m2 (fun x17 m18 => Q x17 m18))))
theorem zr_92 {d : Nat} (hd : 6 ≤ d) {v1 : Int32} {Q : Int32 → zf_Me → Prop} {m : zf_Me} (h : wp_92 v1 m Q) : zf_M d 92 [.inr (.inr (1, 0)), .inl v1] m (zf_I Q) := by
  obtain ⟨e, rfl⟩ : ∃ z, d = z + 1 := ⟨d - 1, by omega⟩
  unfold wp_92 at h
  refine zf_M_of (Nat.le_of_ble_eq_true rfl) zm_92 (L := [some (.inr (.inr (1, 0))), some (.inl v1), none, none]) rfl ?_
  refine zf_ld (pc' := 1) (v := .inl v1) dX7_pays_0 rfl (fun _ _ _ => rfl) rfl rfl rfl ?_
  refine zf_is (k := 116) (pc' := 4) (r := []) dX7_pays_1 rfl rfl rfl rfl rfl (zr_116 (by omega) h) (zf_kB (fun b1 m2 h => ?_))
  refine zf_ib_ne (tgt := 14) (pc' := 7) dX7_pays_4 rfl rfl (fun g => ?_) (fun g => ?_)
  · replace h := h.1 g
    refine zf_ld (pc' := 15) (v := .inr (.inr (1, 0))) dX7_pays_14 rfl (fun _ _ _ => rfl) rfl rfl rfl ?_
    refine zf_gfr (pc' := 18) (b := 2) dX7_pays_15 rfl rfl (by decide) rfl rfl ?_
    refine zf_bi (v := 9) (pc' := 20) dX7_pays_18 rfl rfl ?_
    refine zf_iv (k := 52) (pc' := 23) (r := []) dX7_pays_20 rfl rfl rfl rfl zf_walk2.1 zf_walk2.2.1 rfl rfl (zr_52 (by omega) zf_walk2 h) (zf_kB (fun b3 m4 h => ?_))
    refine zf_ib_ne (tgt := 28) (pc' := 26) dX7_pays_23 rfl rfl (fun g => ?_) (fun g => ?_)
    · replace h := h.1 g
      refine zf_ld (pc' := 29) (v := .inr (.inr (1, 0))) dX7_pays_28 rfl (fun _ _ _ => rfl) rfl rfl rfl ?_
      refine zf_gfr (pc' := 32) (b := 18) dX7_pays_29 rfl rfl (by decide) rfl rfl ?_
      refine zf_ld (pc' := 33) (v := .inr (.inr (1, 0))) dX7_pays_32 rfl (fun _ _ _ => rfl) rfl rfl rfl ?_
      refine zf_gfr (pc' := 36) (b := 2) dX7_pays_33 rfl rfl (by decide) rfl rfl ?_
      refine zf_iv (k := 7) (pc' := 39) (r := []) dX7_pays_36 rfl rfl rfl rfl (by decide) rfl rfl rfl (zr_7 (by omega) zf_walk2 h) (zf_kO (fun m6 h => ?_))
      refine zf_ld (pc' := 40) (v := .inr (.inr (1, 0))) dX7_pays_39 rfl (fun _ _ _ => rfl) rfl rfl rfl ?_
      refine zf_gfr (pc' := 43) (b := 18) dX7_pays_40 rfl rfl (by decide) rfl rfl ?_
      refine zf_ld (pc' := 44) (v := .inl v1) dX7_pays_43 rfl (fun _ _ _ => rfl) rfl rfl rfl ?_
      refine zf_iv (k := 8) (pc' := 47) (r := []) dX7_pays_44 rfl rfl rfl rfl (by decide) rfl rfl rfl (zr_8 (by omega) h) (zf_kO (fun m8 h => ?_))
      refine zf_ld (pc' := 48) (v := .inr (.inr (1, 0))) dX7_pays_47 rfl (fun _ _ _ => rfl) rfl rfl rfl ?_
      refine zf_gfr (pc' := 51) (b := 18) dX7_pays_48 rfl rfl (by decide) rfl rfl ?_
      refine zf_gfr (pc' := 54) (b := 19) dX7_pays_51 rfl rfl (by decide) rfl rfl ?_
      refine zf_gfi (pc' := 57) dX7_pays_54 rfl rfl zf_walk19.1 zf_walk19.2.1 rfl ?_
      refine zf_st (pc' := 58) (L2 := [some (.inr (.inr (1, 0))), some (.inl v1), some (.inl (m8.1 19 10)), none]) dX7_pays_57 rfl (fun _ _ _ => rfl) rfl rfl rfl rfl rfl rfl ?_
      refine zf_ld (pc' := 59) (v := .inr (.inr (1, 0))) dX7_pays_58 rfl (fun _ _ _ => rfl) rfl rfl rfl ?_
      refine zf_gfr (pc' := 62) (b := 18) dX7_pays_59 rfl rfl (by decide) rfl rfl ?_
      refine zf_gfi (pc' := 65) dX7_pays_62 rfl rfl (by decide) rfl rfl ?_
      refine zf_st (pc' := 66) (L2 := [some (.inr (.inr (1, 0))), some (.inl v1), some (.inl (m8.1 19 10)), some (.inl (m8.1 18 3))]) dX7_pays_65 rfl (fun _ _ _ => rfl) rfl rfl rfl rfl rfl rfl ?_
      refine zf_ld (pc' := 67) (v := .inr (.inr (1, 0))) dX7_pays_66 rfl (fun _ _ _ => rfl) rfl rfl rfl ?_
      refine zf_gfr (pc' := 70) (b := 18) dX7_pays_67 rfl rfl (by decide) rfl rfl ?_
      refine zf_ld (pc' := 71) (v := .inr (.inr (1, 0))) dX7_pays_70 rfl (fun _ _ _ => rfl) rfl rfl rfl ?_
      refine zf_gfr (pc' := 74) (b := 2) dX7_pays_71 rfl rfl (by decide) rfl rfl ?_
      refine zf_iv (k := 7) (pc' := 77) (r := []) dX7_pays_74 rfl rfl rfl rfl (by decide) rfl rfl rfl (zr_7 (by omega) zf_walk2 h) (zf_kO (fun m10 h => ?_))
      refine zf_ld (pc' := 78) (v := .inr (.inr (1, 0))) dX7_pays_77 rfl (fun _ _ _ => rfl) rfl rfl rfl ?_
      refine zf_gfr (pc' := 81) (b := 18) dX7_pays_78 rfl rfl (by decide) rfl rfl ?_
      refine zf_gfr (pc' := 84) (b := 19) dX7_pays_81 rfl rfl (by decide) rfl rfl ?_
      refine zf_bi (v := 9) (pc' := 86) dX7_pays_84 rfl rfl ?_
      refine zf_iv (k := 56) (pc' := 89) (r := []) dX7_pays_86 rfl rfl rfl rfl zf_walk19.1 zf_walk19.2.1 rfl rfl (zr_56 (by omega) zf_walk19 h) (zf_kO (fun m12 h => ?_))
      refine zf_ld (pc' := 90) (v := .inr (.inr (1, 0))) dX7_pays_89 rfl (fun _ _ _ => rfl) rfl rfl rfl ?_
      refine zf_gfr (pc' := 93) (b := 18) dX7_pays_90 rfl rfl (by decide) rfl rfl ?_
      refine zf_ld (pc' := 94) (v := .inl v1) dX7_pays_93 rfl (fun _ _ _ => rfl) rfl rfl rfl ?_
      refine zf_iv (k := 8) (pc' := 97) (r := []) dX7_pays_94 rfl rfl rfl rfl (by decide) rfl rfl rfl (zr_8 (by omega) h) (zf_kO (fun m14 h => ?_))
      refine zf_ld (pc' := 98) (v := .inr (.inr (1, 0))) dX7_pays_97 rfl (fun _ _ _ => rfl) rfl rfl rfl ?_
      refine zf_gfr (pc' := 101) (b := 18) dX7_pays_98 rfl rfl (by decide) rfl rfl ?_
      refine zf_gfr (pc' := 104) (b := 19) dX7_pays_101 rfl rfl (by decide) rfl rfl ?_
      refine zf_gfi (pc' := 107) dX7_pays_104 rfl rfl zf_walk19.1 zf_walk19.2.1 rfl ?_
      refine zf_ld (pc' := 108) (v := .inr (.inr (1, 0))) dX7_pays_107 rfl (fun _ _ _ => rfl) rfl rfl rfl ?_
      refine zf_gfr (pc' := 111) (b := 18) dX7_pays_108 rfl rfl (by decide) rfl rfl ?_
      refine zf_gfi (pc' := 114) dX7_pays_111 rfl rfl (by decide) rfl rfl ?_
      refine zf_ld (pc' := 115) (v := .inl (m8.1 19 10)) dX7_pays_114 rfl (fun _ _ _ => rfl) rfl rfl rfl ?_
      refine zf_ld (pc' := 116) (v := .inl (m8.1 18 3)) dX7_pays_115 rfl (fun _ _ _ => rfl) rfl rfl rfl ?_
      refine zf_is (k := 119) (pc' := 119) (r := []) dX7_pays_116 rfl rfl rfl rfl rfl (zr_119 (by omega) h) (zf_kB (fun b15 m16 h => ?_))
      refine zf_ib_eq (tgt := 126) (pc' := 122) dX7_pays_119 rfl rfl (fun g => ?_) (fun g => ?_)
      · replace h := h.1 g
        refine zf_ic (v := 0) (pc' := 127) dX7_pays_126 rfl rfl ?_
        exact zf_ri dX7_pays_127 rfl h
      · replace h := h.2 g
        refine zf_ic (v := 1) (pc' := 123) dX7_pays_122 rfl rfl ?_
        refine zf_goto (tgt := 127) dX7_pays_123 rfl ?_
        exact zf_ri dX7_pays_127 rfl h
    · replace h := h.2 g
      refine zf_ic (v := 0) (pc' := 27) dX7_pays_26 rfl rfl ?_
      exact zf_ri dX7_pays_27 rfl h
  · replace h := h.2 g
    refine zf_ld (pc' := 8) (v := .inr (.inr (1, 0))) dX7_pays_7 rfl (fun _ _ _ => rfl) rfl rfl rfl ?_
    refine zf_bi (v := 6) (pc' := 10) dX7_pays_8 rfl rfl ?_
    refine zf_iv (k := 109) (pc' := 13) (r := []) dX7_pays_10 rfl rfl rfl rfl (by decide) rfl rfl rfl (zr_109 (by omega) h) (zf_kI (fun x17 m18 h => ?_))
    exact zf_ri dX7_pays_13 rfl h
def zt_93 : zx_MT := (7, yX7_bagged, cX7_bagged, 6, (some FieldType.int), 1, 0)
theorem zm_93 : zx_m 93 = zt_93 := rfl
theorem dX7_bagged_r0 : zdcP cX7_bagged 0 [(.iload_n 1, 1), (.invokestatic 236, 3), (.ifCond .ne 10, 3), (.aload_n 0, 1), (.bipush 6, 2), (.invokevirtual 162, 3), (.ireturn, 1), (.iconst (-1), 1), (.istore_n 2, 1), (.iconst (-1), 1), (.istore_n 3, 1), (.iconst 0, 1), (.istore 4, 2), (.iconst (-1), 1), (.istore 5, 2), (.iload 5, 2)] := zdcA_ok (by decide +kernel)
theorem dX7_bagged_0 : decode cX7_bagged 0 = .ok (.iload_n 1, 1) := dX7_bagged_r0.1
theorem dX7_bagged_1 : decode cX7_bagged 1 = .ok (.invokestatic 236, 3) := dX7_bagged_r0.2.1
theorem dX7_bagged_4 : decode cX7_bagged 4 = .ok (.ifCond .ne 10, 3) := dX7_bagged_r0.2.2.1
theorem dX7_bagged_7 : decode cX7_bagged 7 = .ok (.aload_n 0, 1) := dX7_bagged_r0.2.2.2.1
theorem dX7_bagged_8 : decode cX7_bagged 8 = .ok (.bipush 6, 2) := dX7_bagged_r0.2.2.2.2.1
theorem dX7_bagged_10 : decode cX7_bagged 10 = .ok (.invokevirtual 162, 3) := dX7_bagged_r0.2.2.2.2.2.1
theorem dX7_bagged_13 : decode cX7_bagged 13 = .ok (.ireturn, 1) := dX7_bagged_r0.2.2.2.2.2.2.1
theorem dX7_bagged_14 : decode cX7_bagged 14 = .ok (.iconst (-1), 1) := dX7_bagged_r0.2.2.2.2.2.2.2.1
theorem dX7_bagged_15 : decode cX7_bagged 15 = .ok (.istore_n 2, 1) := dX7_bagged_r0.2.2.2.2.2.2.2.2.1
theorem dX7_bagged_16 : decode cX7_bagged 16 = .ok (.iconst (-1), 1) := dX7_bagged_r0.2.2.2.2.2.2.2.2.2.1
theorem dX7_bagged_17 : decode cX7_bagged 17 = .ok (.istore_n 3, 1) := dX7_bagged_r0.2.2.2.2.2.2.2.2.2.2.1
theorem dX7_bagged_18 : decode cX7_bagged 18 = .ok (.iconst 0, 1) := dX7_bagged_r0.2.2.2.2.2.2.2.2.2.2.2.1
theorem dX7_bagged_19 : decode cX7_bagged 19 = .ok (.istore 4, 2) := dX7_bagged_r0.2.2.2.2.2.2.2.2.2.2.2.2.1
theorem dX7_bagged_21 : decode cX7_bagged 21 = .ok (.iconst (-1), 1) := dX7_bagged_r0.2.2.2.2.2.2.2.2.2.2.2.2.2.1
theorem dX7_bagged_22 : decode cX7_bagged 22 = .ok (.istore 5, 2) := dX7_bagged_r0.2.2.2.2.2.2.2.2.2.2.2.2.2.2.1
theorem dX7_bagged_24 : decode cX7_bagged 24 = .ok (.iload 5, 2) := dX7_bagged_r0.2.2.2.2.2.2.2.2.2.2.2.2.2.2.2.1
theorem dX7_bagged_r26 : zdcP cX7_bagged 26 [(.aload_n 0, 1), (.getfield 23, 3), (.getfield 30, 3), (.getfield 153, 3), (.if_icmp .ge 89, 3), (.aload_n 0, 1), (.getfield 40, 3), (.aload_n 0, 1), (.getfield 23, 3), (.invokevirtual 239, 3), (.aload_n 0, 1), (.getfield 40, 3), (.getfield 246, 3), (.iload 5, 2), (.putfield 174, 3), (.aload_n 0, 1)] := zdcA_ok (by decide +kernel)
theorem dX7_bagged_26 : decode cX7_bagged 26 = .ok (.aload_n 0, 1) := dX7_bagged_r26.1
theorem dX7_bagged_27 : decode cX7_bagged 27 = .ok (.getfield 23, 3) := dX7_bagged_r26.2.1
theorem dX7_bagged_30 : decode cX7_bagged 30 = .ok (.getfield 30, 3) := dX7_bagged_r26.2.2.1
theorem dX7_bagged_33 : decode cX7_bagged 33 = .ok (.getfield 153, 3) := dX7_bagged_r26.2.2.2.1
theorem dX7_bagged_36 : decode cX7_bagged 36 = .ok (.if_icmp .ge 89, 3) := dX7_bagged_r26.2.2.2.2.1
theorem dX7_bagged_39 : decode cX7_bagged 39 = .ok (.aload_n 0, 1) := dX7_bagged_r26.2.2.2.2.2.1
theorem dX7_bagged_40 : decode cX7_bagged 40 = .ok (.getfield 40, 3) := dX7_bagged_r26.2.2.2.2.2.2.1
theorem dX7_bagged_43 : decode cX7_bagged 43 = .ok (.aload_n 0, 1) := dX7_bagged_r26.2.2.2.2.2.2.2.1
theorem dX7_bagged_44 : decode cX7_bagged 44 = .ok (.getfield 23, 3) := dX7_bagged_r26.2.2.2.2.2.2.2.2.1
theorem dX7_bagged_47 : decode cX7_bagged 47 = .ok (.invokevirtual 239, 3) := dX7_bagged_r26.2.2.2.2.2.2.2.2.2.1
theorem dX7_bagged_50 : decode cX7_bagged 50 = .ok (.aload_n 0, 1) := dX7_bagged_r26.2.2.2.2.2.2.2.2.2.2.1
theorem dX7_bagged_51 : decode cX7_bagged 51 = .ok (.getfield 40, 3) := dX7_bagged_r26.2.2.2.2.2.2.2.2.2.2.2.1
theorem dX7_bagged_54 : decode cX7_bagged 54 = .ok (.getfield 246, 3) := dX7_bagged_r26.2.2.2.2.2.2.2.2.2.2.2.2.1
theorem dX7_bagged_57 : decode cX7_bagged 57 = .ok (.iload 5, 2) := dX7_bagged_r26.2.2.2.2.2.2.2.2.2.2.2.2.2.1
theorem dX7_bagged_59 : decode cX7_bagged 59 = .ok (.putfield 174, 3) := dX7_bagged_r26.2.2.2.2.2.2.2.2.2.2.2.2.2.2.1
theorem dX7_bagged_62 : decode cX7_bagged 62 = .ok (.aload_n 0, 1) := dX7_bagged_r26.2.2.2.2.2.2.2.2.2.2.2.2.2.2.2.1
theorem dX7_bagged_r63 : zdcP cX7_bagged 63 [(.getfield 40, 3), (.iload_n 1, 1), (.invokevirtual 242, 3), (.aload_n 0, 1), (.getfield 40, 3), (.getfield 246, 3), (.getfield 221, 3), (.aload_n 0, 1), (.getfield 40, 3), (.getfield 247, 3), (.iload_n 3, 1), (.iload 4, 2), (.invokestatic 253, 3), (.ifCond .eq 26, 3), (.iload 5, 2), (.istore_n 2, 1)] := zdcA_ok (by decide +kernel)
theorem dX7_bagged_63 : decode cX7_bagged 63 = .ok (.getfield 40, 3) := dX7_bagged_r63.1
theorem dX7_bagged_66 : decode cX7_bagged 66 = .ok (.iload_n 1, 1) := dX7_bagged_r63.2.1
theorem dX7_bagged_67 : decode cX7_bagged 67 = .ok (.invokevirtual 242, 3) := dX7_bagged_r63.2.2.1
theorem dX7_bagged_70 : decode cX7_bagged 70 = .ok (.aload_n 0, 1) := dX7_bagged_r63.2.2.2.1
theorem dX7_bagged_71 : decode cX7_bagged 71 = .ok (.getfield 40, 3) := dX7_bagged_r63.2.2.2.2.1
theorem dX7_bagged_74 : decode cX7_bagged 74 = .ok (.getfield 246, 3) := dX7_bagged_r63.2.2.2.2.2.1
theorem dX7_bagged_77 : decode cX7_bagged 77 = .ok (.getfield 221, 3) := dX7_bagged_r63.2.2.2.2.2.2.1
theorem dX7_bagged_80 : decode cX7_bagged 80 = .ok (.aload_n 0, 1) := dX7_bagged_r63.2.2.2.2.2.2.2.1
theorem dX7_bagged_81 : decode cX7_bagged 81 = .ok (.getfield 40, 3) := dX7_bagged_r63.2.2.2.2.2.2.2.2.1
theorem dX7_bagged_84 : decode cX7_bagged 84 = .ok (.getfield 247, 3) := dX7_bagged_r63.2.2.2.2.2.2.2.2.2.1
theorem dX7_bagged_87 : decode cX7_bagged 87 = .ok (.iload_n 3, 1) := dX7_bagged_r63.2.2.2.2.2.2.2.2.2.2.1
theorem dX7_bagged_88 : decode cX7_bagged 88 = .ok (.iload 4, 2) := dX7_bagged_r63.2.2.2.2.2.2.2.2.2.2.2.1
theorem dX7_bagged_90 : decode cX7_bagged 90 = .ok (.invokestatic 253, 3) := dX7_bagged_r63.2.2.2.2.2.2.2.2.2.2.2.2.1
theorem dX7_bagged_93 : decode cX7_bagged 93 = .ok (.ifCond .eq 26, 3) := dX7_bagged_r63.2.2.2.2.2.2.2.2.2.2.2.2.2.1
theorem dX7_bagged_96 : decode cX7_bagged 96 = .ok (.iload 5, 2) := dX7_bagged_r63.2.2.2.2.2.2.2.2.2.2.2.2.2.2.1
theorem dX7_bagged_98 : decode cX7_bagged 98 = .ok (.istore_n 2, 1) := dX7_bagged_r63.2.2.2.2.2.2.2.2.2.2.2.2.2.2.2.1
theorem dX7_bagged_r99 : zdcP cX7_bagged 99 [(.aload_n 0, 1), (.getfield 40, 3), (.getfield 246, 3), (.getfield 221, 3), (.istore_n 3, 1), (.aload_n 0, 1), (.getfield 40, 3), (.getfield 247, 3), (.istore 4, 2), (.iinc 5 1, 3), (.goto (-98), 3), (.iload_n 2, 1), (.ireturn, 1)] := zdcA_ok (by decide +kernel)
theorem dX7_bagged_99 : decode cX7_bagged 99 = .ok (.aload_n 0, 1) := dX7_bagged_r99.1
theorem dX7_bagged_100 : decode cX7_bagged 100 = .ok (.getfield 40, 3) := dX7_bagged_r99.2.1
theorem dX7_bagged_103 : decode cX7_bagged 103 = .ok (.getfield 246, 3) := dX7_bagged_r99.2.2.1
theorem dX7_bagged_106 : decode cX7_bagged 106 = .ok (.getfield 221, 3) := dX7_bagged_r99.2.2.2.1
theorem dX7_bagged_109 : decode cX7_bagged 109 = .ok (.istore_n 3, 1) := dX7_bagged_r99.2.2.2.2.1
theorem dX7_bagged_110 : decode cX7_bagged 110 = .ok (.aload_n 0, 1) := dX7_bagged_r99.2.2.2.2.2.1
theorem dX7_bagged_111 : decode cX7_bagged 111 = .ok (.getfield 40, 3) := dX7_bagged_r99.2.2.2.2.2.2.1
theorem dX7_bagged_114 : decode cX7_bagged 114 = .ok (.getfield 247, 3) := dX7_bagged_r99.2.2.2.2.2.2.2.1
theorem dX7_bagged_117 : decode cX7_bagged 117 = .ok (.istore 4, 2) := dX7_bagged_r99.2.2.2.2.2.2.2.2.1
theorem dX7_bagged_119 : decode cX7_bagged 119 = .ok (.iinc 5 1, 3) := dX7_bagged_r99.2.2.2.2.2.2.2.2.2.1
theorem dX7_bagged_122 : decode cX7_bagged 122 = .ok (.goto (-98), 3) := dX7_bagged_r99.2.2.2.2.2.2.2.2.2.2.1
theorem dX7_bagged_125 : decode cX7_bagged 125 = .ok (.iload_n 2, 1) := dX7_bagged_r99.2.2.2.2.2.2.2.2.2.2.2.1
theorem dX7_bagged_126 : decode cX7_bagged 126 = .ok (.ireturn, 1) := dX7_bagged_r99.2.2.2.2.2.2.2.2.2.2.2.2.1
def wq_93_24 (v1 : Int32) (Q : Int32 → zf_Me → Prop) : Nat → Int32 → Int32 → Int32 → Int32 → zf_Me → Prop
  | 0, _, _, _, _, _ => False
  | n + 1, v2, v3, v4, v5, m => ((v5.toInt ≥ ((m.1 3 5)).toInt → Q v2 m) ∧ (v5.toInt < ((m.1 3 5)).toInt → wp_7 2 3 8 m (fun m4 => (∀ m5, m5 = zf_u m4 19 2 v5 → wp_8 v1 m5 (fun m8 => wp_119 (m8.1 19 10) (m8.1 18 3) v3 v4 m8 (fun b9 m10 => ((b9 = false → wq_93_24 v1 Q n v2 v3 v4 (v5 + 1) m10) ∧ (b9 = true → wq_93_24 v1 Q n v5 (m10.1 19 10) (m10.1 18 3) (v5 + 1) m10))))))))
theorem zq_93_24 {d : Nat} (hd : 6 ≤ d) {v1 : Int32} {Q : Int32 → zf_Me → Prop} : ∀ (n : Nat) (v2 : Int32) (v3 : Int32) (v4 : Int32) (v5 : Int32) (m : zf_Me), wq_93_24 v1 Q n v2 v3 v4 v5 m → zf_W none 0 0 d zt_93 24 [some (.inr (.inr (1, 0))), some (.inl v1), some (.inl v2), some (.inl v3), some (.inl v4), some (.inl v5)] [] m (zf_I Q) := by
  obtain ⟨e, rfl⟩ : ∃ z, d = z + 1 := ⟨d - 1, by omega⟩
  intro n
  induction n with
  | zero =>
    intro v2 v3 v4 v5 m h
    exact h.elim
  | succ n ih =>
    intro v2 v3 v4 v5 m h
    unfold wq_93_24 at h
    refine zf_ld (pc' := 26) (v := .inl v5) dX7_bagged_24 rfl (fun _ _ _ => rfl) rfl rfl rfl ?_
    refine zf_ld (pc' := 27) (v := .inr (.inr (1, 0))) dX7_bagged_26 rfl (fun _ _ _ => rfl) rfl rfl rfl ?_
    refine zf_gfr (pc' := 30) (b := 2) dX7_bagged_27 rfl rfl (by decide) rfl rfl ?_
    refine zf_gfr (pc' := 33) (b := 3) dX7_bagged_30 rfl rfl zf_walk2.1 zf_walk2.2.1 rfl ?_
    refine zf_gfi (pc' := 36) dX7_bagged_33 rfl rfl zf_walk2.2.2.1.1 zf_walk2.2.2.1.2.1 rfl ?_
    refine zf_icmp_ge (tgt := 125) (pc' := 39) dX7_bagged_36 rfl rfl (fun g => ?_) (fun g => ?_)
    · replace h := h.1 g
      refine zf_ld (pc' := 126) (v := .inl v2) dX7_bagged_125 rfl (fun _ _ _ => rfl) rfl rfl rfl ?_
      exact zf_ri dX7_bagged_126 rfl h
    · replace h := h.2 g
      refine zf_ld (pc' := 40) (v := .inr (.inr (1, 0))) dX7_bagged_39 rfl (fun _ _ _ => rfl) rfl rfl rfl ?_
      refine zf_gfr (pc' := 43) (b := 18) dX7_bagged_40 rfl rfl (by decide) rfl rfl ?_
      refine zf_ld (pc' := 44) (v := .inr (.inr (1, 0))) dX7_bagged_43 rfl (fun _ _ _ => rfl) rfl rfl rfl ?_
      refine zf_gfr (pc' := 47) (b := 2) dX7_bagged_44 rfl rfl (by decide) rfl rfl ?_
      refine zf_iv (k := 7) (pc' := 50) (r := []) dX7_bagged_47 rfl rfl rfl rfl (by decide) rfl rfl rfl (zr_7 (by omega) zf_walk2 h) (zf_kO (fun m4 h => ?_))
      refine zf_ld (pc' := 51) (v := .inr (.inr (1, 0))) dX7_bagged_50 rfl (fun _ _ _ => rfl) rfl rfl rfl ?_
      refine zf_gfr (pc' := 54) (b := 18) dX7_bagged_51 rfl rfl (by decide) rfl rfl ?_
      refine zf_gfr (pc' := 57) (b := 19) dX7_bagged_54 rfl rfl (by decide) rfl rfl ?_
      refine zf_ld (pc' := 59) (v := .inl v5) dX7_bagged_57 rfl (fun _ _ _ => rfl) rfl rfl rfl ?_
      refine zf_pf (pc' := 62) dX7_bagged_59 rfl rfl zf_walk19.1 zf_walk19.2.1 rfl rfl (fun m5 e6 => ?_)
      replace h := h m5 e6
      refine zf_ld (pc' := 63) (v := .inr (.inr (1, 0))) dX7_bagged_62 rfl (fun _ _ _ => rfl) rfl rfl rfl ?_
      refine zf_gfr (pc' := 66) (b := 18) dX7_bagged_63 rfl rfl (by decide) rfl rfl ?_
      refine zf_ld (pc' := 67) (v := .inl v1) dX7_bagged_66 rfl (fun _ _ _ => rfl) rfl rfl rfl ?_
      refine zf_iv (k := 8) (pc' := 70) (r := []) dX7_bagged_67 rfl rfl rfl rfl (by decide) rfl rfl rfl (zr_8 (by omega) h) (zf_kO (fun m8 h => ?_))
      refine zf_ld (pc' := 71) (v := .inr (.inr (1, 0))) dX7_bagged_70 rfl (fun _ _ _ => rfl) rfl rfl rfl ?_
      refine zf_gfr (pc' := 74) (b := 18) dX7_bagged_71 rfl rfl (by decide) rfl rfl ?_
      refine zf_gfr (pc' := 77) (b := 19) dX7_bagged_74 rfl rfl (by decide) rfl rfl ?_
      refine zf_gfi (pc' := 80) dX7_bagged_77 rfl rfl zf_walk19.1 zf_walk19.2.1 rfl ?_
      refine zf_ld (pc' := 81) (v := .inr (.inr (1, 0))) dX7_bagged_80 rfl (fun _ _ _ => rfl) rfl rfl rfl ?_
      refine zf_gfr (pc' := 84) (b := 18) dX7_bagged_81 rfl rfl (by decide) rfl rfl ?_
      refine zf_gfi (pc' := 87) dX7_bagged_84 rfl rfl (by decide) rfl rfl ?_
      refine zf_ld (pc' := 88) (v := .inl v3) dX7_bagged_87 rfl (fun _ _ _ => rfl) rfl rfl rfl ?_
      refine zf_ld (pc' := 90) (v := .inl v4) dX7_bagged_88 rfl (fun _ _ _ => rfl) rfl rfl rfl ?_
      refine zf_is (k := 119) (pc' := 93) (r := []) dX7_bagged_90 rfl rfl rfl rfl rfl (zr_119 (by omega) h) (zf_kB (fun b9 m10 h => ?_))
      refine zf_ib_eq (tgt := 119) (pc' := 96) dX7_bagged_93 rfl rfl (fun g => ?_) (fun g => ?_)
      · replace h := h.1 g
        refine zf_ii (y := (v5 + 1)) (L2 := [some (.inr (.inr (1, 0))), some (.inl v1), some (.inl v2), some (.inl v3), some (.inl v4), some (.inl (v5 + 1))]) (pc' := 122) dX7_bagged_119 rfl rfl rfl rfl rfl ?_
        refine zf_goto (tgt := 24) dX7_bagged_122 rfl ?_
        exact zf_lo (ih _ _ _ _ _ h) ⟨rfl, rfl, rfl, rfl, rfl, rfl, trivial⟩
      · replace h := h.2 g
        refine zf_ld (pc' := 98) (v := .inl v5) dX7_bagged_96 rfl (fun _ _ _ => rfl) rfl rfl rfl ?_
        refine zf_st (pc' := 99) (L2 := [some (.inr (.inr (1, 0))), some (.inl v1), some (.inl v5), some (.inl v3), some (.inl v4), some (.inl v5)]) dX7_bagged_98 rfl (fun _ _ _ => rfl) rfl rfl rfl rfl rfl rfl ?_
        refine zf_ld (pc' := 100) (v := .inr (.inr (1, 0))) dX7_bagged_99 rfl (fun _ _ _ => rfl) rfl rfl rfl ?_
        refine zf_gfr (pc' := 103) (b := 18) dX7_bagged_100 rfl rfl (by decide) rfl rfl ?_
        refine zf_gfr (pc' := 106) (b := 19) dX7_bagged_103 rfl rfl (by decide) rfl rfl ?_
        refine zf_gfi (pc' := 109) dX7_bagged_106 rfl rfl zf_walk19.1 zf_walk19.2.1 rfl ?_
        refine zf_st (pc' := 110) (L2 := [some (.inr (.inr (1, 0))), some (.inl v1), some (.inl v5), some (.inl (m10.1 19 10)), some (.inl v4), some (.inl v5)]) dX7_bagged_109 rfl (fun _ _ _ => rfl) rfl rfl rfl rfl rfl rfl ?_
        refine zf_ld (pc' := 111) (v := .inr (.inr (1, 0))) dX7_bagged_110 rfl (fun _ _ _ => rfl) rfl rfl rfl ?_
        refine zf_gfr (pc' := 114) (b := 18) dX7_bagged_111 rfl rfl (by decide) rfl rfl ?_
        refine zf_gfi (pc' := 117) dX7_bagged_114 rfl rfl (by decide) rfl rfl ?_
        refine zf_st (pc' := 119) (L2 := [some (.inr (.inr (1, 0))), some (.inl v1), some (.inl v5), some (.inl (m10.1 19 10)), some (.inl (m10.1 18 3)), some (.inl v5)]) dX7_bagged_117 rfl (fun _ _ _ => rfl) rfl rfl rfl rfl rfl rfl ?_
        refine zf_ii (y := (v5 + 1)) (L2 := [some (.inr (.inr (1, 0))), some (.inl v1), some (.inl v5), some (.inl (m10.1 19 10)), some (.inl (m10.1 18 3)), some (.inl (v5 + 1))]) (pc' := 122) dX7_bagged_119 rfl rfl rfl rfl rfl ?_
        refine zf_goto (tgt := 24) dX7_bagged_122 rfl ?_
        exact zf_lo (ih _ _ _ _ _ h) ⟨rfl, rfl, rfl, rfl, rfl, rfl, trivial⟩
def wp_93 (v1 : Int32) (m : zf_Me) (Q : Int32 → zf_Me → Prop) : Prop := wp_116 v1 m (fun b1 m2 => ((b1 = true → (∃ n24, wq_93_24 v1 Q n24 (-1) (-1) 0 (-1) m2)) ∧ (b1 = false → wp_110 6 m2 (fun x11 m12 => Q x11 m12))))
theorem zr_93 {d : Nat} (hd : 6 ≤ d) {v1 : Int32} {Q : Int32 → zf_Me → Prop} {m : zf_Me} (h : wp_93 v1 m Q) : zf_M d 93 [.inr (.inr (1, 0)), .inl v1] m (zf_I Q) := by
  obtain ⟨e, rfl⟩ : ∃ z, d = z + 1 := ⟨d - 1, by omega⟩
  unfold wp_93 at h
  refine zf_M_of (Nat.le_of_ble_eq_true rfl) zm_93 (L := [some (.inr (.inr (1, 0))), some (.inl v1), none, none, none, none]) rfl ?_
  refine zf_ld (pc' := 1) (v := .inl v1) dX7_bagged_0 rfl (fun _ _ _ => rfl) rfl rfl rfl ?_
  refine zf_is (k := 116) (pc' := 4) (r := []) dX7_bagged_1 rfl rfl rfl rfl rfl (zr_116 (by omega) h) (zf_kB (fun b1 m2 h => ?_))
  refine zf_ib_ne (tgt := 14) (pc' := 7) dX7_bagged_4 rfl rfl (fun g => ?_) (fun g => ?_)
  · replace h := h.1 g
    refine zf_ic (v := (-1)) (pc' := 15) dX7_bagged_14 rfl rfl ?_
    refine zf_st (pc' := 16) (L2 := [some (.inr (.inr (1, 0))), some (.inl v1), some (.inl (-1)), none, none, none]) dX7_bagged_15 rfl (fun _ _ _ => rfl) rfl rfl rfl rfl rfl rfl ?_
    refine zf_ic (v := (-1)) (pc' := 17) dX7_bagged_16 rfl rfl ?_
    refine zf_st (pc' := 18) (L2 := [some (.inr (.inr (1, 0))), some (.inl v1), some (.inl (-1)), some (.inl (-1)), none, none]) dX7_bagged_17 rfl (fun _ _ _ => rfl) rfl rfl rfl rfl rfl rfl ?_
    refine zf_ic (v := 0) (pc' := 19) dX7_bagged_18 rfl rfl ?_
    refine zf_st (pc' := 21) (L2 := [some (.inr (.inr (1, 0))), some (.inl v1), some (.inl (-1)), some (.inl (-1)), some (.inl 0), none]) dX7_bagged_19 rfl (fun _ _ _ => rfl) rfl rfl rfl rfl rfl rfl ?_
    refine zf_ic (v := (-1)) (pc' := 22) dX7_bagged_21 rfl rfl ?_
    refine zf_st (pc' := 24) (L2 := [some (.inr (.inr (1, 0))), some (.inl v1), some (.inl (-1)), some (.inl (-1)), some (.inl 0), some (.inl (-1))]) dX7_bagged_22 rfl (fun _ _ _ => rfl) rfl rfl rfl rfl rfl rfl ?_
    obtain ⟨n24, h⟩ := h
    exact zf_lo (zq_93_24 (by omega) n24 _ _ _ _ _ h) ⟨rfl, rfl, rfl, rfl, rfl, rfl, trivial⟩
  · replace h := h.2 g
    refine zf_ld (pc' := 8) (v := .inr (.inr (1, 0))) dX7_bagged_7 rfl (fun _ _ _ => rfl) rfl rfl rfl ?_
    refine zf_bi (v := 6) (pc' := 10) dX7_bagged_8 rfl rfl ?_
    refine zf_iv (k := 110) (pc' := 13) (r := []) dX7_bagged_10 rfl rfl rfl rfl (by decide) rfl rfl rfl (zr_110 (by omega) h) (zf_kI (fun x11 m12 h => ?_))
    exact zf_ri dX7_bagged_13 rfl h
def zt_113 : zx_MT := (7, yX7_whyNoWalk, cX7_whyNoWalk, 4, (some FieldType.int), 2, 0)
theorem zm_113 : zx_m 113 = zt_113 := rfl
theorem dX7_whyNoWalk_r0 : zdcP cX7_whyNoWalk 0 [(.aload_n 0, 1), (.iload_n 1, 1), (.invokevirtual 90, 3), (.istore_n 3, 1), (.iload_n 3, 1), (.ifCond .eq 5, 3), (.iload_n 3, 1), (.ireturn, 1), (.iload_n 2, 1), (.ifCond .ge 5, 3), (.iconst 4, 1), (.ireturn, 1), (.iload_n 2, 1), (.aload_n 0, 1), (.getfield 11, 3), (.iload_n 1, 1)] := zdcA_ok (by decide +kernel)
theorem dX7_whyNoWalk_0 : decode cX7_whyNoWalk 0 = .ok (.aload_n 0, 1) := dX7_whyNoWalk_r0.1
theorem dX7_whyNoWalk_1 : decode cX7_whyNoWalk 1 = .ok (.iload_n 1, 1) := dX7_whyNoWalk_r0.2.1
theorem dX7_whyNoWalk_2 : decode cX7_whyNoWalk 2 = .ok (.invokevirtual 90, 3) := dX7_whyNoWalk_r0.2.2.1
theorem dX7_whyNoWalk_5 : decode cX7_whyNoWalk 5 = .ok (.istore_n 3, 1) := dX7_whyNoWalk_r0.2.2.2.1
theorem dX7_whyNoWalk_6 : decode cX7_whyNoWalk 6 = .ok (.iload_n 3, 1) := dX7_whyNoWalk_r0.2.2.2.2.1
theorem dX7_whyNoWalk_7 : decode cX7_whyNoWalk 7 = .ok (.ifCond .eq 5, 3) := dX7_whyNoWalk_r0.2.2.2.2.2.1
theorem dX7_whyNoWalk_10 : decode cX7_whyNoWalk 10 = .ok (.iload_n 3, 1) := dX7_whyNoWalk_r0.2.2.2.2.2.2.1
theorem dX7_whyNoWalk_11 : decode cX7_whyNoWalk 11 = .ok (.ireturn, 1) := dX7_whyNoWalk_r0.2.2.2.2.2.2.2.1
theorem dX7_whyNoWalk_12 : decode cX7_whyNoWalk 12 = .ok (.iload_n 2, 1) := dX7_whyNoWalk_r0.2.2.2.2.2.2.2.2.1
theorem dX7_whyNoWalk_13 : decode cX7_whyNoWalk 13 = .ok (.ifCond .ge 5, 3) := dX7_whyNoWalk_r0.2.2.2.2.2.2.2.2.2.1
theorem dX7_whyNoWalk_16 : decode cX7_whyNoWalk 16 = .ok (.iconst 4, 1) := dX7_whyNoWalk_r0.2.2.2.2.2.2.2.2.2.2.1
theorem dX7_whyNoWalk_17 : decode cX7_whyNoWalk 17 = .ok (.ireturn, 1) := dX7_whyNoWalk_r0.2.2.2.2.2.2.2.2.2.2.2.1
theorem dX7_whyNoWalk_18 : decode cX7_whyNoWalk 18 = .ok (.iload_n 2, 1) := dX7_whyNoWalk_r0.2.2.2.2.2.2.2.2.2.2.2.2.1
theorem dX7_whyNoWalk_19 : decode cX7_whyNoWalk 19 = .ok (.aload_n 0, 1) := dX7_whyNoWalk_r0.2.2.2.2.2.2.2.2.2.2.2.2.2.1
theorem dX7_whyNoWalk_20 : decode cX7_whyNoWalk 20 = .ok (.getfield 11, 3) := dX7_whyNoWalk_r0.2.2.2.2.2.2.2.2.2.2.2.2.2.2.1
theorem dX7_whyNoWalk_23 : decode cX7_whyNoWalk 23 = .ok (.iload_n 1, 1) := dX7_whyNoWalk_r0.2.2.2.2.2.2.2.2.2.2.2.2.2.2.2.1
theorem dX7_whyNoWalk_r24 : zdcP cX7_whyNoWalk 24 [(.aaload, 1), (.getfield 280, 3), (.if_icmp .le 5, 3), (.iconst 5, 1), (.ireturn, 1), (.iload_n 2, 1), (.bipush 60, 2), (.if_icmp .le 8, 3), (.bipush 6, 2), (.goto 4, 3), (.iconst 0, 1), (.ireturn, 1)] := zdcA_ok (by decide +kernel)
theorem dX7_whyNoWalk_24 : decode cX7_whyNoWalk 24 = .ok (.aaload, 1) := dX7_whyNoWalk_r24.1
theorem dX7_whyNoWalk_25 : decode cX7_whyNoWalk 25 = .ok (.getfield 280, 3) := dX7_whyNoWalk_r24.2.1
theorem dX7_whyNoWalk_28 : decode cX7_whyNoWalk 28 = .ok (.if_icmp .le 5, 3) := dX7_whyNoWalk_r24.2.2.1
theorem dX7_whyNoWalk_31 : decode cX7_whyNoWalk 31 = .ok (.iconst 5, 1) := dX7_whyNoWalk_r24.2.2.2.1
theorem dX7_whyNoWalk_32 : decode cX7_whyNoWalk 32 = .ok (.ireturn, 1) := dX7_whyNoWalk_r24.2.2.2.2.1
theorem dX7_whyNoWalk_33 : decode cX7_whyNoWalk 33 = .ok (.iload_n 2, 1) := dX7_whyNoWalk_r24.2.2.2.2.2.1
theorem dX7_whyNoWalk_34 : decode cX7_whyNoWalk 34 = .ok (.bipush 60, 2) := dX7_whyNoWalk_r24.2.2.2.2.2.2.1
theorem dX7_whyNoWalk_36 : decode cX7_whyNoWalk 36 = .ok (.if_icmp .le 8, 3) := dX7_whyNoWalk_r24.2.2.2.2.2.2.2.1
theorem dX7_whyNoWalk_39 : decode cX7_whyNoWalk 39 = .ok (.bipush 6, 2) := dX7_whyNoWalk_r24.2.2.2.2.2.2.2.2.1
theorem dX7_whyNoWalk_41 : decode cX7_whyNoWalk 41 = .ok (.goto 4, 3) := dX7_whyNoWalk_r24.2.2.2.2.2.2.2.2.2.1
theorem dX7_whyNoWalk_44 : decode cX7_whyNoWalk 44 = .ok (.iconst 0, 1) := dX7_whyNoWalk_r24.2.2.2.2.2.2.2.2.2.2.1
theorem dX7_whyNoWalk_45 : decode cX7_whyNoWalk 45 = .ok (.ireturn, 1) := dX7_whyNoWalk_r24.2.2.2.2.2.2.2.2.2.2.2.1
def wp_113 (v1 : Int32) (v2 : Int32) (m : zf_Me) (Q : Int32 → zf_Me → Prop) : Prop := wp_111 v1 m (fun x1 m2 => ((x1.toInt = 0 → ((v2.toInt ≥ 0 → ((0 ≤ (Int32.toInt v1) ∧ (Int32.toInt v1) < 8) ∧ ((v2.toInt ≤ ((m2.1 (47 + 2 * (Int32.toInt v1).toNat) 2)).toInt → ((v2.toInt ≤ 60 → Q 0 m2) ∧ (v2.toInt > 60 → Q 6 m2))) ∧ (v2.toInt > ((m2.1 (47 + 2 * (Int32.toInt v1).toNat) 2)).toInt → Q 5 m2)))) ∧ (v2.toInt < 0 → Q 4 m2))) ∧ (¬ x1.toInt = 0 → Q x1 m2)))
theorem zr_113 {d : Nat} (hd : 2 ≤ d) {v1 : Int32} {v2 : Int32} {Q : Int32 → zf_Me → Prop} {m : zf_Me} (h : wp_113 v1 v2 m Q) : zf_M d 113 [.inr (.inr (1, 0)), .inl v1, .inl v2] m (zf_I Q) := by
  obtain ⟨e, rfl⟩ : ∃ z, d = z + 1 := ⟨d - 1, by omega⟩
  unfold wp_113 at h
  refine zf_M_of (Nat.le_of_ble_eq_true rfl) zm_113 (L := [some (.inr (.inr (1, 0))), some (.inl v1), some (.inl v2), none]) rfl ?_
  refine zf_ld (pc' := 1) (v := .inr (.inr (1, 0))) dX7_whyNoWalk_0 rfl (fun _ _ _ => rfl) rfl rfl rfl ?_
  refine zf_ld (pc' := 2) (v := .inl v1) dX7_whyNoWalk_1 rfl (fun _ _ _ => rfl) rfl rfl rfl ?_
  refine zf_iv (k := 111) (pc' := 5) (r := []) dX7_whyNoWalk_2 rfl rfl rfl rfl (by decide) rfl rfl rfl (zr_111 (by omega) h) (zf_kI (fun x1 m2 h => ?_))
  refine zf_st (pc' := 6) (L2 := [some (.inr (.inr (1, 0))), some (.inl v1), some (.inl v2), some (.inl x1)]) dX7_whyNoWalk_5 rfl (fun _ _ _ => rfl) rfl rfl rfl rfl rfl rfl ?_
  refine zf_ld (pc' := 7) (v := .inl x1) dX7_whyNoWalk_6 rfl (fun _ _ _ => rfl) rfl rfl rfl ?_
  refine zf_if_eq (tgt := 12) (pc' := 10) dX7_whyNoWalk_7 rfl rfl (fun g => ?_) (fun g => ?_)
  · replace h := h.1 g
    refine zf_ld (pc' := 13) (v := .inl v2) dX7_whyNoWalk_12 rfl (fun _ _ _ => rfl) rfl rfl rfl ?_
    refine zf_if_ge (tgt := 18) (pc' := 16) dX7_whyNoWalk_13 rfl rfl (fun g => ?_) (fun g => ?_)
    · replace h := h.1 g
      refine zf_ld (pc' := 19) (v := .inl v2) dX7_whyNoWalk_18 rfl (fun _ _ _ => rfl) rfl rfl rfl ?_
      refine zf_ld (pc' := 20) (v := .inr (.inr (1, 0))) dX7_whyNoWalk_19 rfl (fun _ _ _ => rfl) rfl rfl rfl ?_
      refine zf_gfr (pc' := 23) (b := 1) dX7_whyNoWalk_20 rfl rfl (by decide) rfl rfl ?_
      refine zf_ld (pc' := 24) (v := .inl v1) dX7_whyNoWalk_23 rfl (fun _ _ _ => rfl) rfl rfl rfl ?_
      refine zf_aal (b := 47) (n := 8) (pc' := 25) dX7_whyNoWalk_24 rfl (by decide) rfl (by decide) rfl h.1 zf_row1 ?_
      have hb3 := h.1
      replace h := h.2
      have hx4 : zf_shelf (47 + 2 * (Int32.toInt v1).toNat) (48 + 2 * (Int32.toInt v1).toNat) := zf_shelves (by omega)
      refine zf_gfi (pc' := 28) dX7_whyNoWalk_25 rfl rfl hx4.1 hx4.2.1 rfl ?_
      refine zf_icmp_le (tgt := 33) (pc' := 31) dX7_whyNoWalk_28 rfl rfl (fun g => ?_) (fun g => ?_)
      · replace h := h.1 g
        refine zf_ld (pc' := 34) (v := .inl v2) dX7_whyNoWalk_33 rfl (fun _ _ _ => rfl) rfl rfl rfl ?_
        refine zf_bi (v := 60) (pc' := 36) dX7_whyNoWalk_34 rfl rfl ?_
        refine zf_icmp_le (tgt := 44) (pc' := 39) dX7_whyNoWalk_36 rfl rfl (fun g => ?_) (fun g => ?_)
        · replace h := h.1 g
          refine zf_ic (v := 0) (pc' := 45) dX7_whyNoWalk_44 rfl rfl ?_
          exact zf_ri dX7_whyNoWalk_45 rfl h
        · replace h := h.2 g
          refine zf_bi (v := 6) (pc' := 41) dX7_whyNoWalk_39 rfl rfl ?_
          refine zf_goto (tgt := 45) dX7_whyNoWalk_41 rfl ?_
          exact zf_ri dX7_whyNoWalk_45 rfl h
      · replace h := h.2 g
        refine zf_ic (v := 5) (pc' := 32) dX7_whyNoWalk_31 rfl rfl ?_
        exact zf_ri dX7_whyNoWalk_32 rfl h
    · replace h := h.2 g
      refine zf_ic (v := 4) (pc' := 17) dX7_whyNoWalk_16 rfl rfl ?_
      exact zf_ri dX7_whyNoWalk_17 rfl h
  · replace h := h.2 g
    refine zf_ld (pc' := 11) (v := .inl x1) dX7_whyNoWalk_10 rfl (fun _ _ _ => rfl) rfl rfl rfl ?_
    exact zf_ri dX7_whyNoWalk_11 rfl h
def zt_121 : zx_MT := (7, yX7_tryWalk, cX7_tryWalk, 5, (some FieldType.int), 2, 0)
theorem zm_121 : zx_m 121 = zt_121 := rfl
theorem dX7_tryWalk_r0 : zdcP cX7_tryWalk 0 [(.aload_n 0, 1), (.getfield 34, 3), (.aload_n 0, 1), (.getfield 23, 3), (.invokevirtual 202, 3), (.iconst 0, 1), (.istore_n 3, 1), (.iload_n 3, 1), (.iload_n 2, 1), (.if_icmp .ge 39, 3), (.aload_n 1, 1), (.iload_n 3, 1), (.invokevirtual 332, 3), (.istore 4, 2), (.aload_n 0, 1), (.getfield 34, 3)] := zdcA_ok (by decide +kernel)
theorem dX7_tryWalk_0 : decode cX7_tryWalk 0 = .ok (.aload_n 0, 1) := dX7_tryWalk_r0.1
theorem dX7_tryWalk_1 : decode cX7_tryWalk 1 = .ok (.getfield 34, 3) := dX7_tryWalk_r0.2.1
theorem dX7_tryWalk_4 : decode cX7_tryWalk 4 = .ok (.aload_n 0, 1) := dX7_tryWalk_r0.2.2.1
theorem dX7_tryWalk_5 : decode cX7_tryWalk 5 = .ok (.getfield 23, 3) := dX7_tryWalk_r0.2.2.2.1
theorem dX7_tryWalk_8 : decode cX7_tryWalk 8 = .ok (.invokevirtual 202, 3) := dX7_tryWalk_r0.2.2.2.2.1
theorem dX7_tryWalk_11 : decode cX7_tryWalk 11 = .ok (.iconst 0, 1) := dX7_tryWalk_r0.2.2.2.2.2.1
theorem dX7_tryWalk_12 : decode cX7_tryWalk 12 = .ok (.istore_n 3, 1) := dX7_tryWalk_r0.2.2.2.2.2.2.1
theorem dX7_tryWalk_13 : decode cX7_tryWalk 13 = .ok (.iload_n 3, 1) := dX7_tryWalk_r0.2.2.2.2.2.2.2.1
theorem dX7_tryWalk_14 : decode cX7_tryWalk 14 = .ok (.iload_n 2, 1) := dX7_tryWalk_r0.2.2.2.2.2.2.2.2.1
theorem dX7_tryWalk_15 : decode cX7_tryWalk 15 = .ok (.if_icmp .ge 39, 3) := dX7_tryWalk_r0.2.2.2.2.2.2.2.2.2.1
theorem dX7_tryWalk_18 : decode cX7_tryWalk 18 = .ok (.aload_n 1, 1) := dX7_tryWalk_r0.2.2.2.2.2.2.2.2.2.2.1
theorem dX7_tryWalk_19 : decode cX7_tryWalk 19 = .ok (.iload_n 3, 1) := dX7_tryWalk_r0.2.2.2.2.2.2.2.2.2.2.2.1
theorem dX7_tryWalk_20 : decode cX7_tryWalk 20 = .ok (.invokevirtual 332, 3) := dX7_tryWalk_r0.2.2.2.2.2.2.2.2.2.2.2.2.1
theorem dX7_tryWalk_23 : decode cX7_tryWalk 23 = .ok (.istore 4, 2) := dX7_tryWalk_r0.2.2.2.2.2.2.2.2.2.2.2.2.2.1
theorem dX7_tryWalk_25 : decode cX7_tryWalk 25 = .ok (.aload_n 0, 1) := dX7_tryWalk_r0.2.2.2.2.2.2.2.2.2.2.2.2.2.2.1
theorem dX7_tryWalk_26 : decode cX7_tryWalk 26 = .ok (.getfield 34, 3) := dX7_tryWalk_r0.2.2.2.2.2.2.2.2.2.2.2.2.2.2.2.1
theorem dX7_tryWalk_r29 : zdcP cX7_tryWalk 29 [(.iload 4, 2), (.invokevirtual 208, 3), (.ifCond .ne 5, 3), (.iload_n 3, 1), (.ireturn, 1), (.aload_n 0, 1), (.getfield 34, 3), (.iload 4, 2), (.invokevirtual 264, 3), (.iinc 3 1, 3), (.goto (-38), 3), (.iconst (-1), 1), (.ireturn, 1)] := zdcA_ok (by decide +kernel)
theorem dX7_tryWalk_29 : decode cX7_tryWalk 29 = .ok (.iload 4, 2) := dX7_tryWalk_r29.1
theorem dX7_tryWalk_31 : decode cX7_tryWalk 31 = .ok (.invokevirtual 208, 3) := dX7_tryWalk_r29.2.1
theorem dX7_tryWalk_34 : decode cX7_tryWalk 34 = .ok (.ifCond .ne 5, 3) := dX7_tryWalk_r29.2.2.1
theorem dX7_tryWalk_37 : decode cX7_tryWalk 37 = .ok (.iload_n 3, 1) := dX7_tryWalk_r29.2.2.2.1
theorem dX7_tryWalk_38 : decode cX7_tryWalk 38 = .ok (.ireturn, 1) := dX7_tryWalk_r29.2.2.2.2.1
theorem dX7_tryWalk_39 : decode cX7_tryWalk 39 = .ok (.aload_n 0, 1) := dX7_tryWalk_r29.2.2.2.2.2.1
theorem dX7_tryWalk_40 : decode cX7_tryWalk 40 = .ok (.getfield 34, 3) := dX7_tryWalk_r29.2.2.2.2.2.2.1
theorem dX7_tryWalk_43 : decode cX7_tryWalk 43 = .ok (.iload 4, 2) := dX7_tryWalk_r29.2.2.2.2.2.2.2.1
theorem dX7_tryWalk_45 : decode cX7_tryWalk 45 = .ok (.invokevirtual 264, 3) := dX7_tryWalk_r29.2.2.2.2.2.2.2.2.1
theorem dX7_tryWalk_48 : decode cX7_tryWalk 48 = .ok (.iinc 3 1, 3) := dX7_tryWalk_r29.2.2.2.2.2.2.2.2.2.1
theorem dX7_tryWalk_51 : decode cX7_tryWalk 51 = .ok (.goto (-38), 3) := dX7_tryWalk_r29.2.2.2.2.2.2.2.2.2.2.1
theorem dX7_tryWalk_54 : decode cX7_tryWalk 54 = .ok (.iconst (-1), 1) := dX7_tryWalk_r29.2.2.2.2.2.2.2.2.2.2.2.1
theorem dX7_tryWalk_55 : decode cX7_tryWalk 55 = .ok (.ireturn, 1) := dX7_tryWalk_r29.2.2.2.2.2.2.2.2.2.2.2.2.1
def wq_121_13 (c1 : Nat) (r1 : Nat) (v2 : Int32) (Q : Int32 → zf_Me → Prop) : Nat → Int32 → zf_Me → Prop
  | 0, _, _ => False
  | n + 1, v3, m => ((v3.toInt ≥ v2.toInt → Q (-1) m) ∧ (v3.toInt < v2.toInt → wp_24 c1 r1 v3 m (fun x3 m4 => wp_52 16 3 17 x3 m4 (fun b5 m6 => ((b5 = true → wp_56 16 3 17 x3 m6 (fun m8 => wq_121_13 c1 r1 v2 Q n (v3 + 1) m8)) ∧ (b5 = false → Q v3 m6))))))
theorem zq_121_13 {d : Nat} (hd : 4 ≤ d) {c1 : Nat} {r1 : Nat} (hp1 : zf_shelf c1 r1) {v2 : Int32} {Q : Int32 → zf_Me → Prop} : ∀ (n : Nat) (v3 : Int32) (m : zf_Me), wq_121_13 c1 r1 v2 Q n v3 m → zf_W none 0 0 d zt_121 13 [some (.inr (.inr (1, 0))), some (.inr (.inr (1, c1))), some (.inl v2), some (.inl v3), none] [] m (zf_I Q) := by
  obtain ⟨e, rfl⟩ : ∃ z, d = z + 1 := ⟨d - 1, by omega⟩
  intro n
  induction n with
  | zero =>
    intro v3 m h
    exact h.elim
  | succ n ih =>
    intro v3 m h
    unfold wq_121_13 at h
    refine zf_ld (pc' := 14) (v := .inl v3) dX7_tryWalk_13 rfl (fun _ _ _ => rfl) rfl rfl rfl ?_
    refine zf_ld (pc' := 15) (v := .inl v2) dX7_tryWalk_14 rfl (fun _ _ _ => rfl) rfl rfl rfl ?_
    refine zf_icmp_ge (tgt := 54) (pc' := 18) dX7_tryWalk_15 rfl rfl (fun g => ?_) (fun g => ?_)
    · replace h := h.1 g
      refine zf_ic (v := (-1)) (pc' := 55) dX7_tryWalk_54 rfl rfl ?_
      exact zf_ri dX7_tryWalk_55 rfl h
    · replace h := h.2 g
      refine zf_ld (pc' := 19) (v := .inr (.inr (1, c1))) dX7_tryWalk_18 rfl (fun _ _ _ => rfl) rfl rfl rfl ?_
      refine zf_ld (pc' := 20) (v := .inl v3) dX7_tryWalk_19 rfl (fun _ _ _ => rfl) rfl rfl rfl ?_
      refine zf_iv (k := 24) (pc' := 23) (r := []) dX7_tryWalk_20 rfl rfl rfl rfl hp1.1 hp1.2.1 rfl rfl (zr_24 (by omega) hp1 h) (zf_kI (fun x3 m4 h => ?_))
      refine zf_st (pc' := 25) (L2 := [some (.inr (.inr (1, 0))), some (.inr (.inr (1, c1))), some (.inl v2), some (.inl v3), some (.inl x3)]) dX7_tryWalk_23 rfl (fun _ _ _ => rfl) rfl rfl rfl rfl rfl rfl ?_
      refine zf_ld (pc' := 26) (v := .inr (.inr (1, 0))) dX7_tryWalk_25 rfl (fun _ _ _ => rfl) rfl rfl rfl ?_
      refine zf_gfr (pc' := 29) (b := 16) dX7_tryWalk_26 rfl rfl (by decide) rfl rfl ?_
      refine zf_ld (pc' := 31) (v := .inl x3) dX7_tryWalk_29 rfl (fun _ _ _ => rfl) rfl rfl rfl ?_
      refine zf_iv (k := 52) (pc' := 34) (r := []) dX7_tryWalk_31 rfl rfl rfl rfl zf_walk16.1 zf_walk16.2.1 rfl rfl (zr_52 (by omega) zf_walk16 h) (zf_kB (fun b5 m6 h => ?_))
      refine zf_ib_ne (tgt := 39) (pc' := 37) dX7_tryWalk_34 rfl rfl (fun g => ?_) (fun g => ?_)
      · replace h := h.1 g
        refine zf_ld (pc' := 40) (v := .inr (.inr (1, 0))) dX7_tryWalk_39 rfl (fun _ _ _ => rfl) rfl rfl rfl ?_
        refine zf_gfr (pc' := 43) (b := 16) dX7_tryWalk_40 rfl rfl (by decide) rfl rfl ?_
        refine zf_ld (pc' := 45) (v := .inl x3) dX7_tryWalk_43 rfl (fun _ _ _ => rfl) rfl rfl rfl ?_
        refine zf_iv (k := 56) (pc' := 48) (r := []) dX7_tryWalk_45 rfl rfl rfl rfl zf_walk16.1 zf_walk16.2.1 rfl rfl (zr_56 (by omega) zf_walk16 h) (zf_kO (fun m8 h => ?_))
        refine zf_ii (y := (v3 + 1)) (L2 := [some (.inr (.inr (1, 0))), some (.inr (.inr (1, c1))), some (.inl v2), some (.inl (v3 + 1)), some (.inl x3)]) (pc' := 51) dX7_tryWalk_48 rfl rfl rfl rfl rfl ?_
        refine zf_goto (tgt := 13) dX7_tryWalk_51 rfl ?_
        exact zf_lo (ih _ _ h) ⟨rfl, rfl, rfl, rfl, trivial⟩
      · replace h := h.2 g
        refine zf_ld (pc' := 38) (v := .inl v3) dX7_tryWalk_37 rfl (fun _ _ _ => rfl) rfl rfl rfl ?_
        exact zf_ri dX7_tryWalk_38 rfl h
def wp_121 (c1 : Nat) (r1 : Nat) (v2 : Int32) (m : zf_Me) (Q : Int32 → zf_Me → Prop) : Prop := wp_43 16 3 17 2 3 8 m (fun m2 => (∃ n13, wq_121_13 c1 r1 v2 Q n13 0 m2))
theorem zr_121 {d : Nat} (hd : 4 ≤ d) {c1 : Nat} {r1 : Nat} (hp1 : zf_shelf c1 r1) {v2 : Int32} {Q : Int32 → zf_Me → Prop} {m : zf_Me} (h : wp_121 c1 r1 v2 m Q) : zf_M d 121 [.inr (.inr (1, 0)), .inr (.inr (1, c1)), .inl v2] m (zf_I Q) := by
  obtain ⟨e, rfl⟩ : ∃ z, d = z + 1 := ⟨d - 1, by omega⟩
  unfold wp_121 at h
  refine zf_M_of (Nat.le_of_ble_eq_true rfl) zm_121 (L := [some (.inr (.inr (1, 0))), some (.inr (.inr (1, c1))), some (.inl v2), none, none]) rfl ?_
  refine zf_ld (pc' := 1) (v := .inr (.inr (1, 0))) dX7_tryWalk_0 rfl (fun _ _ _ => rfl) rfl rfl rfl ?_
  refine zf_gfr (pc' := 4) (b := 16) dX7_tryWalk_1 rfl rfl (by decide) rfl rfl ?_
  refine zf_ld (pc' := 5) (v := .inr (.inr (1, 0))) dX7_tryWalk_4 rfl (fun _ _ _ => rfl) rfl rfl rfl ?_
  refine zf_gfr (pc' := 8) (b := 2) dX7_tryWalk_5 rfl rfl (by decide) rfl rfl ?_
  refine zf_iv (k := 43) (pc' := 11) (r := []) dX7_tryWalk_8 rfl rfl rfl rfl zf_walk16.1 zf_walk16.2.1 rfl rfl (zr_43 (by omega) zf_walk16 zf_walk2 h) (zf_kO (fun m2 h => ?_))
  refine zf_ic (v := 0) (pc' := 12) dX7_tryWalk_11 rfl rfl ?_
  refine zf_st (pc' := 13) (L2 := [some (.inr (.inr (1, 0))), some (.inr (.inr (1, c1))), some (.inl v2), some (.inl 0), none]) dX7_tryWalk_12 rfl (fun _ _ _ => rfl) rfl rfl rfl rfl rfl rfl ?_
  obtain ⟨n13, h⟩ := h
  exact zf_lo (zq_121_13 (by omega) hp1 n13 _ _ h) ⟨rfl, rfl, rfl, rfl, trivial⟩
def zt_94 : zx_MT := (7, yX7_judge, cX7_judge, 4, (some FieldType.int), 2, 0)
theorem zm_94 : zx_m 94 = zt_94 := rfl
theorem dX7_judge_r0 : zdcP cX7_judge 0 [(.aload_n 0, 1), (.iload_n 1, 1), (.iload_n 2, 1), (.invokevirtual 267, 3), (.istore_n 3, 1), (.iload_n 3, 1), (.ifCond .eq 9, 3), (.aload_n 0, 1), (.iload_n 3, 1), (.invokevirtual 162, 3), (.ireturn, 1), (.aload_n 0, 1), (.aload_n 0, 1), (.getfield 11, 3), (.iload_n 1, 1), (.aaload, 1)] := zdcA_ok (by decide +kernel)
theorem dX7_judge_0 : decode cX7_judge 0 = .ok (.aload_n 0, 1) := dX7_judge_r0.1
theorem dX7_judge_1 : decode cX7_judge 1 = .ok (.iload_n 1, 1) := dX7_judge_r0.2.1
theorem dX7_judge_2 : decode cX7_judge 2 = .ok (.iload_n 2, 1) := dX7_judge_r0.2.2.1
theorem dX7_judge_3 : decode cX7_judge 3 = .ok (.invokevirtual 267, 3) := dX7_judge_r0.2.2.2.1
theorem dX7_judge_6 : decode cX7_judge 6 = .ok (.istore_n 3, 1) := dX7_judge_r0.2.2.2.2.1
theorem dX7_judge_7 : decode cX7_judge 7 = .ok (.iload_n 3, 1) := dX7_judge_r0.2.2.2.2.2.1
theorem dX7_judge_8 : decode cX7_judge 8 = .ok (.ifCond .eq 9, 3) := dX7_judge_r0.2.2.2.2.2.2.1
theorem dX7_judge_11 : decode cX7_judge 11 = .ok (.aload_n 0, 1) := dX7_judge_r0.2.2.2.2.2.2.2.1
theorem dX7_judge_12 : decode cX7_judge 12 = .ok (.iload_n 3, 1) := dX7_judge_r0.2.2.2.2.2.2.2.2.1
theorem dX7_judge_13 : decode cX7_judge 13 = .ok (.invokevirtual 162, 3) := dX7_judge_r0.2.2.2.2.2.2.2.2.2.1
theorem dX7_judge_16 : decode cX7_judge 16 = .ok (.ireturn, 1) := dX7_judge_r0.2.2.2.2.2.2.2.2.2.2.1
theorem dX7_judge_17 : decode cX7_judge 17 = .ok (.aload_n 0, 1) := dX7_judge_r0.2.2.2.2.2.2.2.2.2.2.2.1
theorem dX7_judge_18 : decode cX7_judge 18 = .ok (.aload_n 0, 1) := dX7_judge_r0.2.2.2.2.2.2.2.2.2.2.2.2.1
theorem dX7_judge_19 : decode cX7_judge 19 = .ok (.getfield 11, 3) := dX7_judge_r0.2.2.2.2.2.2.2.2.2.2.2.2.2.1
theorem dX7_judge_22 : decode cX7_judge 22 = .ok (.iload_n 1, 1) := dX7_judge_r0.2.2.2.2.2.2.2.2.2.2.2.2.2.2.1
theorem dX7_judge_23 : decode cX7_judge 23 = .ok (.aaload, 1) := dX7_judge_r0.2.2.2.2.2.2.2.2.2.2.2.2.2.2.2.1
theorem dX7_judge_r24 : zdcP cX7_judge 24 [(.iload_n 2, 1), (.invokevirtual 270, 3), (.ireturn, 1)] := zdcA_ok (by decide +kernel)
theorem dX7_judge_24 : decode cX7_judge 24 = .ok (.iload_n 2, 1) := dX7_judge_r24.1
theorem dX7_judge_25 : decode cX7_judge 25 = .ok (.invokevirtual 270, 3) := dX7_judge_r24.2.1
theorem dX7_judge_28 : decode cX7_judge 28 = .ok (.ireturn, 1) := dX7_judge_r24.2.2.1
def wp_94 (v1 : Int32) (v2 : Int32) (m : zf_Me) (Q : Int32 → zf_Me → Prop) : Prop := wp_113 v1 v2 m (fun x1 m2 => ((x1.toInt = 0 → ((0 ≤ (Int32.toInt v1) ∧ (Int32.toInt v1) < 8) ∧ wp_121 (47 + 2 * (Int32.toInt v1).toNat) (48 + 2 * (Int32.toInt v1).toNat) v2 m2 (fun x5 m6 => Q x5 m6))) ∧ (¬ x1.toInt = 0 → wp_110 x1 m2 (fun x7 m8 => Q x7 m8))))
theorem zr_94 {d : Nat} (hd : 5 ≤ d) {v1 : Int32} {v2 : Int32} {Q : Int32 → zf_Me → Prop} {m : zf_Me} (h : wp_94 v1 v2 m Q) : zf_M d 94 [.inr (.inr (1, 0)), .inl v1, .inl v2] m (zf_I Q) := by
  obtain ⟨e, rfl⟩ : ∃ z, d = z + 1 := ⟨d - 1, by omega⟩
  unfold wp_94 at h
  refine zf_M_of (Nat.le_of_ble_eq_true rfl) zm_94 (L := [some (.inr (.inr (1, 0))), some (.inl v1), some (.inl v2), none]) rfl ?_
  refine zf_ld (pc' := 1) (v := .inr (.inr (1, 0))) dX7_judge_0 rfl (fun _ _ _ => rfl) rfl rfl rfl ?_
  refine zf_ld (pc' := 2) (v := .inl v1) dX7_judge_1 rfl (fun _ _ _ => rfl) rfl rfl rfl ?_
  refine zf_ld (pc' := 3) (v := .inl v2) dX7_judge_2 rfl (fun _ _ _ => rfl) rfl rfl rfl ?_
  refine zf_iv (k := 113) (pc' := 6) (r := []) dX7_judge_3 rfl rfl rfl rfl (by decide) rfl rfl rfl (zr_113 (by omega) h) (zf_kI (fun x1 m2 h => ?_))
  refine zf_st (pc' := 7) (L2 := [some (.inr (.inr (1, 0))), some (.inl v1), some (.inl v2), some (.inl x1)]) dX7_judge_6 rfl (fun _ _ _ => rfl) rfl rfl rfl rfl rfl rfl ?_
  refine zf_ld (pc' := 8) (v := .inl x1) dX7_judge_7 rfl (fun _ _ _ => rfl) rfl rfl rfl ?_
  refine zf_if_eq (tgt := 17) (pc' := 11) dX7_judge_8 rfl rfl (fun g => ?_) (fun g => ?_)
  · replace h := h.1 g
    refine zf_ld (pc' := 18) (v := .inr (.inr (1, 0))) dX7_judge_17 rfl (fun _ _ _ => rfl) rfl rfl rfl ?_
    refine zf_ld (pc' := 19) (v := .inr (.inr (1, 0))) dX7_judge_18 rfl (fun _ _ _ => rfl) rfl rfl rfl ?_
    refine zf_gfr (pc' := 22) (b := 1) dX7_judge_19 rfl rfl (by decide) rfl rfl ?_
    refine zf_ld (pc' := 23) (v := .inl v1) dX7_judge_22 rfl (fun _ _ _ => rfl) rfl rfl rfl ?_
    refine zf_aal (b := 47) (n := 8) (pc' := 24) dX7_judge_23 rfl (by decide) rfl (by decide) rfl h.1 zf_row1 ?_
    have hb3 := h.1
    replace h := h.2
    have hx4 : zf_shelf (47 + 2 * (Int32.toInt v1).toNat) (48 + 2 * (Int32.toInt v1).toNat) := zf_shelves (by omega)
    refine zf_ld (pc' := 25) (v := .inl v2) dX7_judge_24 rfl (fun _ _ _ => rfl) rfl rfl rfl ?_
    refine zf_iv (k := 121) (pc' := 28) (r := []) dX7_judge_25 rfl rfl rfl rfl (by decide) rfl rfl rfl (zr_121 (by omega) hx4 h) (zf_kI (fun x5 m6 h => ?_))
    exact zf_ri dX7_judge_28 rfl h
  · replace h := h.2 g
    refine zf_ld (pc' := 12) (v := .inr (.inr (1, 0))) dX7_judge_11 rfl (fun _ _ _ => rfl) rfl rfl rfl ?_
    refine zf_ld (pc' := 13) (v := .inl x1) dX7_judge_12 rfl (fun _ _ _ => rfl) rfl rfl rfl ?_
    refine zf_iv (k := 110) (pc' := 16) (r := []) dX7_judge_13 rfl rfl rfl rfl (by decide) rfl rfl rfl (zr_110 (by omega) h) (zf_kI (fun x7 m8 h => ?_))
    exact zf_ri dX7_judge_16 rfl h
end
