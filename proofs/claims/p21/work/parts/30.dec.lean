/-! part 30: methods 70..: laid by wip/flat/dec.py -/
def zt_70 : zx_MT := (7, yX7_copy, cX7_copy, 9, (some FieldType.int), 5, 0)
theorem zm_70 : zx_m 70 = zt_70 := rfl
theorem dX7_copy_r0 : zdcP cX7_copy 0 [(.aload_n 0, 1), (.iload_n 1, 1), (.iload_n 2, 1), (.invokevirtual 100, 3), (.istore 6, 2), (.iload 6, 2), (.ifCond .eq 10, 3), (.aload_n 0, 1), (.iload 6, 2), (.invokevirtual 82, 3), (.ireturn, 1), (.iload 5, 2), (.ifCond .ge 9, 3), (.aload_n 0, 1), (.iconst 4, 1), (.invokevirtual 82, 3)] := zdcA_ok (by decide +kernel)
theorem dX7_copy_0 : decode cX7_copy 0 = .ok (.aload_n 0, 1) := dX7_copy_r0.1
theorem dX7_copy_1 : decode cX7_copy 1 = .ok (.iload_n 1, 1) := dX7_copy_r0.2.1
theorem dX7_copy_2 : decode cX7_copy 2 = .ok (.iload_n 2, 1) := dX7_copy_r0.2.2.1
theorem dX7_copy_3 : decode cX7_copy 3 = .ok (.invokevirtual 100, 3) := dX7_copy_r0.2.2.2.1
theorem dX7_copy_6 : decode cX7_copy 6 = .ok (.istore 6, 2) := dX7_copy_r0.2.2.2.2.1
theorem dX7_copy_8 : decode cX7_copy 8 = .ok (.iload 6, 2) := dX7_copy_r0.2.2.2.2.2.1
theorem dX7_copy_10 : decode cX7_copy 10 = .ok (.ifCond .eq 10, 3) := dX7_copy_r0.2.2.2.2.2.2.1
theorem dX7_copy_13 : decode cX7_copy 13 = .ok (.aload_n 0, 1) := dX7_copy_r0.2.2.2.2.2.2.2.1
theorem dX7_copy_14 : decode cX7_copy 14 = .ok (.iload 6, 2) := dX7_copy_r0.2.2.2.2.2.2.2.2.1
theorem dX7_copy_16 : decode cX7_copy 16 = .ok (.invokevirtual 82, 3) := dX7_copy_r0.2.2.2.2.2.2.2.2.2.1
theorem dX7_copy_19 : decode cX7_copy 19 = .ok (.ireturn, 1) := dX7_copy_r0.2.2.2.2.2.2.2.2.2.2.1
theorem dX7_copy_20 : decode cX7_copy 20 = .ok (.iload 5, 2) := dX7_copy_r0.2.2.2.2.2.2.2.2.2.2.2.1
theorem dX7_copy_22 : decode cX7_copy 22 = .ok (.ifCond .ge 9, 3) := dX7_copy_r0.2.2.2.2.2.2.2.2.2.2.2.2.1
theorem dX7_copy_25 : decode cX7_copy 25 = .ok (.aload_n 0, 1) := dX7_copy_r0.2.2.2.2.2.2.2.2.2.2.2.2.2.1
theorem dX7_copy_26 : decode cX7_copy 26 = .ok (.iconst 4, 1) := dX7_copy_r0.2.2.2.2.2.2.2.2.2.2.2.2.2.2.1
theorem dX7_copy_27 : decode cX7_copy 27 = .ok (.invokevirtual 82, 3) := dX7_copy_r0.2.2.2.2.2.2.2.2.2.2.2.2.2.2.2.1
theorem dX7_copy_r30 : zdcP cX7_copy 30 [(.ireturn, 1), (.aload_n 0, 1), (.getfield 11, 3), (.iload_n 1, 1), (.aaload, 1), (.astore 7, 2), (.aload_n 0, 1), (.getfield 11, 3), (.iload_n 2, 1), (.aaload, 1), (.astore 8, 2), (.aload 7, 2), (.iload_n 3, 1), (.iload 5, 2), (.invokevirtual 104, 3), (.ifCond .eq 15, 3)] := zdcA_ok (by decide +kernel)
theorem dX7_copy_30 : decode cX7_copy 30 = .ok (.ireturn, 1) := dX7_copy_r30.1
theorem dX7_copy_31 : decode cX7_copy 31 = .ok (.aload_n 0, 1) := dX7_copy_r30.2.1
theorem dX7_copy_32 : decode cX7_copy 32 = .ok (.getfield 11, 3) := dX7_copy_r30.2.2.1
theorem dX7_copy_35 : decode cX7_copy 35 = .ok (.iload_n 1, 1) := dX7_copy_r30.2.2.2.1
theorem dX7_copy_36 : decode cX7_copy 36 = .ok (.aaload, 1) := dX7_copy_r30.2.2.2.2.1
theorem dX7_copy_37 : decode cX7_copy 37 = .ok (.astore 7, 2) := dX7_copy_r30.2.2.2.2.2.1
theorem dX7_copy_39 : decode cX7_copy 39 = .ok (.aload_n 0, 1) := dX7_copy_r30.2.2.2.2.2.2.1
theorem dX7_copy_40 : decode cX7_copy 40 = .ok (.getfield 11, 3) := dX7_copy_r30.2.2.2.2.2.2.2.1
theorem dX7_copy_43 : decode cX7_copy 43 = .ok (.iload_n 2, 1) := dX7_copy_r30.2.2.2.2.2.2.2.2.1
theorem dX7_copy_44 : decode cX7_copy 44 = .ok (.aaload, 1) := dX7_copy_r30.2.2.2.2.2.2.2.2.2.1
theorem dX7_copy_45 : decode cX7_copy 45 = .ok (.astore 8, 2) := dX7_copy_r30.2.2.2.2.2.2.2.2.2.2.1
theorem dX7_copy_47 : decode cX7_copy 47 = .ok (.aload 7, 2) := dX7_copy_r30.2.2.2.2.2.2.2.2.2.2.2.1
theorem dX7_copy_49 : decode cX7_copy 49 = .ok (.iload_n 3, 1) := dX7_copy_r30.2.2.2.2.2.2.2.2.2.2.2.2.1
theorem dX7_copy_50 : decode cX7_copy 50 = .ok (.iload 5, 2) := dX7_copy_r30.2.2.2.2.2.2.2.2.2.2.2.2.2.1
theorem dX7_copy_52 : decode cX7_copy 52 = .ok (.invokevirtual 104, 3) := dX7_copy_r30.2.2.2.2.2.2.2.2.2.2.2.2.2.2.1
theorem dX7_copy_55 : decode cX7_copy 55 = .ok (.ifCond .eq 15, 3) := dX7_copy_r30.2.2.2.2.2.2.2.2.2.2.2.2.2.2.2.1
theorem dX7_copy_r58 : zdcP cX7_copy 58 [(.aload 8, 2), (.iload 4, 2), (.iload 5, 2), (.invokevirtual 104, 3), (.ifCond .ne 9, 3), (.aload_n 0, 1), (.iconst 5, 1), (.invokevirtual 82, 3), (.ireturn, 1), (.aload 7, 2), (.getfield 108, 3), (.iload_n 3, 1), (.aload 8, 2), (.getfield 108, 3), (.iload 4, 2), (.iload 5, 2)] := zdcA_ok (by decide +kernel)
theorem dX7_copy_58 : decode cX7_copy 58 = .ok (.aload 8, 2) := dX7_copy_r58.1
theorem dX7_copy_60 : decode cX7_copy 60 = .ok (.iload 4, 2) := dX7_copy_r58.2.1
theorem dX7_copy_62 : decode cX7_copy 62 = .ok (.iload 5, 2) := dX7_copy_r58.2.2.1
theorem dX7_copy_64 : decode cX7_copy 64 = .ok (.invokevirtual 104, 3) := dX7_copy_r58.2.2.2.1
theorem dX7_copy_67 : decode cX7_copy 67 = .ok (.ifCond .ne 9, 3) := dX7_copy_r58.2.2.2.2.1
theorem dX7_copy_70 : decode cX7_copy 70 = .ok (.aload_n 0, 1) := dX7_copy_r58.2.2.2.2.2.1
theorem dX7_copy_71 : decode cX7_copy 71 = .ok (.iconst 5, 1) := dX7_copy_r58.2.2.2.2.2.2.1
theorem dX7_copy_72 : decode cX7_copy 72 = .ok (.invokevirtual 82, 3) := dX7_copy_r58.2.2.2.2.2.2.2.1
theorem dX7_copy_75 : decode cX7_copy 75 = .ok (.ireturn, 1) := dX7_copy_r58.2.2.2.2.2.2.2.2.1
theorem dX7_copy_76 : decode cX7_copy 76 = .ok (.aload 7, 2) := dX7_copy_r58.2.2.2.2.2.2.2.2.2.1
theorem dX7_copy_78 : decode cX7_copy 78 = .ok (.getfield 108, 3) := dX7_copy_r58.2.2.2.2.2.2.2.2.2.2.1
theorem dX7_copy_81 : decode cX7_copy 81 = .ok (.iload_n 3, 1) := dX7_copy_r58.2.2.2.2.2.2.2.2.2.2.2.1
theorem dX7_copy_82 : decode cX7_copy 82 = .ok (.aload 8, 2) := dX7_copy_r58.2.2.2.2.2.2.2.2.2.2.2.2.1
theorem dX7_copy_84 : decode cX7_copy 84 = .ok (.getfield 108, 3) := dX7_copy_r58.2.2.2.2.2.2.2.2.2.2.2.2.2.1
theorem dX7_copy_87 : decode cX7_copy 87 = .ok (.iload 4, 2) := dX7_copy_r58.2.2.2.2.2.2.2.2.2.2.2.2.2.2.1
theorem dX7_copy_89 : decode cX7_copy 89 = .ok (.iload 5, 2) := dX7_copy_r58.2.2.2.2.2.2.2.2.2.2.2.2.2.2.2.1
theorem dX7_copy_r91 : zdcP cX7_copy 91 [(.invokestatic 112, 3), (.iconst 1, 1), (.ireturn, 1)] := zdcA_ok (by decide +kernel)
theorem dX7_copy_91 : decode cX7_copy 91 = .ok (.invokestatic 112, 3) := dX7_copy_r91.1
theorem dX7_copy_94 : decode cX7_copy 94 = .ok (.iconst 1, 1) := dX7_copy_r91.2.1
theorem dX7_copy_95 : decode cX7_copy 95 = .ok (.ireturn, 1) := dX7_copy_r91.2.2.1
def wp_70 (v1 : Int32) (v2 : Int32) (v3 : Int32) (v4 : Int32) (v5 : Int32) (m : zf_Me) (Q : Int32 → zf_Me → Prop) : Prop := wp_112 v1 v2 m (fun x1 m2 => ((x1.toInt = 0 → ((v5.toInt ≥ 0 → ((0 ≤ (Int32.toInt v1) ∧ (Int32.toInt v1) < 8) ∧ ((0 ≤ (Int32.toInt v2) ∧ (Int32.toInt v2) < 8) ∧ wp_21 (47 + 2 * (Int32.toInt v1).toNat) (48 + 2 * (Int32.toInt v1).toNat) v3 v5 m2 (fun b7 m8 => ((b7 = false → wp_109 5 m8 (fun x9 m10 => Q x9 m10)) ∧ (b7 = true → wp_21 (47 + 2 * (Int32.toInt v2).toNat) (48 + 2 * (Int32.toInt v2).toNat) v4 v5 m8 (fun b11 m12 => ((b11 = true → ((0 ≤ (Int32.toInt v3) ∧ 0 ≤ (Int32.toInt v4) ∧ 0 ≤ (Int32.toInt v5) ∧ (Int32.toInt v3) + (Int32.toInt v5) ≤ (160 : Int) ∧ (Int32.toInt v4) + (Int32.toInt v5) ≤ (160 : Int)) ∧ ∀ m13, m13 = zf_cpl m12 (48 + 2 * (Int32.toInt v1).toNat) (48 + 2 * (Int32.toInt v2).toNat) (Int32.toInt v3).toNat (Int32.toInt v4).toNat (Int32.toInt v5).toNat → Q 1 m13)) ∧ (b11 = false → wp_109 5 m12 (fun x15 m16 => Q x15 m16)))))))))) ∧ (v5.toInt < 0 → wp_109 4 m2 (fun x17 m18 => Q x17 m18)))) ∧ (¬ x1.toInt = 0 → wp_109 x1 m2 (fun x19 m20 => Q x19 m20))))
theorem zr_70 {d : Nat} (hd : 3 ≤ d) {v1 : Int32} {v2 : Int32} {v3 : Int32} {v4 : Int32} {v5 : Int32} {Q : Int32 → zf_Me → Prop} {m : zf_Me} (h : wp_70 v1 v2 v3 v4 v5 m Q) : zf_M d 70 [.inr (.inr (1, 0)), .inl v1, .inl v2, .inl v3, .inl v4, .inl v5] m (zf_I Q) := by
  obtain ⟨e, rfl⟩ : ∃ z, d = z + 1 := ⟨d - 1, by omega⟩
  unfold wp_70 at h
  refine zf_M_of (Nat.le_of_ble_eq_true rfl) zm_70 (L := [some (.inr (.inr (1, 0))), some (.inl v1), some (.inl v2), some (.inl v3), some (.inl v4), some (.inl v5), none, none, none]) rfl ?_
  refine zf_ld (pc' := 1) (v := .inr (.inr (1, 0))) dX7_copy_0 rfl (fun _ _ _ => rfl) rfl rfl rfl ?_
  refine zf_ld (pc' := 2) (v := .inl v1) dX7_copy_1 rfl (fun _ _ _ => rfl) rfl rfl rfl ?_
  refine zf_ld (pc' := 3) (v := .inl v2) dX7_copy_2 rfl (fun _ _ _ => rfl) rfl rfl rfl ?_
  refine zf_iv (k := 112) (pc' := 6) (r := []) dX7_copy_3 rfl rfl rfl rfl (by decide) rfl rfl rfl (zr_112 (by omega) h) (zf_kI (fun x1 m2 h => ?_))
  refine zf_st (pc' := 8) (L2 := [some (.inr (.inr (1, 0))), some (.inl v1), some (.inl v2), some (.inl v3), some (.inl v4), some (.inl v5), some (.inl x1), none, none]) dX7_copy_6 rfl (fun _ _ _ => rfl) rfl rfl rfl rfl rfl rfl ?_
  refine zf_ld (pc' := 10) (v := .inl x1) dX7_copy_8 rfl (fun _ _ _ => rfl) rfl rfl rfl ?_
  refine zf_if_eq (tgt := 20) (pc' := 13) dX7_copy_10 rfl rfl (fun g => ?_) (fun g => ?_)
  · replace h := h.1 g
    refine zf_ld (pc' := 22) (v := .inl v5) dX7_copy_20 rfl (fun _ _ _ => rfl) rfl rfl rfl ?_
    refine zf_if_ge (tgt := 31) (pc' := 25) dX7_copy_22 rfl rfl (fun g => ?_) (fun g => ?_)
    · replace h := h.1 g
      refine zf_ld (pc' := 32) (v := .inr (.inr (1, 0))) dX7_copy_31 rfl (fun _ _ _ => rfl) rfl rfl rfl ?_
      refine zf_gfr (pc' := 35) (b := 1) dX7_copy_32 rfl rfl (by decide) rfl rfl ?_
      refine zf_ld (pc' := 36) (v := .inl v1) dX7_copy_35 rfl (fun _ _ _ => rfl) rfl rfl rfl ?_
      refine zf_aal (b := 47) (n := 8) (pc' := 37) dX7_copy_36 rfl (by decide) rfl (by decide) rfl h.1 zf_row1 ?_
      have hb3 := h.1
      replace h := h.2
      have hx4 : zf_shelf (47 + 2 * (Int32.toInt v1).toNat) (48 + 2 * (Int32.toInt v1).toNat) := zf_shelves (by omega)
      refine zf_st (pc' := 39) (L2 := [some (.inr (.inr (1, 0))), some (.inl v1), some (.inl v2), some (.inl v3), some (.inl v4), some (.inl v5), some (.inl x1), some (.inr (.inr (1, (47 + 2 * (Int32.toInt v1).toNat)))), none]) dX7_copy_37 rfl (fun _ _ _ => rfl) rfl rfl rfl rfl rfl rfl ?_
      refine zf_ld (pc' := 40) (v := .inr (.inr (1, 0))) dX7_copy_39 rfl (fun _ _ _ => rfl) rfl rfl rfl ?_
      refine zf_gfr (pc' := 43) (b := 1) dX7_copy_40 rfl rfl (by decide) rfl rfl ?_
      refine zf_ld (pc' := 44) (v := .inl v2) dX7_copy_43 rfl (fun _ _ _ => rfl) rfl rfl rfl ?_
      refine zf_aal (b := 47) (n := 8) (pc' := 45) dX7_copy_44 rfl (by decide) rfl (by decide) rfl h.1 zf_row1 ?_
      have hb5 := h.1
      replace h := h.2
      have hx6 : zf_shelf (47 + 2 * (Int32.toInt v2).toNat) (48 + 2 * (Int32.toInt v2).toNat) := zf_shelves (by omega)
      refine zf_st (pc' := 47) (L2 := [some (.inr (.inr (1, 0))), some (.inl v1), some (.inl v2), some (.inl v3), some (.inl v4), some (.inl v5), some (.inl x1), some (.inr (.inr (1, (47 + 2 * (Int32.toInt v1).toNat)))), some (.inr (.inr (1, (47 + 2 * (Int32.toInt v2).toNat))))]) dX7_copy_45 rfl (fun _ _ _ => rfl) rfl rfl rfl rfl rfl rfl ?_
      refine zf_ld (pc' := 49) (v := .inr (.inr (1, (47 + 2 * (Int32.toInt v1).toNat)))) dX7_copy_47 rfl (fun _ _ _ => rfl) rfl rfl rfl ?_
      refine zf_ld (pc' := 50) (v := .inl v3) dX7_copy_49 rfl (fun _ _ _ => rfl) rfl rfl rfl ?_
      refine zf_ld (pc' := 52) (v := .inl v5) dX7_copy_50 rfl (fun _ _ _ => rfl) rfl rfl rfl ?_
      refine zf_iv (k := 21) (pc' := 55) (r := []) dX7_copy_52 rfl rfl rfl rfl hx4.1 hx4.2.1 rfl rfl (zr_21 (by omega) hx4 h) (zf_kB (fun b7 m8 h => ?_))
      refine zf_ib_eq (tgt := 70) (pc' := 58) dX7_copy_55 rfl rfl (fun g => ?_) (fun g => ?_)
      · replace h := h.1 g
        refine zf_ld (pc' := 71) (v := .inr (.inr (1, 0))) dX7_copy_70 rfl (fun _ _ _ => rfl) rfl rfl rfl ?_
        refine zf_ic (v := 5) (pc' := 72) dX7_copy_71 rfl rfl ?_
        refine zf_iv (k := 109) (pc' := 75) (r := []) dX7_copy_72 rfl rfl rfl rfl (by decide) rfl rfl rfl (zr_109 (by omega) h) (zf_kI (fun x9 m10 h => ?_))
        exact zf_ri dX7_copy_75 rfl h
      · replace h := h.2 g
        refine zf_ld (pc' := 60) (v := .inr (.inr (1, (47 + 2 * (Int32.toInt v2).toNat)))) dX7_copy_58 rfl (fun _ _ _ => rfl) rfl rfl rfl ?_
        refine zf_ld (pc' := 62) (v := .inl v4) dX7_copy_60 rfl (fun _ _ _ => rfl) rfl rfl rfl ?_
        refine zf_ld (pc' := 64) (v := .inl v5) dX7_copy_62 rfl (fun _ _ _ => rfl) rfl rfl rfl ?_
        refine zf_iv (k := 21) (pc' := 67) (r := []) dX7_copy_64 rfl rfl rfl rfl hx6.1 hx6.2.1 rfl rfl (zr_21 (by omega) hx6 h) (zf_kB (fun b11 m12 h => ?_))
        refine zf_ib_ne (tgt := 76) (pc' := 70) dX7_copy_67 rfl rfl (fun g => ?_) (fun g => ?_)
        · replace h := h.1 g
          refine zf_ld (pc' := 78) (v := .inr (.inr (1, (47 + 2 * (Int32.toInt v1).toNat)))) dX7_copy_76 rfl (fun _ _ _ => rfl) rfl rfl rfl ?_
          refine zf_gfr (pc' := 81) (b := (48 + 2 * (Int32.toInt v1).toNat)) dX7_copy_78 rfl rfl hx4.1 hx4.2.1 rfl ?_
          refine zf_ld (pc' := 82) (v := .inl v3) dX7_copy_81 rfl (fun _ _ _ => rfl) rfl rfl rfl ?_
          refine zf_ld (pc' := 84) (v := .inr (.inr (1, (47 + 2 * (Int32.toInt v2).toNat)))) dX7_copy_82 rfl (fun _ _ _ => rfl) rfl rfl rfl ?_
          refine zf_gfr (pc' := 87) (b := (48 + 2 * (Int32.toInt v2).toNat)) dX7_copy_84 rfl rfl hx6.1 hx6.2.1 rfl ?_
          refine zf_ld (pc' := 89) (v := .inl v4) dX7_copy_87 rfl (fun _ _ _ => rfl) rfl rfl rfl ?_
          refine zf_ld (pc' := 91) (v := .inl v5) dX7_copy_89 rfl (fun _ _ _ => rfl) rfl rfl rfl ?_
          refine zf_acl (pc' := 94) dX7_copy_91 rfl rfl (q0 := _) rfl hx4.2.2.1 hx6.2.2.1 hx4.2.2.2 hx6.2.2.2 rfl h.1 (fun m13 e14 => ?_)
          replace h := h.2 m13 e14
          refine zf_ic (v := 1) (pc' := 95) dX7_copy_94 rfl rfl ?_
          exact zf_ri dX7_copy_95 rfl h
        · replace h := h.2 g
          refine zf_ld (pc' := 71) (v := .inr (.inr (1, 0))) dX7_copy_70 rfl (fun _ _ _ => rfl) rfl rfl rfl ?_
          refine zf_ic (v := 5) (pc' := 72) dX7_copy_71 rfl rfl ?_
          refine zf_iv (k := 109) (pc' := 75) (r := []) dX7_copy_72 rfl rfl rfl rfl (by decide) rfl rfl rfl (zr_109 (by omega) h) (zf_kI (fun x15 m16 h => ?_))
          exact zf_ri dX7_copy_75 rfl h
    · replace h := h.2 g
      refine zf_ld (pc' := 26) (v := .inr (.inr (1, 0))) dX7_copy_25 rfl (fun _ _ _ => rfl) rfl rfl rfl ?_
      refine zf_ic (v := 4) (pc' := 27) dX7_copy_26 rfl rfl ?_
      refine zf_iv (k := 109) (pc' := 30) (r := []) dX7_copy_27 rfl rfl rfl rfl (by decide) rfl rfl rfl (zr_109 (by omega) h) (zf_kI (fun x17 m18 h => ?_))
      exact zf_ri dX7_copy_30 rfl h
  · replace h := h.2 g
    refine zf_ld (pc' := 14) (v := .inr (.inr (1, 0))) dX7_copy_13 rfl (fun _ _ _ => rfl) rfl rfl rfl ?_
    refine zf_ld (pc' := 16) (v := .inl x1) dX7_copy_14 rfl (fun _ _ _ => rfl) rfl rfl rfl ?_
    refine zf_iv (k := 109) (pc' := 19) (r := []) dX7_copy_16 rfl rfl rfl rfl (by decide) rfl rfl rfl (zr_109 (by omega) h) (zf_kI (fun x19 m20 h => ?_))
    exact zf_ri dX7_copy_19 rfl h
def zt_71 : zx_MT := (7, yX7_element, cX7_element, 3, (some FieldType.long), 2, 0)
theorem zm_71 : zx_m 71 = zt_71 := rfl
theorem dX7_element_r0 : zdcP cX7_element 0 [(.aload_n 0, 1), (.iload_n 1, 1), (.invokevirtual 90, 3), (.ifCond .ne 16, 3), (.aload_n 0, 1), (.getfield 11, 3), (.iload_n 1, 1), (.aaload, 1), (.iload_n 2, 1), (.invokevirtual 93, 3), (.ifCond .ne 5, 3), (.lconst 0, 1), (.lreturn, 1), (.aload_n 0, 1), (.getfield 11, 3), (.iload_n 1, 1)] := zdcA_ok (by decide +kernel)
theorem dX7_element_0 : decode cX7_element 0 = .ok (.aload_n 0, 1) := dX7_element_r0.1
theorem dX7_element_1 : decode cX7_element 1 = .ok (.iload_n 1, 1) := dX7_element_r0.2.1
theorem dX7_element_2 : decode cX7_element 2 = .ok (.invokevirtual 90, 3) := dX7_element_r0.2.2.1
theorem dX7_element_5 : decode cX7_element 5 = .ok (.ifCond .ne 16, 3) := dX7_element_r0.2.2.2.1
theorem dX7_element_8 : decode cX7_element 8 = .ok (.aload_n 0, 1) := dX7_element_r0.2.2.2.2.1
theorem dX7_element_9 : decode cX7_element 9 = .ok (.getfield 11, 3) := dX7_element_r0.2.2.2.2.2.1
theorem dX7_element_12 : decode cX7_element 12 = .ok (.iload_n 1, 1) := dX7_element_r0.2.2.2.2.2.2.1
theorem dX7_element_13 : decode cX7_element 13 = .ok (.aaload, 1) := dX7_element_r0.2.2.2.2.2.2.2.1
theorem dX7_element_14 : decode cX7_element 14 = .ok (.iload_n 2, 1) := dX7_element_r0.2.2.2.2.2.2.2.2.1
theorem dX7_element_15 : decode cX7_element 15 = .ok (.invokevirtual 93, 3) := dX7_element_r0.2.2.2.2.2.2.2.2.2.1
theorem dX7_element_18 : decode cX7_element 18 = .ok (.ifCond .ne 5, 3) := dX7_element_r0.2.2.2.2.2.2.2.2.2.2.1
theorem dX7_element_21 : decode cX7_element 21 = .ok (.lconst 0, 1) := dX7_element_r0.2.2.2.2.2.2.2.2.2.2.2.1
theorem dX7_element_22 : decode cX7_element 22 = .ok (.lreturn, 1) := dX7_element_r0.2.2.2.2.2.2.2.2.2.2.2.2.1
theorem dX7_element_23 : decode cX7_element 23 = .ok (.aload_n 0, 1) := dX7_element_r0.2.2.2.2.2.2.2.2.2.2.2.2.2.1
theorem dX7_element_24 : decode cX7_element 24 = .ok (.getfield 11, 3) := dX7_element_r0.2.2.2.2.2.2.2.2.2.2.2.2.2.2.1
theorem dX7_element_27 : decode cX7_element 27 = .ok (.iload_n 1, 1) := dX7_element_r0.2.2.2.2.2.2.2.2.2.2.2.2.2.2.2.1
theorem dX7_element_r28 : zdcP cX7_element 28 [(.aaload, 1), (.getfield 108, 3), (.iload_n 2, 1), (.laload, 1), (.lreturn, 1)] := zdcA_ok (by decide +kernel)
theorem dX7_element_28 : decode cX7_element 28 = .ok (.aaload, 1) := dX7_element_r28.1
theorem dX7_element_29 : decode cX7_element 29 = .ok (.getfield 108, 3) := dX7_element_r28.2.1
theorem dX7_element_32 : decode cX7_element 32 = .ok (.iload_n 2, 1) := dX7_element_r28.2.2.1
theorem dX7_element_33 : decode cX7_element 33 = .ok (.laload, 1) := dX7_element_r28.2.2.2.1
theorem dX7_element_34 : decode cX7_element 34 = .ok (.lreturn, 1) := dX7_element_r28.2.2.2.2.1
def wp_71 (v1 : Int32) (v2 : Int32) (m : zf_Me) (Q : Int64 → zf_Me → Prop) : Prop := wp_111 v1 m (fun x1 m2 => ((¬ x1.toInt = 0 → Q 0 m2) ∧ (x1.toInt = 0 → ((0 ≤ (Int32.toInt v1) ∧ (Int32.toInt v1) < 8) ∧ wp_20 (47 + 2 * (Int32.toInt v1).toNat) (48 + 2 * (Int32.toInt v1).toNat) v2 m2 (fun b5 m6 => ((b5 = true → ((0 ≤ (Int32.toInt v1) ∧ (Int32.toInt v1) < 8) ∧ ((0 ≤ (Int32.toInt v2) ∧ (Int32.toInt v2) < (160 : Int)) ∧ Q (m6.2 (48 + 2 * (Int32.toInt v1).toNat) (Int32.toInt v2).toNat) m6))) ∧ (b5 = false → Q 0 m6)))))))
theorem zr_71 {d : Nat} (hd : 2 ≤ d) {v1 : Int32} {v2 : Int32} {Q : Int64 → zf_Me → Prop} {m : zf_Me} (h : wp_71 v1 v2 m Q) : zf_M d 71 [.inr (.inr (1, 0)), .inl v1, .inl v2] m (zf_J Q) := by
  obtain ⟨e, rfl⟩ : ∃ z, d = z + 1 := ⟨d - 1, by omega⟩
  unfold wp_71 at h
  refine zf_M_of (Nat.le_of_ble_eq_true rfl) zm_71 (L := [some (.inr (.inr (1, 0))), some (.inl v1), some (.inl v2)]) rfl ?_
  refine zf_ld (pc' := 1) (v := .inr (.inr (1, 0))) dX7_element_0 rfl (fun _ _ _ => rfl) rfl rfl rfl ?_
  refine zf_ld (pc' := 2) (v := .inl v1) dX7_element_1 rfl (fun _ _ _ => rfl) rfl rfl rfl ?_
  refine zf_iv (k := 111) (pc' := 5) (r := []) dX7_element_2 rfl rfl rfl rfl (by decide) rfl rfl rfl (zr_111 (by omega) h) (zf_kI (fun x1 m2 h => ?_))
  refine zf_if_ne (tgt := 21) (pc' := 8) dX7_element_5 rfl rfl (fun g => ?_) (fun g => ?_)
  · replace h := h.1 g
    refine zf_in (pc' := 22) (S' := [.inr (.inl 0)]) dX7_element_21 rfl (fun _ _ _ => rfl) ?_
    exact zf_rl dX7_element_22 rfl h
  · replace h := h.2 g
    refine zf_ld (pc' := 9) (v := .inr (.inr (1, 0))) dX7_element_8 rfl (fun _ _ _ => rfl) rfl rfl rfl ?_
    refine zf_gfr (pc' := 12) (b := 1) dX7_element_9 rfl rfl (by decide) rfl rfl ?_
    refine zf_ld (pc' := 13) (v := .inl v1) dX7_element_12 rfl (fun _ _ _ => rfl) rfl rfl rfl ?_
    refine zf_aal (b := 47) (n := 8) (pc' := 14) dX7_element_13 rfl (by decide) rfl (by decide) rfl h.1 zf_row1 ?_
    have hb3 := h.1
    replace h := h.2
    have hx4 : zf_shelf (47 + 2 * (Int32.toInt v1).toNat) (48 + 2 * (Int32.toInt v1).toNat) := zf_shelves (by omega)
    refine zf_ld (pc' := 15) (v := .inl v2) dX7_element_14 rfl (fun _ _ _ => rfl) rfl rfl rfl ?_
    refine zf_iv (k := 20) (pc' := 18) (r := []) dX7_element_15 rfl rfl rfl rfl hx4.1 hx4.2.1 rfl rfl (zr_20 (by omega) hx4 h) (zf_kB (fun b5 m6 h => ?_))
    refine zf_ib_ne (tgt := 23) (pc' := 21) dX7_element_18 rfl rfl (fun g => ?_) (fun g => ?_)
    · replace h := h.1 g
      refine zf_ld (pc' := 24) (v := .inr (.inr (1, 0))) dX7_element_23 rfl (fun _ _ _ => rfl) rfl rfl rfl ?_
      refine zf_gfr (pc' := 27) (b := 1) dX7_element_24 rfl rfl (by decide) rfl rfl ?_
      refine zf_ld (pc' := 28) (v := .inl v1) dX7_element_27 rfl (fun _ _ _ => rfl) rfl rfl rfl ?_
      refine zf_aal (b := 47) (n := 8) (pc' := 29) dX7_element_28 rfl (by decide) rfl (by decide) rfl h.1 zf_row1 ?_
      have hb7 := h.1
      replace h := h.2
      have hx8 : zf_shelf (47 + 2 * (Int32.toInt v1).toNat) (48 + 2 * (Int32.toInt v1).toNat) := zf_shelves (by omega)
      refine zf_gfr (pc' := 32) (b := (48 + 2 * (Int32.toInt v1).toNat)) dX7_element_29 rfl rfl hx8.1 hx8.2.1 rfl ?_
      refine zf_ld (pc' := 33) (v := .inl v2) dX7_element_32 rfl (fun _ _ _ => rfl) rfl rfl rfl ?_
      refine zf_lal (pc' := 34) dX7_element_33 rfl hx8.2.2.1 hx8.2.2.2 h.1 rfl ?_
      replace h := h.2
      exact zf_rl dX7_element_34 rfl h
    · replace h := h.2 g
      refine zf_in (pc' := 22) (S' := [.inr (.inl 0)]) dX7_element_21 rfl (fun _ _ _ => rfl) ?_
      exact zf_rl dX7_element_22 rfl h
def zt_72 : zx_MT := (7, yX7_show, cX7_show, 3, (some FieldType.int), 2, 0)
theorem zm_72 : zx_m 72 = zt_72 := rfl
theorem dX7_show_r0 : zdcP cX7_show 0 [(.iload_n 1, 1), (.invokestatic 78, 3), (.ifCond .eq 22, 3), (.iload_n 2, 1), (.iconst (-1), 1), (.if_icmp .eq 23, 3), (.aload_n 0, 1), (.getfield 23, 3), (.getfield 30, 3), (.iload_n 2, 1), (.invokevirtual 118, 3), (.ifCond .ne 9, 3), (.aload_n 0, 1), (.iconst 1, 1), (.invokevirtual 82, 3), (.ireturn, 1)] := zdcA_ok (by decide +kernel)
theorem dX7_show_0 : decode cX7_show 0 = .ok (.iload_n 1, 1) := dX7_show_r0.1
theorem dX7_show_1 : decode cX7_show 1 = .ok (.invokestatic 78, 3) := dX7_show_r0.2.1
theorem dX7_show_4 : decode cX7_show 4 = .ok (.ifCond .eq 22, 3) := dX7_show_r0.2.2.1
theorem dX7_show_7 : decode cX7_show 7 = .ok (.iload_n 2, 1) := dX7_show_r0.2.2.2.1
theorem dX7_show_8 : decode cX7_show 8 = .ok (.iconst (-1), 1) := dX7_show_r0.2.2.2.2.1
theorem dX7_show_9 : decode cX7_show 9 = .ok (.if_icmp .eq 23, 3) := dX7_show_r0.2.2.2.2.2.1
theorem dX7_show_12 : decode cX7_show 12 = .ok (.aload_n 0, 1) := dX7_show_r0.2.2.2.2.2.2.1
theorem dX7_show_13 : decode cX7_show 13 = .ok (.getfield 23, 3) := dX7_show_r0.2.2.2.2.2.2.2.1
theorem dX7_show_16 : decode cX7_show 16 = .ok (.getfield 30, 3) := dX7_show_r0.2.2.2.2.2.2.2.2.1
theorem dX7_show_19 : decode cX7_show 19 = .ok (.iload_n 2, 1) := dX7_show_r0.2.2.2.2.2.2.2.2.2.1
theorem dX7_show_20 : decode cX7_show 20 = .ok (.invokevirtual 118, 3) := dX7_show_r0.2.2.2.2.2.2.2.2.2.2.1
theorem dX7_show_23 : decode cX7_show 23 = .ok (.ifCond .ne 9, 3) := dX7_show_r0.2.2.2.2.2.2.2.2.2.2.2.1
theorem dX7_show_26 : decode cX7_show 26 = .ok (.aload_n 0, 1) := dX7_show_r0.2.2.2.2.2.2.2.2.2.2.2.2.1
theorem dX7_show_27 : decode cX7_show 27 = .ok (.iconst 1, 1) := dX7_show_r0.2.2.2.2.2.2.2.2.2.2.2.2.2.1
theorem dX7_show_28 : decode cX7_show 28 = .ok (.invokevirtual 82, 3) := dX7_show_r0.2.2.2.2.2.2.2.2.2.2.2.2.2.2.1
theorem dX7_show_31 : decode cX7_show 31 = .ok (.ireturn, 1) := dX7_show_r0.2.2.2.2.2.2.2.2.2.2.2.2.2.2.2.1
theorem dX7_show_r32 : zdcP cX7_show 32 [(.aload_n 0, 1), (.getfield 11, 3), (.iload_n 1, 1), (.aaload, 1), (.iload_n 2, 1), (.putfield 121, 3), (.iload_n 2, 1), (.iconst (-1), 1), (.if_icmp .ne 7, 3), (.iconst 0, 1), (.goto 4, 3), (.iconst 1, 1), (.ireturn, 1)] := zdcA_ok (by decide +kernel)
theorem dX7_show_32 : decode cX7_show 32 = .ok (.aload_n 0, 1) := dX7_show_r32.1
theorem dX7_show_33 : decode cX7_show 33 = .ok (.getfield 11, 3) := dX7_show_r32.2.1
theorem dX7_show_36 : decode cX7_show 36 = .ok (.iload_n 1, 1) := dX7_show_r32.2.2.1
theorem dX7_show_37 : decode cX7_show 37 = .ok (.aaload, 1) := dX7_show_r32.2.2.2.1
theorem dX7_show_38 : decode cX7_show 38 = .ok (.iload_n 2, 1) := dX7_show_r32.2.2.2.2.1
theorem dX7_show_39 : decode cX7_show 39 = .ok (.putfield 121, 3) := dX7_show_r32.2.2.2.2.2.1
theorem dX7_show_42 : decode cX7_show 42 = .ok (.iload_n 2, 1) := dX7_show_r32.2.2.2.2.2.2.1
theorem dX7_show_43 : decode cX7_show 43 = .ok (.iconst (-1), 1) := dX7_show_r32.2.2.2.2.2.2.2.1
theorem dX7_show_44 : decode cX7_show 44 = .ok (.if_icmp .ne 7, 3) := dX7_show_r32.2.2.2.2.2.2.2.2.1
theorem dX7_show_47 : decode cX7_show 47 = .ok (.iconst 0, 1) := dX7_show_r32.2.2.2.2.2.2.2.2.2.1
theorem dX7_show_48 : decode cX7_show 48 = .ok (.goto 4, 3) := dX7_show_r32.2.2.2.2.2.2.2.2.2.2.1
theorem dX7_show_51 : decode cX7_show 51 = .ok (.iconst 1, 1) := dX7_show_r32.2.2.2.2.2.2.2.2.2.2.2.1
theorem dX7_show_52 : decode cX7_show 52 = .ok (.ireturn, 1) := dX7_show_r32.2.2.2.2.2.2.2.2.2.2.2.2.1
def wq_72_32 (v1 : Int32) (v2 : Int32) (m : zf_Me) (Q : Int32 → zf_Me → Prop) : Prop := ((0 ≤ (Int32.toInt v1) ∧ (Int32.toInt v1) < 8) ∧ (∀ m7, m7 = zf_u m (47 + 2 * (Int32.toInt v1).toNat) 1 v2 → ((¬ v2.toInt = (-1) → Q 1 m7) ∧ (v2.toInt = (-1) → Q 0 m7))))
theorem zq_72_32 {d : Nat} (hd : 1 ≤ d) {v1 : Int32} {v2 : Int32} {Q : Int32 → zf_Me → Prop} {m : zf_Me} (h : wq_72_32 v1 v2 m Q) : zf_W none 0 0 d zt_72 32 [some (.inr (.inr (1, 0))), some (.inl v1), some (.inl v2)] [] m (zf_I Q) := by
  unfold wq_72_32 at h
  refine zf_ld (pc' := 33) (v := .inr (.inr (1, 0))) dX7_show_32 rfl (fun _ _ _ => rfl) rfl rfl rfl ?_
  refine zf_gfr (pc' := 36) (b := 1) dX7_show_33 rfl rfl (by decide) rfl rfl ?_
  refine zf_ld (pc' := 37) (v := .inl v1) dX7_show_36 rfl (fun _ _ _ => rfl) rfl rfl rfl ?_
  refine zf_aal (b := 47) (n := 8) (pc' := 38) dX7_show_37 rfl (by decide) rfl (by decide) rfl h.1 zf_row1 ?_
  have hb5 := h.1
  replace h := h.2
  have hx6 : zf_shelf (47 + 2 * (Int32.toInt v1).toNat) (48 + 2 * (Int32.toInt v1).toNat) := zf_shelves (by omega)
  refine zf_ld (pc' := 39) (v := .inl v2) dX7_show_38 rfl (fun _ _ _ => rfl) rfl rfl rfl ?_
  refine zf_pf (pc' := 42) dX7_show_39 rfl rfl hx6.1 hx6.2.1 rfl rfl (fun m7 e8 => ?_)
  replace h := h m7 e8
  refine zf_ld (pc' := 43) (v := .inl v2) dX7_show_42 rfl (fun _ _ _ => rfl) rfl rfl rfl ?_
  refine zf_ic (v := (-1)) (pc' := 44) dX7_show_43 rfl rfl ?_
  refine zf_icmp_ne (tgt := 51) (pc' := 47) dX7_show_44 rfl rfl (fun g => ?_) (fun g => ?_)
  · replace h := h.1 g
    refine zf_ic (v := 1) (pc' := 52) dX7_show_51 rfl rfl ?_
    exact zf_ri dX7_show_52 rfl h
  · replace h := h.2 g
    refine zf_ic (v := 0) (pc' := 48) dX7_show_47 rfl rfl ?_
    refine zf_goto (tgt := 52) dX7_show_48 rfl ?_
    exact zf_ri dX7_show_52 rfl h
def wp_72 (v1 : Int32) (v2 : Int32) (m : zf_Me) (Q : Int32 → zf_Me → Prop) : Prop := wp_114 v1 m (fun b1 m2 => ((b1 = false → wp_109 1 m2 (fun x3 m4 => Q x3 m4)) ∧ (b1 = true → ((v2.toInt = (-1) → wq_72_32 v1 v2 m2 Q) ∧ (¬ v2.toInt = (-1) → wp_65 3 v2 m2 (fun b9 m10 => ((b9 = true → wq_72_32 v1 v2 m10 Q) ∧ (b9 = false → wp_109 1 m10 (fun x11 m12 => Q x11 m12)))))))))
theorem zr_72 {d : Nat} (hd : 1 ≤ d) {v1 : Int32} {v2 : Int32} {Q : Int32 → zf_Me → Prop} {m : zf_Me} (h : wp_72 v1 v2 m Q) : zf_M d 72 [.inr (.inr (1, 0)), .inl v1, .inl v2] m (zf_I Q) := by
  obtain ⟨e, rfl⟩ : ∃ z, d = z + 1 := ⟨d - 1, by omega⟩
  unfold wp_72 at h
  refine zf_M_of (Nat.le_of_ble_eq_true rfl) zm_72 (L := [some (.inr (.inr (1, 0))), some (.inl v1), some (.inl v2)]) rfl ?_
  refine zf_ld (pc' := 1) (v := .inl v1) dX7_show_0 rfl (fun _ _ _ => rfl) rfl rfl rfl ?_
  refine zf_is (k := 114) (pc' := 4) (r := []) dX7_show_1 rfl rfl rfl rfl rfl (zr_114 (by omega) h) (zf_kB (fun b1 m2 h => ?_))
  refine zf_ib_eq (tgt := 26) (pc' := 7) dX7_show_4 rfl rfl (fun g => ?_) (fun g => ?_)
  · replace h := h.1 g
    refine zf_ld (pc' := 27) (v := .inr (.inr (1, 0))) dX7_show_26 rfl (fun _ _ _ => rfl) rfl rfl rfl ?_
    refine zf_ic (v := 1) (pc' := 28) dX7_show_27 rfl rfl ?_
    refine zf_iv (k := 109) (pc' := 31) (r := []) dX7_show_28 rfl rfl rfl rfl (by decide) rfl rfl rfl (zr_109 (by omega) h) (zf_kI (fun x3 m4 h => ?_))
    exact zf_ri dX7_show_31 rfl h
  · replace h := h.2 g
    refine zf_ld (pc' := 8) (v := .inl v2) dX7_show_7 rfl (fun _ _ _ => rfl) rfl rfl rfl ?_
    refine zf_ic (v := (-1)) (pc' := 9) dX7_show_8 rfl rfl ?_
    refine zf_icmp_eq (tgt := 32) (pc' := 12) dX7_show_9 rfl rfl (fun g => ?_) (fun g => ?_)
    · replace h := h.1 g
      exact zf_lo (zq_72_32 (by omega) h) ⟨rfl, rfl, rfl, trivial⟩
    · replace h := h.2 g
      refine zf_ld (pc' := 13) (v := .inr (.inr (1, 0))) dX7_show_12 rfl (fun _ _ _ => rfl) rfl rfl rfl ?_
      refine zf_gfr (pc' := 16) (b := 2) dX7_show_13 rfl rfl (by decide) rfl rfl ?_
      refine zf_gfr (pc' := 19) (b := 3) dX7_show_16 rfl rfl zf_walk2.1 zf_walk2.2.1 rfl ?_
      refine zf_ld (pc' := 20) (v := .inl v2) dX7_show_19 rfl (fun _ _ _ => rfl) rfl rfl rfl ?_
      refine zf_iv (k := 65) (pc' := 23) (r := []) dX7_show_20 rfl rfl rfl rfl zf_walk2.2.2.1.1 zf_walk2.2.2.1.2.1 rfl rfl (zr_65 (by omega) zf_walk2.2.2.1 h) (zf_kB (fun b9 m10 h => ?_))
      refine zf_ib_ne (tgt := 32) (pc' := 26) dX7_show_23 rfl rfl (fun g => ?_) (fun g => ?_)
      · replace h := h.1 g
        exact zf_lo (zq_72_32 (by omega) h) ⟨rfl, rfl, rfl, trivial⟩
      · replace h := h.2 g
        refine zf_ld (pc' := 27) (v := .inr (.inr (1, 0))) dX7_show_26 rfl (fun _ _ _ => rfl) rfl rfl rfl ?_
        refine zf_ic (v := 1) (pc' := 28) dX7_show_27 rfl rfl ?_
        refine zf_iv (k := 109) (pc' := 31) (r := []) dX7_show_28 rfl rfl rfl rfl (by decide) rfl rfl rfl (zr_109 (by omega) h) (zf_kI (fun x11 m12 h => ?_))
        exact zf_ri dX7_show_31 rfl h
def zt_73 : zx_MT := (7, yX7_holds, cX7_holds, 2, (some FieldType.int), 1, 0)
theorem zm_73 : zx_m 73 = zt_73 := rfl
theorem dX7_holds_r0 : zdcP cX7_holds 0 [(.iload_n 1, 1), (.invokestatic 78, 3), (.ifCond .eq 15, 3), (.aload_n 0, 1), (.getfield 11, 3), (.iload_n 1, 1), (.aaload, 1), (.getfield 121, 3), (.goto 4, 3), (.iconst (-1), 1), (.ireturn, 1)] := zdcA_ok (by decide +kernel)
theorem dX7_holds_0 : decode cX7_holds 0 = .ok (.iload_n 1, 1) := dX7_holds_r0.1
theorem dX7_holds_1 : decode cX7_holds 1 = .ok (.invokestatic 78, 3) := dX7_holds_r0.2.1
theorem dX7_holds_4 : decode cX7_holds 4 = .ok (.ifCond .eq 15, 3) := dX7_holds_r0.2.2.1
theorem dX7_holds_7 : decode cX7_holds 7 = .ok (.aload_n 0, 1) := dX7_holds_r0.2.2.2.1
theorem dX7_holds_8 : decode cX7_holds 8 = .ok (.getfield 11, 3) := dX7_holds_r0.2.2.2.2.1
theorem dX7_holds_11 : decode cX7_holds 11 = .ok (.iload_n 1, 1) := dX7_holds_r0.2.2.2.2.2.1
theorem dX7_holds_12 : decode cX7_holds 12 = .ok (.aaload, 1) := dX7_holds_r0.2.2.2.2.2.2.1
theorem dX7_holds_13 : decode cX7_holds 13 = .ok (.getfield 121, 3) := dX7_holds_r0.2.2.2.2.2.2.2.1
theorem dX7_holds_16 : decode cX7_holds 16 = .ok (.goto 4, 3) := dX7_holds_r0.2.2.2.2.2.2.2.2.1
theorem dX7_holds_19 : decode cX7_holds 19 = .ok (.iconst (-1), 1) := dX7_holds_r0.2.2.2.2.2.2.2.2.2.1
theorem dX7_holds_20 : decode cX7_holds 20 = .ok (.ireturn, 1) := dX7_holds_r0.2.2.2.2.2.2.2.2.2.2.1
def wp_73 (v1 : Int32) (m : zf_Me) (Q : Int32 → zf_Me → Prop) : Prop := wp_114 v1 m (fun b1 m2 => ((b1 = false → Q (-1) m2) ∧ (b1 = true → ((0 ≤ (Int32.toInt v1) ∧ (Int32.toInt v1) < 8) ∧ Q (m2.1 (47 + 2 * (Int32.toInt v1).toNat) 1) m2))))
theorem zr_73 {d : Nat} (hd : 1 ≤ d) {v1 : Int32} {Q : Int32 → zf_Me → Prop} {m : zf_Me} (h : wp_73 v1 m Q) : zf_M d 73 [.inr (.inr (1, 0)), .inl v1] m (zf_I Q) := by
  obtain ⟨e, rfl⟩ : ∃ z, d = z + 1 := ⟨d - 1, by omega⟩
  unfold wp_73 at h
  refine zf_M_of (Nat.le_of_ble_eq_true rfl) zm_73 (L := [some (.inr (.inr (1, 0))), some (.inl v1)]) rfl ?_
  refine zf_ld (pc' := 1) (v := .inl v1) dX7_holds_0 rfl (fun _ _ _ => rfl) rfl rfl rfl ?_
  refine zf_is (k := 114) (pc' := 4) (r := []) dX7_holds_1 rfl rfl rfl rfl rfl (zr_114 (by omega) h) (zf_kB (fun b1 m2 h => ?_))
  refine zf_ib_eq (tgt := 19) (pc' := 7) dX7_holds_4 rfl rfl (fun g => ?_) (fun g => ?_)
  · replace h := h.1 g
    refine zf_ic (v := (-1)) (pc' := 20) dX7_holds_19 rfl rfl ?_
    exact zf_ri dX7_holds_20 rfl h
  · replace h := h.2 g
    refine zf_ld (pc' := 8) (v := .inr (.inr (1, 0))) dX7_holds_7 rfl (fun _ _ _ => rfl) rfl rfl rfl ?_
    refine zf_gfr (pc' := 11) (b := 1) dX7_holds_8 rfl rfl (by decide) rfl rfl ?_
    refine zf_ld (pc' := 12) (v := .inl v1) dX7_holds_11 rfl (fun _ _ _ => rfl) rfl rfl rfl ?_
    refine zf_aal (b := 47) (n := 8) (pc' := 13) dX7_holds_12 rfl (by decide) rfl (by decide) rfl h.1 zf_row1 ?_
    have hb3 := h.1
    replace h := h.2
    have hx4 : zf_shelf (47 + 2 * (Int32.toInt v1).toNat) (48 + 2 * (Int32.toInt v1).toNat) := zf_shelves (by omega)
    refine zf_gfi (pc' := 16) dX7_holds_13 rfl rfl hx4.1 hx4.2.1 rfl ?_
    refine zf_goto (tgt := 20) dX7_holds_16 rfl ?_
    exact zf_ri dX7_holds_20 rfl h
def zt_117 : zx_MT := (7, yX7_isUnder, cX7_isUnder, 4, (some FieldType.boolean), 2, 1)
theorem zm_117 : zx_m 117 = zt_117 := rfl
theorem dX7_isUnder_r0 : zdcP cX7_isUnder 0 [(.iload_n 0, 1), (.istore_n 2, 1), (.iconst 0, 1), (.istore_n 3, 1), (.iload_n 3, 1), (.bipush 7, 2), (.if_icmp .ge 29, 3), (.iload_n 2, 1), (.invokestatic 124, 3), (.ifCond .eq 22, 3), (.iload_n 2, 1), (.iload_n 1, 1), (.if_icmp .ne 5, 3), (.iconst 1, 1), (.ireturn, 1), (.getstatic 329, 3)] := zdcA_ok (by decide +kernel)
theorem dX7_isUnder_0 : decode cX7_isUnder 0 = .ok (.iload_n 0, 1) := dX7_isUnder_r0.1
theorem dX7_isUnder_1 : decode cX7_isUnder 1 = .ok (.istore_n 2, 1) := dX7_isUnder_r0.2.1
theorem dX7_isUnder_2 : decode cX7_isUnder 2 = .ok (.iconst 0, 1) := dX7_isUnder_r0.2.2.1
theorem dX7_isUnder_3 : decode cX7_isUnder 3 = .ok (.istore_n 3, 1) := dX7_isUnder_r0.2.2.2.1
theorem dX7_isUnder_4 : decode cX7_isUnder 4 = .ok (.iload_n 3, 1) := dX7_isUnder_r0.2.2.2.2.1
theorem dX7_isUnder_5 : decode cX7_isUnder 5 = .ok (.bipush 7, 2) := dX7_isUnder_r0.2.2.2.2.2.1
theorem dX7_isUnder_7 : decode cX7_isUnder 7 = .ok (.if_icmp .ge 29, 3) := dX7_isUnder_r0.2.2.2.2.2.2.1
theorem dX7_isUnder_10 : decode cX7_isUnder 10 = .ok (.iload_n 2, 1) := dX7_isUnder_r0.2.2.2.2.2.2.2.1
theorem dX7_isUnder_11 : decode cX7_isUnder 11 = .ok (.invokestatic 124, 3) := dX7_isUnder_r0.2.2.2.2.2.2.2.2.1
theorem dX7_isUnder_14 : decode cX7_isUnder 14 = .ok (.ifCond .eq 22, 3) := dX7_isUnder_r0.2.2.2.2.2.2.2.2.2.1
theorem dX7_isUnder_17 : decode cX7_isUnder 17 = .ok (.iload_n 2, 1) := dX7_isUnder_r0.2.2.2.2.2.2.2.2.2.2.1
theorem dX7_isUnder_18 : decode cX7_isUnder 18 = .ok (.iload_n 1, 1) := dX7_isUnder_r0.2.2.2.2.2.2.2.2.2.2.2.1
theorem dX7_isUnder_19 : decode cX7_isUnder 19 = .ok (.if_icmp .ne 5, 3) := dX7_isUnder_r0.2.2.2.2.2.2.2.2.2.2.2.2.1
theorem dX7_isUnder_22 : decode cX7_isUnder 22 = .ok (.iconst 1, 1) := dX7_isUnder_r0.2.2.2.2.2.2.2.2.2.2.2.2.2.1
theorem dX7_isUnder_23 : decode cX7_isUnder 23 = .ok (.ireturn, 1) := dX7_isUnder_r0.2.2.2.2.2.2.2.2.2.2.2.2.2.2.1
theorem dX7_isUnder_24 : decode cX7_isUnder 24 = .ok (.getstatic 329, 3) := dX7_isUnder_r0.2.2.2.2.2.2.2.2.2.2.2.2.2.2.2.1
theorem dX7_isUnder_r27 : zdcP cX7_isUnder 27 [(.iload_n 2, 1), (.iaload, 1), (.istore_n 2, 1), (.iinc 3 1, 3), (.goto (-29), 3), (.iconst 0, 1), (.ireturn, 1)] := zdcA_ok (by decide +kernel)
theorem dX7_isUnder_27 : decode cX7_isUnder 27 = .ok (.iload_n 2, 1) := dX7_isUnder_r27.1
theorem dX7_isUnder_28 : decode cX7_isUnder 28 = .ok (.iaload, 1) := dX7_isUnder_r27.2.1
theorem dX7_isUnder_29 : decode cX7_isUnder 29 = .ok (.istore_n 2, 1) := dX7_isUnder_r27.2.2.1
theorem dX7_isUnder_30 : decode cX7_isUnder 30 = .ok (.iinc 3 1, 3) := dX7_isUnder_r27.2.2.2.1
theorem dX7_isUnder_33 : decode cX7_isUnder 33 = .ok (.goto (-29), 3) := dX7_isUnder_r27.2.2.2.2.1
theorem dX7_isUnder_36 : decode cX7_isUnder 36 = .ok (.iconst 0, 1) := dX7_isUnder_r27.2.2.2.2.2.1
theorem dX7_isUnder_37 : decode cX7_isUnder 37 = .ok (.ireturn, 1) := dX7_isUnder_r27.2.2.2.2.2.2.1
def wq_117_4 (v0 : Int32) (v1 : Int32) (Q : Bool → zf_Me → Prop) : Nat → Int32 → Int32 → zf_Me → Prop
  | 0, _, _, _ => False
  | n + 1, v2, v3, m => ((v3.toInt ≥ 7 → Q false m) ∧ (v3.toInt < 7 → wp_115 v2 m (fun b1 m2 => ((b1 = false → Q false m2) ∧ (b1 = true → ((¬ v2.toInt = v1.toInt → ((0 ≤ (v2).toInt ∧ (v2).toInt < 7) ∧ wq_117_4 v0 v1 Q n ((zx_sa.getD 0 []).getD (Int32.toInt v2).toNat 0) (v3 + 1) m2)) ∧ (v2.toInt = v1.toInt → Q true m2)))))))
theorem zq_117_4 {d : Nat} (hd : 1 ≤ d) {v0 : Int32} {v1 : Int32} {Q : Bool → zf_Me → Prop} : ∀ (n : Nat) (v2 : Int32) (v3 : Int32) (m : zf_Me), wq_117_4 v0 v1 Q n v2 v3 m → zf_W none 0 0 d zt_117 4 [none, some (.inl v1), some (.inl v2), some (.inl v3)] [] m (zf_B Q) := by
  obtain ⟨e, rfl⟩ : ∃ z, d = z + 1 := ⟨d - 1, by omega⟩
  intro n
  induction n with
  | zero =>
    intro v2 v3 m h
    exact h.elim
  | succ n ih =>
    intro v2 v3 m h
    unfold wq_117_4 at h
    refine zf_ld (pc' := 5) (v := .inl v3) dX7_isUnder_4 rfl (fun _ _ _ => rfl) rfl rfl rfl ?_
    refine zf_bi (v := 7) (pc' := 7) dX7_isUnder_5 rfl rfl ?_
    refine zf_icmp_ge (tgt := 36) (pc' := 10) dX7_isUnder_7 rfl rfl (fun g => ?_) (fun g => ?_)
    · replace h := h.1 g
      refine zf_ic (v := 0) (pc' := 37) dX7_isUnder_36 rfl rfl ?_
      exact zf_rb (b := false) dX7_isUnder_37 rfl h
    · replace h := h.2 g
      refine zf_ld (pc' := 11) (v := .inl v2) dX7_isUnder_10 rfl (fun _ _ _ => rfl) rfl rfl rfl ?_
      refine zf_is (k := 115) (pc' := 14) (r := []) dX7_isUnder_11 rfl rfl rfl rfl rfl (zr_115 (by omega) h) (zf_kB (fun b1 m2 h => ?_))
      refine zf_ib_eq (tgt := 36) (pc' := 17) dX7_isUnder_14 rfl rfl (fun g => ?_) (fun g => ?_)
      · replace h := h.1 g
        refine zf_ic (v := 0) (pc' := 37) dX7_isUnder_36 rfl rfl ?_
        exact zf_rb (b := false) dX7_isUnder_37 rfl h
      · replace h := h.2 g
        refine zf_ld (pc' := 18) (v := .inl v2) dX7_isUnder_17 rfl (fun _ _ _ => rfl) rfl rfl rfl ?_
        refine zf_ld (pc' := 19) (v := .inl v1) dX7_isUnder_18 rfl (fun _ _ _ => rfl) rfl rfl rfl ?_
        refine zf_icmp_ne (tgt := 24) (pc' := 22) dX7_isUnder_19 rfl rfl (fun g => ?_) (fun g => ?_)
        · replace h := h.1 g
          refine zf_gs (g := 0) (pc' := 27) dX7_isUnder_24 rfl rfl rfl ?_
          refine zf_ld (pc' := 28) (v := .inl v2) dX7_isUnder_27 rfl (fun _ _ _ => rfl) rfl rfl rfl ?_
          refine zf_ials (pc' := 29) dX7_isUnder_28 rfl (by decide) (n := 7) rfl h.1 ?_
          replace h := h.2
          refine zf_st (pc' := 30) (L2 := [none, some (.inl v1), some (.inl ((zx_sa.getD 0 []).getD (Int32.toInt v2).toNat 0)), some (.inl v3)]) dX7_isUnder_29 rfl (fun _ _ _ => rfl) rfl rfl rfl rfl rfl rfl ?_
          refine zf_ii (y := (v3 + 1)) (L2 := [none, some (.inl v1), some (.inl ((zx_sa.getD 0 []).getD (Int32.toInt v2).toNat 0)), some (.inl (v3 + 1))]) (pc' := 33) dX7_isUnder_30 rfl rfl rfl rfl rfl ?_
          refine zf_goto (tgt := 4) dX7_isUnder_33 rfl ?_
          exact zf_lo (ih _ _ _ h) ⟨rfl, rfl, rfl, trivial⟩
        · replace h := h.2 g
          refine zf_ic (v := 1) (pc' := 23) dX7_isUnder_22 rfl rfl ?_
          exact zf_rb (b := true) dX7_isUnder_23 rfl h
def wp_117 (v0 : Int32) (v1 : Int32) (m : zf_Me) (Q : Bool → zf_Me → Prop) : Prop := (∃ n4, wq_117_4 v0 v1 Q n4 v0 0 m)
theorem zr_117 {d : Nat} (hd : 1 ≤ d) {v0 : Int32} {v1 : Int32} {Q : Bool → zf_Me → Prop} {m : zf_Me} (h : wp_117 v0 v1 m Q) : zf_M d 117 [.inl v0, .inl v1] m (zf_B Q) := by
  unfold wp_117 at h
  refine zf_M_of (Nat.le_of_ble_eq_true rfl) zm_117 (L := [some (.inl v0), some (.inl v1), none, none]) rfl ?_
  refine zf_ld (pc' := 1) (v := .inl v0) dX7_isUnder_0 rfl (fun _ _ _ => rfl) rfl rfl rfl ?_
  refine zf_st (pc' := 2) (L2 := [some (.inl v0), some (.inl v1), some (.inl v0), none]) dX7_isUnder_1 rfl (fun _ _ _ => rfl) rfl rfl rfl rfl rfl rfl ?_
  refine zf_ic (v := 0) (pc' := 3) dX7_isUnder_2 rfl rfl ?_
  refine zf_st (pc' := 4) (L2 := [some (.inl v0), some (.inl v1), some (.inl v0), some (.inl 0)]) dX7_isUnder_3 rfl (fun _ _ _ => rfl) rfl rfl rfl rfl rfl rfl ?_
  obtain ⟨n4, h⟩ := h
  exact zf_lo (zq_117_4 (by omega) n4 _ _ _ h) ⟨rfl, rfl, rfl, trivial⟩
def zt_74 : zx_MT := (7, yX7_says, cX7_says, 4, (some FieldType.int), 2, 0)
theorem zm_74 : zx_m 74 = zt_74 := rfl
theorem dX7_says_r0 : zdcP cX7_says 0 [(.iload_n 1, 1), (.invokestatic 78, 3), (.ifCond .eq 10, 3), (.iload_n 2, 1), (.invokestatic 124, 3), (.ifCond .ne 9, 3), (.aload_n 0, 1), (.iconst 1, 1), (.invokevirtual 82, 3), (.ireturn, 1), (.aload_n 0, 1), (.getfield 11, 3), (.iload_n 1, 1), (.aaload, 1), (.getfield 121, 3), (.istore_n 3, 1)] := zdcA_ok (by decide +kernel)
theorem dX7_says_0 : decode cX7_says 0 = .ok (.iload_n 1, 1) := dX7_says_r0.1
theorem dX7_says_1 : decode cX7_says 1 = .ok (.invokestatic 78, 3) := dX7_says_r0.2.1
theorem dX7_says_4 : decode cX7_says 4 = .ok (.ifCond .eq 10, 3) := dX7_says_r0.2.2.1
theorem dX7_says_7 : decode cX7_says 7 = .ok (.iload_n 2, 1) := dX7_says_r0.2.2.2.1
theorem dX7_says_8 : decode cX7_says 8 = .ok (.invokestatic 124, 3) := dX7_says_r0.2.2.2.2.1
theorem dX7_says_11 : decode cX7_says 11 = .ok (.ifCond .ne 9, 3) := dX7_says_r0.2.2.2.2.2.1
theorem dX7_says_14 : decode cX7_says 14 = .ok (.aload_n 0, 1) := dX7_says_r0.2.2.2.2.2.2.1
theorem dX7_says_15 : decode cX7_says 15 = .ok (.iconst 1, 1) := dX7_says_r0.2.2.2.2.2.2.2.1
theorem dX7_says_16 : decode cX7_says 16 = .ok (.invokevirtual 82, 3) := dX7_says_r0.2.2.2.2.2.2.2.2.1
theorem dX7_says_19 : decode cX7_says 19 = .ok (.ireturn, 1) := dX7_says_r0.2.2.2.2.2.2.2.2.2.1
theorem dX7_says_20 : decode cX7_says 20 = .ok (.aload_n 0, 1) := dX7_says_r0.2.2.2.2.2.2.2.2.2.2.1
theorem dX7_says_21 : decode cX7_says 21 = .ok (.getfield 11, 3) := dX7_says_r0.2.2.2.2.2.2.2.2.2.2.2.1
theorem dX7_says_24 : decode cX7_says 24 = .ok (.iload_n 1, 1) := dX7_says_r0.2.2.2.2.2.2.2.2.2.2.2.2.1
theorem dX7_says_25 : decode cX7_says 25 = .ok (.aaload, 1) := dX7_says_r0.2.2.2.2.2.2.2.2.2.2.2.2.2.1
theorem dX7_says_26 : decode cX7_says 26 = .ok (.getfield 121, 3) := dX7_says_r0.2.2.2.2.2.2.2.2.2.2.2.2.2.2.1
theorem dX7_says_29 : decode cX7_says 29 = .ok (.istore_n 3, 1) := dX7_says_r0.2.2.2.2.2.2.2.2.2.2.2.2.2.2.2.1
theorem dX7_says_r30 : zdcP cX7_says 30 [(.iload_n 3, 1), (.iconst (-1), 1), (.if_icmp .ne 9, 3), (.aload_n 0, 1), (.iconst 3, 1), (.invokevirtual 82, 3), (.ireturn, 1), (.aload_n 0, 1), (.getfield 23, 3), (.getfield 30, 3), (.iload_n 3, 1), (.invokevirtual 118, 3), (.ifCond .eq 22, 3), (.aload_n 0, 1), (.getfield 23, 3), (.getfield 30, 3)] := zdcA_ok (by decide +kernel)
theorem dX7_says_30 : decode cX7_says 30 = .ok (.iload_n 3, 1) := dX7_says_r30.1
theorem dX7_says_31 : decode cX7_says 31 = .ok (.iconst (-1), 1) := dX7_says_r30.2.1
theorem dX7_says_32 : decode cX7_says 32 = .ok (.if_icmp .ne 9, 3) := dX7_says_r30.2.2.1
theorem dX7_says_35 : decode cX7_says 35 = .ok (.aload_n 0, 1) := dX7_says_r30.2.2.2.1
theorem dX7_says_36 : decode cX7_says 36 = .ok (.iconst 3, 1) := dX7_says_r30.2.2.2.2.1
theorem dX7_says_37 : decode cX7_says 37 = .ok (.invokevirtual 82, 3) := dX7_says_r30.2.2.2.2.2.1
theorem dX7_says_40 : decode cX7_says 40 = .ok (.ireturn, 1) := dX7_says_r30.2.2.2.2.2.2.1
theorem dX7_says_41 : decode cX7_says 41 = .ok (.aload_n 0, 1) := dX7_says_r30.2.2.2.2.2.2.2.1
theorem dX7_says_42 : decode cX7_says 42 = .ok (.getfield 23, 3) := dX7_says_r30.2.2.2.2.2.2.2.2.1
theorem dX7_says_45 : decode cX7_says 45 = .ok (.getfield 30, 3) := dX7_says_r30.2.2.2.2.2.2.2.2.2.1
theorem dX7_says_48 : decode cX7_says 48 = .ok (.iload_n 3, 1) := dX7_says_r30.2.2.2.2.2.2.2.2.2.2.1
theorem dX7_says_49 : decode cX7_says 49 = .ok (.invokevirtual 118, 3) := dX7_says_r30.2.2.2.2.2.2.2.2.2.2.2.1
theorem dX7_says_52 : decode cX7_says 52 = .ok (.ifCond .eq 22, 3) := dX7_says_r30.2.2.2.2.2.2.2.2.2.2.2.2.1
theorem dX7_says_55 : decode cX7_says 55 = .ok (.aload_n 0, 1) := dX7_says_r30.2.2.2.2.2.2.2.2.2.2.2.2.2.1
theorem dX7_says_56 : decode cX7_says 56 = .ok (.getfield 23, 3) := dX7_says_r30.2.2.2.2.2.2.2.2.2.2.2.2.2.2.1
theorem dX7_says_59 : decode cX7_says 59 = .ok (.getfield 30, 3) := dX7_says_r30.2.2.2.2.2.2.2.2.2.2.2.2.2.2.2.1
theorem dX7_says_r62 : zdcP cX7_says 62 [(.getfield 127, 3), (.iload_n 3, 1), (.iaload, 1), (.iload_n 2, 1), (.invokestatic 130, 3), (.ifCond .ne 9, 3), (.aload_n 0, 1), (.iconst 2, 1), (.invokevirtual 82, 3), (.ireturn, 1), (.iload_n 2, 1)] := zdcA_ok (by decide +kernel)
theorem dX7_says_62 : decode cX7_says 62 = .ok (.getfield 127, 3) := dX7_says_r62.1
theorem dX7_says_65 : decode cX7_says 65 = .ok (.iload_n 3, 1) := dX7_says_r62.2.1
theorem dX7_says_66 : decode cX7_says 66 = .ok (.iaload, 1) := dX7_says_r62.2.2.1
theorem dX7_says_67 : decode cX7_says 67 = .ok (.iload_n 2, 1) := dX7_says_r62.2.2.2.1
theorem dX7_says_68 : decode cX7_says 68 = .ok (.invokestatic 130, 3) := dX7_says_r62.2.2.2.2.1
theorem dX7_says_71 : decode cX7_says 71 = .ok (.ifCond .ne 9, 3) := dX7_says_r62.2.2.2.2.2.1
theorem dX7_says_74 : decode cX7_says 74 = .ok (.aload_n 0, 1) := dX7_says_r62.2.2.2.2.2.2.1
theorem dX7_says_75 : decode cX7_says 75 = .ok (.iconst 2, 1) := dX7_says_r62.2.2.2.2.2.2.2.1
theorem dX7_says_76 : decode cX7_says 76 = .ok (.invokevirtual 82, 3) := dX7_says_r62.2.2.2.2.2.2.2.2.1
theorem dX7_says_79 : decode cX7_says 79 = .ok (.ireturn, 1) := dX7_says_r62.2.2.2.2.2.2.2.2.2.1
theorem dX7_says_80 : decode cX7_says 80 = .ok (.iload_n 2, 1) := dX7_says_r62.2.2.2.2.2.2.2.2.2.2.1
theorem dX7_says_81 : decode cX7_says 81 = .ok (.tableswitch 81 1 6 #[39, 55, 39, 71, 55, 71], 39) := by decide +kernel
theorem dX7_says_r120 : zdcP cX7_says 120 [(.aload_n 0, 1), (.getfield 23, 3), (.getfield 30, 3), (.getfield 127, 3), (.iload_n 3, 1), (.iaload, 1), (.invokestatic 133, 3), (.ireturn, 1), (.aload_n 0, 1), (.getfield 23, 3), (.invokevirtual 136, 3), (.ifCond .eq 7, 3), (.iconst 1, 1), (.goto 4, 3), (.iconst 0, 1), (.ireturn, 1)] := zdcA_ok (by decide +kernel)
theorem dX7_says_120 : decode cX7_says 120 = .ok (.aload_n 0, 1) := dX7_says_r120.1
theorem dX7_says_121 : decode cX7_says 121 = .ok (.getfield 23, 3) := dX7_says_r120.2.1
theorem dX7_says_124 : decode cX7_says 124 = .ok (.getfield 30, 3) := dX7_says_r120.2.2.1
theorem dX7_says_127 : decode cX7_says 127 = .ok (.getfield 127, 3) := dX7_says_r120.2.2.2.1
theorem dX7_says_130 : decode cX7_says 130 = .ok (.iload_n 3, 1) := dX7_says_r120.2.2.2.2.1
theorem dX7_says_131 : decode cX7_says 131 = .ok (.iaload, 1) := dX7_says_r120.2.2.2.2.2.1
theorem dX7_says_132 : decode cX7_says 132 = .ok (.invokestatic 133, 3) := dX7_says_r120.2.2.2.2.2.2.1
theorem dX7_says_135 : decode cX7_says 135 = .ok (.ireturn, 1) := dX7_says_r120.2.2.2.2.2.2.2.1
theorem dX7_says_136 : decode cX7_says 136 = .ok (.aload_n 0, 1) := dX7_says_r120.2.2.2.2.2.2.2.2.1
theorem dX7_says_137 : decode cX7_says 137 = .ok (.getfield 23, 3) := dX7_says_r120.2.2.2.2.2.2.2.2.2.1
theorem dX7_says_140 : decode cX7_says 140 = .ok (.invokevirtual 136, 3) := dX7_says_r120.2.2.2.2.2.2.2.2.2.2.1
theorem dX7_says_143 : decode cX7_says 143 = .ok (.ifCond .eq 7, 3) := dX7_says_r120.2.2.2.2.2.2.2.2.2.2.2.1
theorem dX7_says_146 : decode cX7_says 146 = .ok (.iconst 1, 1) := dX7_says_r120.2.2.2.2.2.2.2.2.2.2.2.2.1
theorem dX7_says_147 : decode cX7_says 147 = .ok (.goto 4, 3) := dX7_says_r120.2.2.2.2.2.2.2.2.2.2.2.2.2.1
theorem dX7_says_150 : decode cX7_says 150 = .ok (.iconst 0, 1) := dX7_says_r120.2.2.2.2.2.2.2.2.2.2.2.2.2.2.1
theorem dX7_says_151 : decode cX7_says 151 = .ok (.ireturn, 1) := dX7_says_r120.2.2.2.2.2.2.2.2.2.2.2.2.2.2.2.1
theorem dX7_says_r152 : zdcP cX7_says 152 [(.aload_n 0, 1), (.getfield 23, 3), (.iload_n 3, 1), (.iconst 0, 1), (.invokevirtual 140, 3), (.ireturn, 1), (.aload_n 0, 1), (.getfield 23, 3), (.getfield 143, 3), (.iload_n 3, 1), (.iaload, 1), (.ireturn, 1)] := zdcA_ok (by decide +kernel)
theorem dX7_says_152 : decode cX7_says 152 = .ok (.aload_n 0, 1) := dX7_says_r152.1
theorem dX7_says_153 : decode cX7_says 153 = .ok (.getfield 23, 3) := dX7_says_r152.2.1
theorem dX7_says_156 : decode cX7_says 156 = .ok (.iload_n 3, 1) := dX7_says_r152.2.2.1
theorem dX7_says_157 : decode cX7_says 157 = .ok (.iconst 0, 1) := dX7_says_r152.2.2.2.1
theorem dX7_says_158 : decode cX7_says 158 = .ok (.invokevirtual 140, 3) := dX7_says_r152.2.2.2.2.1
theorem dX7_says_161 : decode cX7_says 161 = .ok (.ireturn, 1) := dX7_says_r152.2.2.2.2.2.1
theorem dX7_says_162 : decode cX7_says 162 = .ok (.aload_n 0, 1) := dX7_says_r152.2.2.2.2.2.2.1
theorem dX7_says_163 : decode cX7_says 163 = .ok (.getfield 23, 3) := dX7_says_r152.2.2.2.2.2.2.2.1
theorem dX7_says_166 : decode cX7_says 166 = .ok (.getfield 143, 3) := dX7_says_r152.2.2.2.2.2.2.2.2.1
theorem dX7_says_169 : decode cX7_says 169 = .ok (.iload_n 3, 1) := dX7_says_r152.2.2.2.2.2.2.2.2.2.1
theorem dX7_says_170 : decode cX7_says 170 = .ok (.iaload, 1) := dX7_says_r152.2.2.2.2.2.2.2.2.2.2.1
theorem dX7_says_171 : decode cX7_says 171 = .ok (.ireturn, 1) := dX7_says_r152.2.2.2.2.2.2.2.2.2.2.2.1
def wp_74 (v1 : Int32) (v2 : Int32) (m : zf_Me) (Q : Int32 → zf_Me → Prop) : Prop := wp_114 v1 m (fun b1 m2 => ((b1 = false → wp_109 1 m2 (fun x3 m4 => Q x3 m4)) ∧ (b1 = true → wp_115 v2 m2 (fun b5 m6 => ((b5 = true → ((0 ≤ (Int32.toInt v1) ∧ (Int32.toInt v1) < 8) ∧ ((¬ ((m6.1 (47 + 2 * (Int32.toInt v1).toNat) 1)).toInt = (-1) → wp_65 3 (m6.1 (47 + 2 * (Int32.toInt v1).toNat) 1) m6 (fun b9 m10 => ((b9 = false → wp_109 2 m10 (fun x11 m12 => Q x11 m12)) ∧ (b9 = true → ((0 ≤ (Int32.toInt (m6.1 (47 + 2 * (Int32.toInt v1).toNat) 1)) ∧ (Int32.toInt (m6.1 (47 + 2 * (Int32.toInt v1).toNat) 1)) < (6 : Int)) ∧ wp_117 (m10.1 6 (Int32.toInt (m6.1 (47 + 2 * (Int32.toInt v1).toNat) 1)).toNat) v2 m10 (fun b13 m14 => ((b13 = true → (((v2.toInt < 1 ∨ v2.toInt > 6) → ((0 ≤ (Int32.toInt (m6.1 (47 + 2 * (Int32.toInt v1).toNat) 1)) ∧ (Int32.toInt (m6.1 (47 + 2 * (Int32.toInt v1).toNat) 1)) < (6 : Int)) ∧ Q (m14.1 8 (Int32.toInt (m6.1 (47 + 2 * (Int32.toInt v1).toNat) 1)).toNat) m14)) ∧ (v2.toInt = 1 → ((0 ≤ (Int32.toInt (m6.1 (47 + 2 * (Int32.toInt v1).toNat) 1)) ∧ (Int32.toInt (m6.1 (47 + 2 * (Int32.toInt v1).toNat) 1)) < (6 : Int)) ∧ wp_118 (m14.1 6 (Int32.toInt (m6.1 (47 + 2 * (Int32.toInt v1).toNat) 1)).toNat) m14 (fun x15 m16 => Q x15 m16))) ∧ (v2.toInt = 2 → wp_48 2 3 8 m14 (fun b17 m18 => ((b17 = false → Q 0 m18) ∧ (b17 = true → Q 1 m18)))) ∧ (v2.toInt = 3 → ((0 ≤ (Int32.toInt (m6.1 (47 + 2 * (Int32.toInt v1).toNat) 1)) ∧ (Int32.toInt (m6.1 (47 + 2 * (Int32.toInt v1).toNat) 1)) < (6 : Int)) ∧ wp_118 (m14.1 6 (Int32.toInt (m6.1 (47 + 2 * (Int32.toInt v1).toNat) 1)).toNat) m14 (fun x19 m20 => Q x19 m20))) ∧ (v2.toInt = 4 → wp_51 2 3 8 (m6.1 (47 + 2 * (Int32.toInt v1).toNat) 1) 0 m14 (fun x21 m22 => Q x21 m22)) ∧ (v2.toInt = 5 → wp_48 2 3 8 m14 (fun b23 m24 => ((b23 = false → Q 0 m24) ∧ (b23 = true → Q 1 m24)))) ∧ (v2.toInt = 6 → wp_51 2 3 8 (m6.1 (47 + 2 * (Int32.toInt v1).toNat) 1) 0 m14 (fun x25 m26 => Q x25 m26)))) ∧ (b13 = false → wp_109 2 m14 (fun x27 m28 => Q x27 m28))))))))) ∧ (((m6.1 (47 + 2 * (Int32.toInt v1).toNat) 1)).toInt = (-1) → wp_109 3 m6 (fun x29 m30 => Q x29 m30))))) ∧ (b5 = false → wp_109 1 m6 (fun x31 m32 => Q x31 m32)))))))
theorem zr_74 {d : Nat} (hd : 2 ≤ d) {v1 : Int32} {v2 : Int32} {Q : Int32 → zf_Me → Prop} {m : zf_Me} (h : wp_74 v1 v2 m Q) : zf_M d 74 [.inr (.inr (1, 0)), .inl v1, .inl v2] m (zf_I Q) := by
  obtain ⟨e, rfl⟩ : ∃ z, d = z + 1 := ⟨d - 1, by omega⟩
  unfold wp_74 at h
  refine zf_M_of (Nat.le_of_ble_eq_true rfl) zm_74 (L := [some (.inr (.inr (1, 0))), some (.inl v1), some (.inl v2), none]) rfl ?_
  refine zf_ld (pc' := 1) (v := .inl v1) dX7_says_0 rfl (fun _ _ _ => rfl) rfl rfl rfl ?_
  refine zf_is (k := 114) (pc' := 4) (r := []) dX7_says_1 rfl rfl rfl rfl rfl (zr_114 (by omega) h) (zf_kB (fun b1 m2 h => ?_))
  refine zf_ib_eq (tgt := 14) (pc' := 7) dX7_says_4 rfl rfl (fun g => ?_) (fun g => ?_)
  · replace h := h.1 g
    refine zf_ld (pc' := 15) (v := .inr (.inr (1, 0))) dX7_says_14 rfl (fun _ _ _ => rfl) rfl rfl rfl ?_
    refine zf_ic (v := 1) (pc' := 16) dX7_says_15 rfl rfl ?_
    refine zf_iv (k := 109) (pc' := 19) (r := []) dX7_says_16 rfl rfl rfl rfl (by decide) rfl rfl rfl (zr_109 (by omega) h) (zf_kI (fun x3 m4 h => ?_))
    exact zf_ri dX7_says_19 rfl h
  · replace h := h.2 g
    refine zf_ld (pc' := 8) (v := .inl v2) dX7_says_7 rfl (fun _ _ _ => rfl) rfl rfl rfl ?_
    refine zf_is (k := 115) (pc' := 11) (r := []) dX7_says_8 rfl rfl rfl rfl rfl (zr_115 (by omega) h) (zf_kB (fun b5 m6 h => ?_))
    refine zf_ib_ne (tgt := 20) (pc' := 14) dX7_says_11 rfl rfl (fun g => ?_) (fun g => ?_)
    · replace h := h.1 g
      refine zf_ld (pc' := 21) (v := .inr (.inr (1, 0))) dX7_says_20 rfl (fun _ _ _ => rfl) rfl rfl rfl ?_
      refine zf_gfr (pc' := 24) (b := 1) dX7_says_21 rfl rfl (by decide) rfl rfl ?_
      refine zf_ld (pc' := 25) (v := .inl v1) dX7_says_24 rfl (fun _ _ _ => rfl) rfl rfl rfl ?_
      refine zf_aal (b := 47) (n := 8) (pc' := 26) dX7_says_25 rfl (by decide) rfl (by decide) rfl h.1 zf_row1 ?_
      have hb7 := h.1
      replace h := h.2
      have hx8 : zf_shelf (47 + 2 * (Int32.toInt v1).toNat) (48 + 2 * (Int32.toInt v1).toNat) := zf_shelves (by omega)
      refine zf_gfi (pc' := 29) dX7_says_26 rfl rfl hx8.1 hx8.2.1 rfl ?_
      refine zf_st (pc' := 30) (L2 := [some (.inr (.inr (1, 0))), some (.inl v1), some (.inl v2), some (.inl (m6.1 (47 + 2 * (Int32.toInt v1).toNat) 1))]) dX7_says_29 rfl (fun _ _ _ => rfl) rfl rfl rfl rfl rfl rfl ?_
      refine zf_ld (pc' := 31) (v := .inl (m6.1 (47 + 2 * (Int32.toInt v1).toNat) 1)) dX7_says_30 rfl (fun _ _ _ => rfl) rfl rfl rfl ?_
      refine zf_ic (v := (-1)) (pc' := 32) dX7_says_31 rfl rfl ?_
      refine zf_icmp_ne (tgt := 41) (pc' := 35) dX7_says_32 rfl rfl (fun g => ?_) (fun g => ?_)
      · replace h := h.1 g
        refine zf_ld (pc' := 42) (v := .inr (.inr (1, 0))) dX7_says_41 rfl (fun _ _ _ => rfl) rfl rfl rfl ?_
        refine zf_gfr (pc' := 45) (b := 2) dX7_says_42 rfl rfl (by decide) rfl rfl ?_
        refine zf_gfr (pc' := 48) (b := 3) dX7_says_45 rfl rfl zf_walk2.1 zf_walk2.2.1 rfl ?_
        refine zf_ld (pc' := 49) (v := .inl (m6.1 (47 + 2 * (Int32.toInt v1).toNat) 1)) dX7_says_48 rfl (fun _ _ _ => rfl) rfl rfl rfl ?_
        refine zf_iv (k := 65) (pc' := 52) (r := []) dX7_says_49 rfl rfl rfl rfl zf_walk2.2.2.1.1 zf_walk2.2.2.1.2.1 rfl rfl (zr_65 (by omega) zf_walk2.2.2.1 h) (zf_kB (fun b9 m10 h => ?_))
        refine zf_ib_eq (tgt := 74) (pc' := 55) dX7_says_52 rfl rfl (fun g => ?_) (fun g => ?_)
        · replace h := h.1 g
          refine zf_ld (pc' := 75) (v := .inr (.inr (1, 0))) dX7_says_74 rfl (fun _ _ _ => rfl) rfl rfl rfl ?_
          refine zf_ic (v := 2) (pc' := 76) dX7_says_75 rfl rfl ?_
          refine zf_iv (k := 109) (pc' := 79) (r := []) dX7_says_76 rfl rfl rfl rfl (by decide) rfl rfl rfl (zr_109 (by omega) h) (zf_kI (fun x11 m12 h => ?_))
          exact zf_ri dX7_says_79 rfl h
        · replace h := h.2 g
          refine zf_ld (pc' := 56) (v := .inr (.inr (1, 0))) dX7_says_55 rfl (fun _ _ _ => rfl) rfl rfl rfl ?_
          refine zf_gfr (pc' := 59) (b := 2) dX7_says_56 rfl rfl (by decide) rfl rfl ?_
          refine zf_gfr (pc' := 62) (b := 3) dX7_says_59 rfl rfl zf_walk2.1 zf_walk2.2.1 rfl ?_
          refine zf_gfr (pc' := 65) (b := 6) dX7_says_62 rfl rfl zf_walk2.2.2.1.1 zf_walk2.2.2.1.2.1 rfl ?_
          refine zf_ld (pc' := 66) (v := .inl (m6.1 (47 + 2 * (Int32.toInt v1).toNat) 1)) dX7_says_65 rfl (fun _ _ _ => rfl) rfl rfl rfl ?_
          refine zf_ial (pc' := 67) dX7_says_66 rfl zf_walk2.2.2.1.2.2.2.2.1.1 zf_walk2.2.2.1.2.2.2.2.1.2 h.1 rfl ?_
          replace h := h.2
          refine zf_ld (pc' := 68) (v := .inl v2) dX7_says_67 rfl (fun _ _ _ => rfl) rfl rfl rfl ?_
          refine zf_is (k := 117) (pc' := 71) (r := []) dX7_says_68 rfl rfl rfl rfl rfl (zr_117 (by omega) h) (zf_kB (fun b13 m14 h => ?_))
          refine zf_ib_ne (tgt := 80) (pc' := 74) dX7_says_71 rfl rfl (fun g => ?_) (fun g => ?_)
          · replace h := h.1 g
            refine zf_ld (pc' := 81) (v := .inl v2) dX7_says_80 rfl (fun _ _ _ => rfl) rfl rfl rfl ?_
            refine zf_tsc (tgd := 162) dX7_says_81 rfl [120, 136, 120, 152, 136, 152] (by decide) (by decide) (fun g => ?_) (zl_cons (fun g => ?_) (zl_cons (fun g => ?_) (zl_cons (fun g => ?_) (zl_cons (fun g => ?_) (zl_cons (fun g => ?_) (zl_cons (fun g => ?_) (zl_nil)))))))
            · replace h := h.1 (by omega)
              refine zf_ld (pc' := 163) (v := .inr (.inr (1, 0))) dX7_says_162 rfl (fun _ _ _ => rfl) rfl rfl rfl ?_
              refine zf_gfr (pc' := 166) (b := 2) dX7_says_163 rfl rfl (by decide) rfl rfl ?_
              refine zf_gfr (pc' := 169) (b := 8) dX7_says_166 rfl rfl zf_walk2.1 zf_walk2.2.1 rfl ?_
              refine zf_ld (pc' := 170) (v := .inl (m6.1 (47 + 2 * (Int32.toInt v1).toNat) 1)) dX7_says_169 rfl (fun _ _ _ => rfl) rfl rfl rfl ?_
              refine zf_ial (pc' := 171) dX7_says_170 rfl zf_walk2.2.2.2.1 zf_walk2.2.2.2.2 h.1 rfl ?_
              replace h := h.2
              exact zf_ri dX7_says_171 rfl h
            · replace h := h.2.1 (by omega)
              refine zf_ld (pc' := 121) (v := .inr (.inr (1, 0))) dX7_says_120 rfl (fun _ _ _ => rfl) rfl rfl rfl ?_
              refine zf_gfr (pc' := 124) (b := 2) dX7_says_121 rfl rfl (by decide) rfl rfl ?_
              refine zf_gfr (pc' := 127) (b := 3) dX7_says_124 rfl rfl zf_walk2.1 zf_walk2.2.1 rfl ?_
              refine zf_gfr (pc' := 130) (b := 6) dX7_says_127 rfl rfl zf_walk2.2.2.1.1 zf_walk2.2.2.1.2.1 rfl ?_
              refine zf_ld (pc' := 131) (v := .inl (m6.1 (47 + 2 * (Int32.toInt v1).toNat) 1)) dX7_says_130 rfl (fun _ _ _ => rfl) rfl rfl rfl ?_
              refine zf_ial (pc' := 132) dX7_says_131 rfl zf_walk2.2.2.1.2.2.2.2.1.1 zf_walk2.2.2.1.2.2.2.2.1.2 h.1 rfl ?_
              replace h := h.2
              refine zf_is (k := 118) (pc' := 135) (r := []) dX7_says_132 rfl rfl rfl rfl rfl (zr_118 (by omega) h) (zf_kI (fun x15 m16 h => ?_))
              exact zf_ri dX7_says_135 rfl h
            · replace h := h.2.2.1 (by omega)
              refine zf_ld (pc' := 137) (v := .inr (.inr (1, 0))) dX7_says_136 rfl (fun _ _ _ => rfl) rfl rfl rfl ?_
              refine zf_gfr (pc' := 140) (b := 2) dX7_says_137 rfl rfl (by decide) rfl rfl ?_
              refine zf_iv (k := 48) (pc' := 143) (r := []) dX7_says_140 rfl rfl rfl rfl zf_walk2.1 zf_walk2.2.1 rfl rfl (zr_48 (by omega) zf_walk2 h) (zf_kB (fun b17 m18 h => ?_))
              refine zf_ib_eq (tgt := 150) (pc' := 146) dX7_says_143 rfl rfl (fun g => ?_) (fun g => ?_)
              · replace h := h.1 g
                refine zf_ic (v := 0) (pc' := 151) dX7_says_150 rfl rfl ?_
                exact zf_ri dX7_says_151 rfl h
              · replace h := h.2 g
                refine zf_ic (v := 1) (pc' := 147) dX7_says_146 rfl rfl ?_
                refine zf_goto (tgt := 151) dX7_says_147 rfl ?_
                exact zf_ri dX7_says_151 rfl h
            · replace h := h.2.2.2.1 (by omega)
              refine zf_ld (pc' := 121) (v := .inr (.inr (1, 0))) dX7_says_120 rfl (fun _ _ _ => rfl) rfl rfl rfl ?_
              refine zf_gfr (pc' := 124) (b := 2) dX7_says_121 rfl rfl (by decide) rfl rfl ?_
              refine zf_gfr (pc' := 127) (b := 3) dX7_says_124 rfl rfl zf_walk2.1 zf_walk2.2.1 rfl ?_
              refine zf_gfr (pc' := 130) (b := 6) dX7_says_127 rfl rfl zf_walk2.2.2.1.1 zf_walk2.2.2.1.2.1 rfl ?_
              refine zf_ld (pc' := 131) (v := .inl (m6.1 (47 + 2 * (Int32.toInt v1).toNat) 1)) dX7_says_130 rfl (fun _ _ _ => rfl) rfl rfl rfl ?_
              refine zf_ial (pc' := 132) dX7_says_131 rfl zf_walk2.2.2.1.2.2.2.2.1.1 zf_walk2.2.2.1.2.2.2.2.1.2 h.1 rfl ?_
              replace h := h.2
              refine zf_is (k := 118) (pc' := 135) (r := []) dX7_says_132 rfl rfl rfl rfl rfl (zr_118 (by omega) h) (zf_kI (fun x19 m20 h => ?_))
              exact zf_ri dX7_says_135 rfl h
            · replace h := h.2.2.2.2.1 (by omega)
              refine zf_ld (pc' := 153) (v := .inr (.inr (1, 0))) dX7_says_152 rfl (fun _ _ _ => rfl) rfl rfl rfl ?_
              refine zf_gfr (pc' := 156) (b := 2) dX7_says_153 rfl rfl (by decide) rfl rfl ?_
              refine zf_ld (pc' := 157) (v := .inl (m6.1 (47 + 2 * (Int32.toInt v1).toNat) 1)) dX7_says_156 rfl (fun _ _ _ => rfl) rfl rfl rfl ?_
              refine zf_ic (v := 0) (pc' := 158) dX7_says_157 rfl rfl ?_
              refine zf_iv (k := 51) (pc' := 161) (r := []) dX7_says_158 rfl rfl rfl rfl zf_walk2.1 zf_walk2.2.1 rfl rfl (zr_51 (by omega) zf_walk2 h) (zf_kI (fun x21 m22 h => ?_))
              exact zf_ri dX7_says_161 rfl h
            · replace h := h.2.2.2.2.2.1 (by omega)
              refine zf_ld (pc' := 137) (v := .inr (.inr (1, 0))) dX7_says_136 rfl (fun _ _ _ => rfl) rfl rfl rfl ?_
              refine zf_gfr (pc' := 140) (b := 2) dX7_says_137 rfl rfl (by decide) rfl rfl ?_
              refine zf_iv (k := 48) (pc' := 143) (r := []) dX7_says_140 rfl rfl rfl rfl zf_walk2.1 zf_walk2.2.1 rfl rfl (zr_48 (by omega) zf_walk2 h) (zf_kB (fun b23 m24 h => ?_))
              refine zf_ib_eq (tgt := 150) (pc' := 146) dX7_says_143 rfl rfl (fun g => ?_) (fun g => ?_)
              · replace h := h.1 g
                refine zf_ic (v := 0) (pc' := 151) dX7_says_150 rfl rfl ?_
                exact zf_ri dX7_says_151 rfl h
              · replace h := h.2 g
                refine zf_ic (v := 1) (pc' := 147) dX7_says_146 rfl rfl ?_
                refine zf_goto (tgt := 151) dX7_says_147 rfl ?_
                exact zf_ri dX7_says_151 rfl h
            · replace h := h.2.2.2.2.2.2 (by omega)
              refine zf_ld (pc' := 153) (v := .inr (.inr (1, 0))) dX7_says_152 rfl (fun _ _ _ => rfl) rfl rfl rfl ?_
              refine zf_gfr (pc' := 156) (b := 2) dX7_says_153 rfl rfl (by decide) rfl rfl ?_
              refine zf_ld (pc' := 157) (v := .inl (m6.1 (47 + 2 * (Int32.toInt v1).toNat) 1)) dX7_says_156 rfl (fun _ _ _ => rfl) rfl rfl rfl ?_
              refine zf_ic (v := 0) (pc' := 158) dX7_says_157 rfl rfl ?_
              refine zf_iv (k := 51) (pc' := 161) (r := []) dX7_says_158 rfl rfl rfl rfl zf_walk2.1 zf_walk2.2.1 rfl rfl (zr_51 (by omega) zf_walk2 h) (zf_kI (fun x25 m26 h => ?_))
              exact zf_ri dX7_says_161 rfl h
          · replace h := h.2 g
            refine zf_ld (pc' := 75) (v := .inr (.inr (1, 0))) dX7_says_74 rfl (fun _ _ _ => rfl) rfl rfl rfl ?_
            refine zf_ic (v := 2) (pc' := 76) dX7_says_75 rfl rfl ?_
            refine zf_iv (k := 109) (pc' := 79) (r := []) dX7_says_76 rfl rfl rfl rfl (by decide) rfl rfl rfl (zr_109 (by omega) h) (zf_kI (fun x27 m28 h => ?_))
            exact zf_ri dX7_says_79 rfl h
      · replace h := h.2 g
        refine zf_ld (pc' := 36) (v := .inr (.inr (1, 0))) dX7_says_35 rfl (fun _ _ _ => rfl) rfl rfl rfl ?_
        refine zf_ic (v := 3) (pc' := 37) dX7_says_36 rfl rfl ?_
        refine zf_iv (k := 109) (pc' := 40) (r := []) dX7_says_37 rfl rfl rfl rfl (by decide) rfl rfl rfl (zr_109 (by omega) h) (zf_kI (fun x29 m30 h => ?_))
        exact zf_ri dX7_says_40 rfl h
    · replace h := h.2 g
      refine zf_ld (pc' := 15) (v := .inr (.inr (1, 0))) dX7_says_14 rfl (fun _ _ _ => rfl) rfl rfl rfl ?_
      refine zf_ic (v := 1) (pc' := 16) dX7_says_15 rfl rfl ?_
      refine zf_iv (k := 109) (pc' := 19) (r := []) dX7_says_16 rfl rfl rfl rfl (by decide) rfl rfl rfl (zr_109 (by omega) h) (zf_kI (fun x31 m32 h => ?_))
      exact zf_ri dX7_says_19 rfl h
def zt_75 : zx_MT := (7, yX7_furlong, cX7_furlong, 3, (some FieldType.int), 2, 0)
theorem zm_75 : zx_m 75 = zt_75 := rfl
theorem dX7_furlong_r0 : zdcP cX7_furlong 0 [(.iload_n 1, 1), (.bipush (-3), 2), (.if_icmp .lt 8, 3), (.iload_n 1, 1), (.iconst 3, 1), (.if_icmp .le 10, 3), (.aload_n 0, 1), (.bipush 6, 2), (.invokevirtual 82, 3), (.ireturn, 1), (.aload_n 0, 1), (.getfield 23, 3), (.getfield 30, 3), (.getfield 146, 3), (.bipush 24, 2), (.if_icmp .lt 10, 3)] := zdcA_ok (by decide +kernel)
theorem dX7_furlong_0 : decode cX7_furlong 0 = .ok (.iload_n 1, 1) := dX7_furlong_r0.1
theorem dX7_furlong_1 : decode cX7_furlong 1 = .ok (.bipush (-3), 2) := dX7_furlong_r0.2.1
theorem dX7_furlong_3 : decode cX7_furlong 3 = .ok (.if_icmp .lt 8, 3) := dX7_furlong_r0.2.2.1
theorem dX7_furlong_6 : decode cX7_furlong 6 = .ok (.iload_n 1, 1) := dX7_furlong_r0.2.2.2.1
theorem dX7_furlong_7 : decode cX7_furlong 7 = .ok (.iconst 3, 1) := dX7_furlong_r0.2.2.2.2.1
theorem dX7_furlong_8 : decode cX7_furlong 8 = .ok (.if_icmp .le 10, 3) := dX7_furlong_r0.2.2.2.2.2.1
theorem dX7_furlong_11 : decode cX7_furlong 11 = .ok (.aload_n 0, 1) := dX7_furlong_r0.2.2.2.2.2.2.1
theorem dX7_furlong_12 : decode cX7_furlong 12 = .ok (.bipush 6, 2) := dX7_furlong_r0.2.2.2.2.2.2.2.1
theorem dX7_furlong_14 : decode cX7_furlong 14 = .ok (.invokevirtual 82, 3) := dX7_furlong_r0.2.2.2.2.2.2.2.2.1
theorem dX7_furlong_17 : decode cX7_furlong 17 = .ok (.ireturn, 1) := dX7_furlong_r0.2.2.2.2.2.2.2.2.2.1
theorem dX7_furlong_18 : decode cX7_furlong 18 = .ok (.aload_n 0, 1) := dX7_furlong_r0.2.2.2.2.2.2.2.2.2.2.1
theorem dX7_furlong_19 : decode cX7_furlong 19 = .ok (.getfield 23, 3) := dX7_furlong_r0.2.2.2.2.2.2.2.2.2.2.2.1
theorem dX7_furlong_22 : decode cX7_furlong 22 = .ok (.getfield 30, 3) := dX7_furlong_r0.2.2.2.2.2.2.2.2.2.2.2.2.1
theorem dX7_furlong_25 : decode cX7_furlong 25 = .ok (.getfield 146, 3) := dX7_furlong_r0.2.2.2.2.2.2.2.2.2.2.2.2.2.1
theorem dX7_furlong_28 : decode cX7_furlong 28 = .ok (.bipush 24, 2) := dX7_furlong_r0.2.2.2.2.2.2.2.2.2.2.2.2.2.2.1
theorem dX7_furlong_30 : decode cX7_furlong 30 = .ok (.if_icmp .lt 10, 3) := dX7_furlong_r0.2.2.2.2.2.2.2.2.2.2.2.2.2.2.2.1
theorem dX7_furlong_r33 : zdcP cX7_furlong 33 [(.aload_n 0, 1), (.bipush 7, 2), (.invokevirtual 82, 3), (.ireturn, 1), (.aload_n 0, 1), (.getfield 23, 3), (.getfield 30, 3), (.iload_n 1, 1), (.iload_n 2, 1), (.invokevirtual 149, 3), (.ireturn, 1)] := zdcA_ok (by decide +kernel)
theorem dX7_furlong_33 : decode cX7_furlong 33 = .ok (.aload_n 0, 1) := dX7_furlong_r33.1
theorem dX7_furlong_34 : decode cX7_furlong 34 = .ok (.bipush 7, 2) := dX7_furlong_r33.2.1
theorem dX7_furlong_36 : decode cX7_furlong 36 = .ok (.invokevirtual 82, 3) := dX7_furlong_r33.2.2.1
theorem dX7_furlong_39 : decode cX7_furlong 39 = .ok (.ireturn, 1) := dX7_furlong_r33.2.2.2.1
theorem dX7_furlong_40 : decode cX7_furlong 40 = .ok (.aload_n 0, 1) := dX7_furlong_r33.2.2.2.2.1
theorem dX7_furlong_41 : decode cX7_furlong 41 = .ok (.getfield 23, 3) := dX7_furlong_r33.2.2.2.2.2.1
theorem dX7_furlong_44 : decode cX7_furlong 44 = .ok (.getfield 30, 3) := dX7_furlong_r33.2.2.2.2.2.2.1
theorem dX7_furlong_47 : decode cX7_furlong 47 = .ok (.iload_n 1, 1) := dX7_furlong_r33.2.2.2.2.2.2.2.1
theorem dX7_furlong_48 : decode cX7_furlong 48 = .ok (.iload_n 2, 1) := dX7_furlong_r33.2.2.2.2.2.2.2.2.1
theorem dX7_furlong_49 : decode cX7_furlong 49 = .ok (.invokevirtual 149, 3) := dX7_furlong_r33.2.2.2.2.2.2.2.2.2.1
theorem dX7_furlong_52 : decode cX7_furlong 52 = .ok (.ireturn, 1) := dX7_furlong_r33.2.2.2.2.2.2.2.2.2.2.1
def wp_75 (v1 : Int32) (v2 : Int32) (m : zf_Me) (Q : Int32 → zf_Me → Prop) : Prop := ((v1.toInt < (-3) → wp_109 6 m (fun x1 m2 => Q x1 m2)) ∧ (v1.toInt ≥ (-3) → ((v1.toInt ≤ 3 → ((((m.1 3 4)).toInt < 24 → wp_66 3 v1 v2 m (fun x3 m4 => Q x3 m4)) ∧ (((m.1 3 4)).toInt ≥ 24 → wp_109 7 m (fun x5 m6 => Q x5 m6)))) ∧ (v1.toInt > 3 → wp_109 6 m (fun x7 m8 => Q x7 m8)))))
theorem zr_75 {d : Nat} (hd : 1 ≤ d) {v1 : Int32} {v2 : Int32} {Q : Int32 → zf_Me → Prop} {m : zf_Me} (h : wp_75 v1 v2 m Q) : zf_M d 75 [.inr (.inr (1, 0)), .inl v1, .inl v2] m (zf_I Q) := by
  obtain ⟨e, rfl⟩ : ∃ z, d = z + 1 := ⟨d - 1, by omega⟩
  unfold wp_75 at h
  refine zf_M_of (Nat.le_of_ble_eq_true rfl) zm_75 (L := [some (.inr (.inr (1, 0))), some (.inl v1), some (.inl v2)]) rfl ?_
  refine zf_ld (pc' := 1) (v := .inl v1) dX7_furlong_0 rfl (fun _ _ _ => rfl) rfl rfl rfl ?_
  refine zf_bi (v := (-3)) (pc' := 3) dX7_furlong_1 rfl rfl ?_
  refine zf_icmp_lt (tgt := 11) (pc' := 6) dX7_furlong_3 rfl rfl (fun g => ?_) (fun g => ?_)
  · replace h := h.1 g
    refine zf_ld (pc' := 12) (v := .inr (.inr (1, 0))) dX7_furlong_11 rfl (fun _ _ _ => rfl) rfl rfl rfl ?_
    refine zf_bi (v := 6) (pc' := 14) dX7_furlong_12 rfl rfl ?_
    refine zf_iv (k := 109) (pc' := 17) (r := []) dX7_furlong_14 rfl rfl rfl rfl (by decide) rfl rfl rfl (zr_109 (by omega) h) (zf_kI (fun x1 m2 h => ?_))
    exact zf_ri dX7_furlong_17 rfl h
  · replace h := h.2 g
    refine zf_ld (pc' := 7) (v := .inl v1) dX7_furlong_6 rfl (fun _ _ _ => rfl) rfl rfl rfl ?_
    refine zf_ic (v := 3) (pc' := 8) dX7_furlong_7 rfl rfl ?_
    refine zf_icmp_le (tgt := 18) (pc' := 11) dX7_furlong_8 rfl rfl (fun g => ?_) (fun g => ?_)
    · replace h := h.1 g
      refine zf_ld (pc' := 19) (v := .inr (.inr (1, 0))) dX7_furlong_18 rfl (fun _ _ _ => rfl) rfl rfl rfl ?_
      refine zf_gfr (pc' := 22) (b := 2) dX7_furlong_19 rfl rfl (by decide) rfl rfl ?_
      refine zf_gfr (pc' := 25) (b := 3) dX7_furlong_22 rfl rfl zf_walk2.1 zf_walk2.2.1 rfl ?_
      refine zf_gfi (pc' := 28) dX7_furlong_25 rfl rfl zf_walk2.2.2.1.1 zf_walk2.2.2.1.2.1 rfl ?_
      refine zf_bi (v := 24) (pc' := 30) dX7_furlong_28 rfl rfl ?_
      refine zf_icmp_lt (tgt := 40) (pc' := 33) dX7_furlong_30 rfl rfl (fun g => ?_) (fun g => ?_)
      · replace h := h.1 g
        refine zf_ld (pc' := 41) (v := .inr (.inr (1, 0))) dX7_furlong_40 rfl (fun _ _ _ => rfl) rfl rfl rfl ?_
        refine zf_gfr (pc' := 44) (b := 2) dX7_furlong_41 rfl rfl (by decide) rfl rfl ?_
        refine zf_gfr (pc' := 47) (b := 3) dX7_furlong_44 rfl rfl zf_walk2.1 zf_walk2.2.1 rfl ?_
        refine zf_ld (pc' := 48) (v := .inl v1) dX7_furlong_47 rfl (fun _ _ _ => rfl) rfl rfl rfl ?_
        refine zf_ld (pc' := 49) (v := .inl v2) dX7_furlong_48 rfl (fun _ _ _ => rfl) rfl rfl rfl ?_
        refine zf_iv (k := 66) (pc' := 52) (r := []) dX7_furlong_49 rfl rfl rfl rfl zf_walk2.2.2.1.1 zf_walk2.2.2.1.2.1 rfl rfl (zr_66 (by omega) zf_walk2.2.2.1 h) (zf_kI (fun x3 m4 h => ?_))
        exact zf_ri dX7_furlong_52 rfl h
      · replace h := h.2 g
        refine zf_ld (pc' := 34) (v := .inr (.inr (1, 0))) dX7_furlong_33 rfl (fun _ _ _ => rfl) rfl rfl rfl ?_
        refine zf_bi (v := 7) (pc' := 36) dX7_furlong_34 rfl rfl ?_
        refine zf_iv (k := 109) (pc' := 39) (r := []) dX7_furlong_36 rfl rfl rfl rfl (by decide) rfl rfl rfl (zr_109 (by omega) h) (zf_kI (fun x5 m6 h => ?_))
        exact zf_ri dX7_furlong_39 rfl h
    · replace h := h.2 g
      refine zf_ld (pc' := 12) (v := .inr (.inr (1, 0))) dX7_furlong_11 rfl (fun _ _ _ => rfl) rfl rfl rfl ?_
      refine zf_bi (v := 6) (pc' := 14) dX7_furlong_12 rfl rfl ?_
      refine zf_iv (k := 109) (pc' := 17) (r := []) dX7_furlong_14 rfl rfl rfl rfl (by decide) rfl rfl rfl (zr_109 (by omega) h) (zf_kI (fun x7 m8 h => ?_))
      exact zf_ri dX7_furlong_17 rfl h
def zt_76 : zx_MT := (7, yX7_person, cX7_person, 3, (some FieldType.int), 2, 0)
theorem zm_76 : zx_m 76 = zt_76 := rfl
theorem dX7_person_r0 : zdcP cX7_person 0 [(.iload_n 1, 1), (.invokestatic 124, 3), (.ifCond .ne 9, 3), (.aload_n 0, 1), (.iconst 1, 1), (.invokevirtual 82, 3), (.ireturn, 1), (.iload_n 2, 1), (.ifCond .lt 9, 3), (.iload_n 2, 1), (.bipush 9, 2), (.if_icmp .le 10, 3), (.aload_n 0, 1), (.bipush 6, 2), (.invokevirtual 82, 3), (.ireturn, 1)] := zdcA_ok (by decide +kernel)
theorem dX7_person_0 : decode cX7_person 0 = .ok (.iload_n 1, 1) := dX7_person_r0.1
theorem dX7_person_1 : decode cX7_person 1 = .ok (.invokestatic 124, 3) := dX7_person_r0.2.1
theorem dX7_person_4 : decode cX7_person 4 = .ok (.ifCond .ne 9, 3) := dX7_person_r0.2.2.1
theorem dX7_person_7 : decode cX7_person 7 = .ok (.aload_n 0, 1) := dX7_person_r0.2.2.2.1
theorem dX7_person_8 : decode cX7_person 8 = .ok (.iconst 1, 1) := dX7_person_r0.2.2.2.2.1
theorem dX7_person_9 : decode cX7_person 9 = .ok (.invokevirtual 82, 3) := dX7_person_r0.2.2.2.2.2.1
theorem dX7_person_12 : decode cX7_person 12 = .ok (.ireturn, 1) := dX7_person_r0.2.2.2.2.2.2.1
theorem dX7_person_13 : decode cX7_person 13 = .ok (.iload_n 2, 1) := dX7_person_r0.2.2.2.2.2.2.2.1
theorem dX7_person_14 : decode cX7_person 14 = .ok (.ifCond .lt 9, 3) := dX7_person_r0.2.2.2.2.2.2.2.2.1
theorem dX7_person_17 : decode cX7_person 17 = .ok (.iload_n 2, 1) := dX7_person_r0.2.2.2.2.2.2.2.2.2.1
theorem dX7_person_18 : decode cX7_person 18 = .ok (.bipush 9, 2) := dX7_person_r0.2.2.2.2.2.2.2.2.2.2.1
theorem dX7_person_20 : decode cX7_person 20 = .ok (.if_icmp .le 10, 3) := dX7_person_r0.2.2.2.2.2.2.2.2.2.2.2.1
theorem dX7_person_23 : decode cX7_person 23 = .ok (.aload_n 0, 1) := dX7_person_r0.2.2.2.2.2.2.2.2.2.2.2.2.1
theorem dX7_person_24 : decode cX7_person 24 = .ok (.bipush 6, 2) := dX7_person_r0.2.2.2.2.2.2.2.2.2.2.2.2.2.1
theorem dX7_person_26 : decode cX7_person 26 = .ok (.invokevirtual 82, 3) := dX7_person_r0.2.2.2.2.2.2.2.2.2.2.2.2.2.2.1
theorem dX7_person_29 : decode cX7_person 29 = .ok (.ireturn, 1) := dX7_person_r0.2.2.2.2.2.2.2.2.2.2.2.2.2.2.2.1
theorem dX7_person_r30 : zdcP cX7_person 30 [(.aload_n 0, 1), (.getfield 23, 3), (.getfield 30, 3), (.getfield 153, 3), (.bipush 6, 2), (.if_icmp .lt 10, 3), (.aload_n 0, 1), (.bipush 7, 2), (.invokevirtual 82, 3), (.ireturn, 1), (.aload_n 0, 1), (.getfield 23, 3), (.iload_n 1, 1), (.iload_n 2, 1), (.invokevirtual 156, 3), (.ireturn, 1)] := zdcA_ok (by decide +kernel)
theorem dX7_person_30 : decode cX7_person 30 = .ok (.aload_n 0, 1) := dX7_person_r30.1
theorem dX7_person_31 : decode cX7_person 31 = .ok (.getfield 23, 3) := dX7_person_r30.2.1
theorem dX7_person_34 : decode cX7_person 34 = .ok (.getfield 30, 3) := dX7_person_r30.2.2.1
theorem dX7_person_37 : decode cX7_person 37 = .ok (.getfield 153, 3) := dX7_person_r30.2.2.2.1
theorem dX7_person_40 : decode cX7_person 40 = .ok (.bipush 6, 2) := dX7_person_r30.2.2.2.2.1
theorem dX7_person_42 : decode cX7_person 42 = .ok (.if_icmp .lt 10, 3) := dX7_person_r30.2.2.2.2.2.1
theorem dX7_person_45 : decode cX7_person 45 = .ok (.aload_n 0, 1) := dX7_person_r30.2.2.2.2.2.2.1
theorem dX7_person_46 : decode cX7_person 46 = .ok (.bipush 7, 2) := dX7_person_r30.2.2.2.2.2.2.2.1
theorem dX7_person_48 : decode cX7_person 48 = .ok (.invokevirtual 82, 3) := dX7_person_r30.2.2.2.2.2.2.2.2.1
theorem dX7_person_51 : decode cX7_person 51 = .ok (.ireturn, 1) := dX7_person_r30.2.2.2.2.2.2.2.2.2.1
theorem dX7_person_52 : decode cX7_person 52 = .ok (.aload_n 0, 1) := dX7_person_r30.2.2.2.2.2.2.2.2.2.2.1
theorem dX7_person_53 : decode cX7_person 53 = .ok (.getfield 23, 3) := dX7_person_r30.2.2.2.2.2.2.2.2.2.2.2.1
theorem dX7_person_56 : decode cX7_person 56 = .ok (.iload_n 1, 1) := dX7_person_r30.2.2.2.2.2.2.2.2.2.2.2.2.1
theorem dX7_person_57 : decode cX7_person 57 = .ok (.iload_n 2, 1) := dX7_person_r30.2.2.2.2.2.2.2.2.2.2.2.2.2.1
theorem dX7_person_58 : decode cX7_person 58 = .ok (.invokevirtual 156, 3) := dX7_person_r30.2.2.2.2.2.2.2.2.2.2.2.2.2.2.1
theorem dX7_person_61 : decode cX7_person 61 = .ok (.ireturn, 1) := dX7_person_r30.2.2.2.2.2.2.2.2.2.2.2.2.2.2.2.1
def wp_76 (v1 : Int32) (v2 : Int32) (m : zf_Me) (Q : Int32 → zf_Me → Prop) : Prop := wp_115 v1 m (fun b1 m2 => ((b1 = true → ((v2.toInt < 0 → wp_109 6 m2 (fun x3 m4 => Q x3 m4)) ∧ (v2.toInt ≥ 0 → ((v2.toInt ≤ 9 → ((((m2.1 3 5)).toInt < 6 → wp_44 2 3 8 v1 v2 m2 (fun x5 m6 => Q x5 m6)) ∧ (((m2.1 3 5)).toInt ≥ 6 → wp_109 7 m2 (fun x7 m8 => Q x7 m8)))) ∧ (v2.toInt > 9 → wp_109 6 m2 (fun x9 m10 => Q x9 m10)))))) ∧ (b1 = false → wp_109 1 m2 (fun x11 m12 => Q x11 m12))))
theorem zr_76 {d : Nat} (hd : 1 ≤ d) {v1 : Int32} {v2 : Int32} {Q : Int32 → zf_Me → Prop} {m : zf_Me} (h : wp_76 v1 v2 m Q) : zf_M d 76 [.inr (.inr (1, 0)), .inl v1, .inl v2] m (zf_I Q) := by
  obtain ⟨e, rfl⟩ : ∃ z, d = z + 1 := ⟨d - 1, by omega⟩
  unfold wp_76 at h
  refine zf_M_of (Nat.le_of_ble_eq_true rfl) zm_76 (L := [some (.inr (.inr (1, 0))), some (.inl v1), some (.inl v2)]) rfl ?_
  refine zf_ld (pc' := 1) (v := .inl v1) dX7_person_0 rfl (fun _ _ _ => rfl) rfl rfl rfl ?_
  refine zf_is (k := 115) (pc' := 4) (r := []) dX7_person_1 rfl rfl rfl rfl rfl (zr_115 (by omega) h) (zf_kB (fun b1 m2 h => ?_))
  refine zf_ib_ne (tgt := 13) (pc' := 7) dX7_person_4 rfl rfl (fun g => ?_) (fun g => ?_)
  · replace h := h.1 g
    refine zf_ld (pc' := 14) (v := .inl v2) dX7_person_13 rfl (fun _ _ _ => rfl) rfl rfl rfl ?_
    refine zf_if_lt (tgt := 23) (pc' := 17) dX7_person_14 rfl rfl (fun g => ?_) (fun g => ?_)
    · replace h := h.1 g
      refine zf_ld (pc' := 24) (v := .inr (.inr (1, 0))) dX7_person_23 rfl (fun _ _ _ => rfl) rfl rfl rfl ?_
      refine zf_bi (v := 6) (pc' := 26) dX7_person_24 rfl rfl ?_
      refine zf_iv (k := 109) (pc' := 29) (r := []) dX7_person_26 rfl rfl rfl rfl (by decide) rfl rfl rfl (zr_109 (by omega) h) (zf_kI (fun x3 m4 h => ?_))
      exact zf_ri dX7_person_29 rfl h
    · replace h := h.2 g
      refine zf_ld (pc' := 18) (v := .inl v2) dX7_person_17 rfl (fun _ _ _ => rfl) rfl rfl rfl ?_
      refine zf_bi (v := 9) (pc' := 20) dX7_person_18 rfl rfl ?_
      refine zf_icmp_le (tgt := 30) (pc' := 23) dX7_person_20 rfl rfl (fun g => ?_) (fun g => ?_)
      · replace h := h.1 g
        refine zf_ld (pc' := 31) (v := .inr (.inr (1, 0))) dX7_person_30 rfl (fun _ _ _ => rfl) rfl rfl rfl ?_
        refine zf_gfr (pc' := 34) (b := 2) dX7_person_31 rfl rfl (by decide) rfl rfl ?_
        refine zf_gfr (pc' := 37) (b := 3) dX7_person_34 rfl rfl zf_walk2.1 zf_walk2.2.1 rfl ?_
        refine zf_gfi (pc' := 40) dX7_person_37 rfl rfl zf_walk2.2.2.1.1 zf_walk2.2.2.1.2.1 rfl ?_
        refine zf_bi (v := 6) (pc' := 42) dX7_person_40 rfl rfl ?_
        refine zf_icmp_lt (tgt := 52) (pc' := 45) dX7_person_42 rfl rfl (fun g => ?_) (fun g => ?_)
        · replace h := h.1 g
          refine zf_ld (pc' := 53) (v := .inr (.inr (1, 0))) dX7_person_52 rfl (fun _ _ _ => rfl) rfl rfl rfl ?_
          refine zf_gfr (pc' := 56) (b := 2) dX7_person_53 rfl rfl (by decide) rfl rfl ?_
          refine zf_ld (pc' := 57) (v := .inl v1) dX7_person_56 rfl (fun _ _ _ => rfl) rfl rfl rfl ?_
          refine zf_ld (pc' := 58) (v := .inl v2) dX7_person_57 rfl (fun _ _ _ => rfl) rfl rfl rfl ?_
          refine zf_iv (k := 44) (pc' := 61) (r := []) dX7_person_58 rfl rfl rfl rfl zf_walk2.1 zf_walk2.2.1 rfl rfl (zr_44 (by omega) zf_walk2 h) (zf_kI (fun x5 m6 h => ?_))
          exact zf_ri dX7_person_61 rfl h
        · replace h := h.2 g
          refine zf_ld (pc' := 46) (v := .inr (.inr (1, 0))) dX7_person_45 rfl (fun _ _ _ => rfl) rfl rfl rfl ?_
          refine zf_bi (v := 7) (pc' := 48) dX7_person_46 rfl rfl ?_
          refine zf_iv (k := 109) (pc' := 51) (r := []) dX7_person_48 rfl rfl rfl rfl (by decide) rfl rfl rfl (zr_109 (by omega) h) (zf_kI (fun x7 m8 h => ?_))
          exact zf_ri dX7_person_51 rfl h
      · replace h := h.2 g
        refine zf_ld (pc' := 24) (v := .inr (.inr (1, 0))) dX7_person_23 rfl (fun _ _ _ => rfl) rfl rfl rfl ?_
        refine zf_bi (v := 6) (pc' := 26) dX7_person_24 rfl rfl ?_
        refine zf_iv (k := 109) (pc' := 29) (r := []) dX7_person_26 rfl rfl rfl rfl (by decide) rfl rfl rfl (zr_109 (by omega) h) (zf_kI (fun x9 m10 h => ?_))
        exact zf_ri dX7_person_29 rfl h
  · replace h := h.2 g
    refine zf_ld (pc' := 8) (v := .inr (.inr (1, 0))) dX7_person_7 rfl (fun _ _ _ => rfl) rfl rfl rfl ?_
    refine zf_ic (v := 1) (pc' := 9) dX7_person_8 rfl rfl ?_
    refine zf_iv (k := 109) (pc' := 12) (r := []) dX7_person_9 rfl rfl rfl rfl (by decide) rfl rfl rfl (zr_109 (by omega) h) (zf_kI (fun x11 m12 h => ?_))
    exact zf_ri dX7_person_12 rfl h
def zt_110 : zx_MT := (7, yX7_refuseFar, cX7_refuseFar, 2, (some FieldType.int), 1, 0)
theorem zm_110 : zx_m 110 = zt_110 := rfl
theorem dX7_refuseFar_r0 : zdcP cX7_refuseFar 0 [(.aload_n 0, 1), (.getfield 65, 3), (.iload_n 1, 1), (.dup2, 1), (.iaload, 1), (.iconst 1, 1), (.iadd, 1), (.iastore, 1), (.bipush (-10), 2), (.iload_n 1, 1), (.isub, 1), (.ireturn, 1)] := zdcA_ok (by decide +kernel)
theorem dX7_refuseFar_0 : decode cX7_refuseFar 0 = .ok (.aload_n 0, 1) := dX7_refuseFar_r0.1
theorem dX7_refuseFar_1 : decode cX7_refuseFar 1 = .ok (.getfield 65, 3) := dX7_refuseFar_r0.2.1
theorem dX7_refuseFar_4 : decode cX7_refuseFar 4 = .ok (.iload_n 1, 1) := dX7_refuseFar_r0.2.2.1
theorem dX7_refuseFar_5 : decode cX7_refuseFar 5 = .ok (.dup2, 1) := dX7_refuseFar_r0.2.2.2.1
theorem dX7_refuseFar_6 : decode cX7_refuseFar 6 = .ok (.iaload, 1) := dX7_refuseFar_r0.2.2.2.2.1
theorem dX7_refuseFar_7 : decode cX7_refuseFar 7 = .ok (.iconst 1, 1) := dX7_refuseFar_r0.2.2.2.2.2.1
theorem dX7_refuseFar_8 : decode cX7_refuseFar 8 = .ok (.iadd, 1) := dX7_refuseFar_r0.2.2.2.2.2.2.1
theorem dX7_refuseFar_9 : decode cX7_refuseFar 9 = .ok (.iastore, 1) := dX7_refuseFar_r0.2.2.2.2.2.2.2.1
theorem dX7_refuseFar_10 : decode cX7_refuseFar 10 = .ok (.bipush (-10), 2) := dX7_refuseFar_r0.2.2.2.2.2.2.2.2.1
theorem dX7_refuseFar_12 : decode cX7_refuseFar 12 = .ok (.iload_n 1, 1) := dX7_refuseFar_r0.2.2.2.2.2.2.2.2.2.1
theorem dX7_refuseFar_13 : decode cX7_refuseFar 13 = .ok (.isub, 1) := dX7_refuseFar_r0.2.2.2.2.2.2.2.2.2.2.1
theorem dX7_refuseFar_14 : decode cX7_refuseFar 14 = .ok (.ireturn, 1) := dX7_refuseFar_r0.2.2.2.2.2.2.2.2.2.2.2.1
def wp_110 (v1 : Int32) (m : zf_Me) (Q : Int32 → zf_Me → Prop) : Prop := ((0 ≤ (Int32.toInt v1) ∧ (Int32.toInt v1) < (8 : Int)) ∧ ((0 ≤ (Int32.toInt v1) ∧ (Int32.toInt v1) < (8 : Int)) ∧ ∀ m1, m1 = zf_u m 46 (Int32.toInt v1).toNat ((m.1 46 (Int32.toInt v1).toNat) + 1) → Q ((-10) - v1) m1))
theorem zr_110 {d : Nat} (hd : 0 ≤ d) {v1 : Int32} {Q : Int32 → zf_Me → Prop} {m : zf_Me} (h : wp_110 v1 m Q) : zf_M d 110 [.inr (.inr (1, 0)), .inl v1] m (zf_I Q) := by
  unfold wp_110 at h
  refine zf_M_of (Nat.le_of_ble_eq_true rfl) zm_110 (L := [some (.inr (.inr (1, 0))), some (.inl v1)]) rfl ?_
  refine zf_ld (pc' := 1) (v := .inr (.inr (1, 0))) dX7_refuseFar_0 rfl (fun _ _ _ => rfl) rfl rfl rfl ?_
  refine zf_gfr (pc' := 4) (b := 46) dX7_refuseFar_1 rfl rfl (by decide) rfl rfl ?_
  refine zf_ld (pc' := 5) (v := .inl v1) dX7_refuseFar_4 rfl (fun _ _ _ => rfl) rfl rfl rfl ?_
  refine zf_in (pc' := 6) (S' := [.inl v1, .inr (.inr (1, 46)), .inl v1, .inr (.inr (1, 46))]) dX7_refuseFar_5 rfl (fun _ _ _ => rfl) ?_
  refine zf_ial (pc' := 7) dX7_refuseFar_6 rfl (⟨by decide, rfl⟩ : zf_arr 46 8).1 (⟨by decide, rfl⟩ : zf_arr 46 8).2 h.1 rfl ?_
  replace h := h.2
  refine zf_ic (v := 1) (pc' := 8) dX7_refuseFar_7 rfl rfl ?_
  refine zf_in (pc' := 9) (S' := [.inl ((m.1 46 (Int32.toInt v1).toNat) + 1), .inl v1, .inr (.inr (1, 46))]) dX7_refuseFar_8 rfl (fun _ _ _ => rfl) ?_
  refine zf_ias (pc' := 10) dX7_refuseFar_9 rfl (⟨by decide, rfl⟩ : zf_arr 46 8).1 (⟨by decide, rfl⟩ : zf_arr 46 8).2 h.1 rfl (fun m1 e2 => ?_)
  replace h := h.2 m1 e2
  refine zf_bi (v := (-10)) (pc' := 12) dX7_refuseFar_10 rfl rfl ?_
  refine zf_ld (pc' := 13) (v := .inl v1) dX7_refuseFar_12 rfl (fun _ _ _ => rfl) rfl rfl rfl ?_
  refine zf_in (pc' := 14) (S' := [.inl ((-10) - v1)]) dX7_refuseFar_13 rfl (fun _ _ _ => rfl) ?_
  exact zf_ri dX7_refuseFar_14 rfl h
def zt_77 : zx_MT := (7, yX7_furlongOf, cX7_furlongOf, 3, (some FieldType.int), 2, 0)
theorem zm_77 : zx_m 77 = zt_77 := rfl
theorem dX7_furlongOf_r0 : zdcP cX7_furlongOf 0 [(.aload_n 0, 1), (.getfield 23, 3), (.getfield 30, 3), (.iload_n 1, 1), (.invokevirtual 159, 3), (.ifCond .eq 12, 3), (.iload_n 2, 1), (.ifCond .lt 8, 3), (.iload_n 2, 1), (.iconst 1, 1), (.if_icmp .le 9, 3), (.aload_n 0, 1), (.iconst 5, 1), (.invokevirtual 162, 3), (.ireturn, 1), (.iload_n 2, 1)] := zdcA_ok (by decide +kernel)
theorem dX7_furlongOf_0 : decode cX7_furlongOf 0 = .ok (.aload_n 0, 1) := dX7_furlongOf_r0.1
theorem dX7_furlongOf_1 : decode cX7_furlongOf 1 = .ok (.getfield 23, 3) := dX7_furlongOf_r0.2.1
theorem dX7_furlongOf_4 : decode cX7_furlongOf 4 = .ok (.getfield 30, 3) := dX7_furlongOf_r0.2.2.1
theorem dX7_furlongOf_7 : decode cX7_furlongOf 7 = .ok (.iload_n 1, 1) := dX7_furlongOf_r0.2.2.2.1
theorem dX7_furlongOf_8 : decode cX7_furlongOf 8 = .ok (.invokevirtual 159, 3) := dX7_furlongOf_r0.2.2.2.2.1
theorem dX7_furlongOf_11 : decode cX7_furlongOf 11 = .ok (.ifCond .eq 12, 3) := dX7_furlongOf_r0.2.2.2.2.2.1
theorem dX7_furlongOf_14 : decode cX7_furlongOf 14 = .ok (.iload_n 2, 1) := dX7_furlongOf_r0.2.2.2.2.2.2.1
theorem dX7_furlongOf_15 : decode cX7_furlongOf 15 = .ok (.ifCond .lt 8, 3) := dX7_furlongOf_r0.2.2.2.2.2.2.2.1
theorem dX7_furlongOf_18 : decode cX7_furlongOf 18 = .ok (.iload_n 2, 1) := dX7_furlongOf_r0.2.2.2.2.2.2.2.2.1
theorem dX7_furlongOf_19 : decode cX7_furlongOf 19 = .ok (.iconst 1, 1) := dX7_furlongOf_r0.2.2.2.2.2.2.2.2.2.1
theorem dX7_furlongOf_20 : decode cX7_furlongOf 20 = .ok (.if_icmp .le 9, 3) := dX7_furlongOf_r0.2.2.2.2.2.2.2.2.2.2.1
theorem dX7_furlongOf_23 : decode cX7_furlongOf 23 = .ok (.aload_n 0, 1) := dX7_furlongOf_r0.2.2.2.2.2.2.2.2.2.2.2.1
theorem dX7_furlongOf_24 : decode cX7_furlongOf 24 = .ok (.iconst 5, 1) := dX7_furlongOf_r0.2.2.2.2.2.2.2.2.2.2.2.2.1
theorem dX7_furlongOf_25 : decode cX7_furlongOf 25 = .ok (.invokevirtual 162, 3) := dX7_furlongOf_r0.2.2.2.2.2.2.2.2.2.2.2.2.2.1
theorem dX7_furlongOf_28 : decode cX7_furlongOf 28 = .ok (.ireturn, 1) := dX7_furlongOf_r0.2.2.2.2.2.2.2.2.2.2.2.2.2.2.1
theorem dX7_furlongOf_29 : decode cX7_furlongOf 29 = .ok (.iload_n 2, 1) := dX7_furlongOf_r0.2.2.2.2.2.2.2.2.2.2.2.2.2.2.2.1
theorem dX7_furlongOf_r30 : zdcP cX7_furlongOf 30 [(.ifCond .ne 18, 3), (.aload_n 0, 1), (.getfield 23, 3), (.getfield 30, 3), (.getfield 165, 3), (.iload_n 1, 1), (.iaload, 1), (.goto 15, 3), (.aload_n 0, 1), (.getfield 23, 3), (.getfield 30, 3), (.getfield 168, 3), (.iload_n 1, 1), (.iaload, 1), (.ireturn, 1)] := zdcA_ok (by decide +kernel)
theorem dX7_furlongOf_30 : decode cX7_furlongOf 30 = .ok (.ifCond .ne 18, 3) := dX7_furlongOf_r30.1
theorem dX7_furlongOf_33 : decode cX7_furlongOf 33 = .ok (.aload_n 0, 1) := dX7_furlongOf_r30.2.1
theorem dX7_furlongOf_34 : decode cX7_furlongOf 34 = .ok (.getfield 23, 3) := dX7_furlongOf_r30.2.2.1
theorem dX7_furlongOf_37 : decode cX7_furlongOf 37 = .ok (.getfield 30, 3) := dX7_furlongOf_r30.2.2.2.1
theorem dX7_furlongOf_40 : decode cX7_furlongOf 40 = .ok (.getfield 165, 3) := dX7_furlongOf_r30.2.2.2.2.1
theorem dX7_furlongOf_43 : decode cX7_furlongOf 43 = .ok (.iload_n 1, 1) := dX7_furlongOf_r30.2.2.2.2.2.1
theorem dX7_furlongOf_44 : decode cX7_furlongOf 44 = .ok (.iaload, 1) := dX7_furlongOf_r30.2.2.2.2.2.2.1
theorem dX7_furlongOf_45 : decode cX7_furlongOf 45 = .ok (.goto 15, 3) := dX7_furlongOf_r30.2.2.2.2.2.2.2.1
theorem dX7_furlongOf_48 : decode cX7_furlongOf 48 = .ok (.aload_n 0, 1) := dX7_furlongOf_r30.2.2.2.2.2.2.2.2.1
theorem dX7_furlongOf_49 : decode cX7_furlongOf 49 = .ok (.getfield 23, 3) := dX7_furlongOf_r30.2.2.2.2.2.2.2.2.2.1
theorem dX7_furlongOf_52 : decode cX7_furlongOf 52 = .ok (.getfield 30, 3) := dX7_furlongOf_r30.2.2.2.2.2.2.2.2.2.2.1
theorem dX7_furlongOf_55 : decode cX7_furlongOf 55 = .ok (.getfield 168, 3) := dX7_furlongOf_r30.2.2.2.2.2.2.2.2.2.2.2.1
theorem dX7_furlongOf_58 : decode cX7_furlongOf 58 = .ok (.iload_n 1, 1) := dX7_furlongOf_r30.2.2.2.2.2.2.2.2.2.2.2.2.1
theorem dX7_furlongOf_59 : decode cX7_furlongOf 59 = .ok (.iaload, 1) := dX7_furlongOf_r30.2.2.2.2.2.2.2.2.2.2.2.2.2.1
theorem dX7_furlongOf_60 : decode cX7_furlongOf 60 = .ok (.ireturn, 1) := dX7_furlongOf_r30.2.2.2.2.2.2.2.2.2.2.2.2.2.2.1
def wp_77 (v1 : Int32) (v2 : Int32) (m : zf_Me) (Q : Int32 → zf_Me → Prop) : Prop := wp_64 3 v1 m (fun b1 m2 => ((b1 = false → wp_110 5 m2 (fun x3 m4 => Q x3 m4)) ∧ (b1 = true → ((v2.toInt < 0 → wp_110 5 m2 (fun x5 m6 => Q x5 m6)) ∧ (v2.toInt ≥ 0 → ((v2.toInt ≤ 1 → ((¬ v2.toInt = 0 → ((0 ≤ (Int32.toInt v1) ∧ (Int32.toInt v1) < (24 : Int)) ∧ Q (m2.1 5 (Int32.toInt v1).toNat) m2)) ∧ (v2.toInt = 0 → ((0 ≤ (Int32.toInt v1) ∧ (Int32.toInt v1) < (24 : Int)) ∧ Q (m2.1 4 (Int32.toInt v1).toNat) m2)))) ∧ (v2.toInt > 1 → wp_110 5 m2 (fun x7 m8 => Q x7 m8))))))))
theorem zr_77 {d : Nat} (hd : 1 ≤ d) {v1 : Int32} {v2 : Int32} {Q : Int32 → zf_Me → Prop} {m : zf_Me} (h : wp_77 v1 v2 m Q) : zf_M d 77 [.inr (.inr (1, 0)), .inl v1, .inl v2] m (zf_I Q) := by
  obtain ⟨e, rfl⟩ : ∃ z, d = z + 1 := ⟨d - 1, by omega⟩
  unfold wp_77 at h
  refine zf_M_of (Nat.le_of_ble_eq_true rfl) zm_77 (L := [some (.inr (.inr (1, 0))), some (.inl v1), some (.inl v2)]) rfl ?_
  refine zf_ld (pc' := 1) (v := .inr (.inr (1, 0))) dX7_furlongOf_0 rfl (fun _ _ _ => rfl) rfl rfl rfl ?_
  refine zf_gfr (pc' := 4) (b := 2) dX7_furlongOf_1 rfl rfl (by decide) rfl rfl ?_
  refine zf_gfr (pc' := 7) (b := 3) dX7_furlongOf_4 rfl rfl zf_walk2.1 zf_walk2.2.1 rfl ?_
  refine zf_ld (pc' := 8) (v := .inl v1) dX7_furlongOf_7 rfl (fun _ _ _ => rfl) rfl rfl rfl ?_
  refine zf_iv (k := 64) (pc' := 11) (r := []) dX7_furlongOf_8 rfl rfl rfl rfl zf_walk2.2.2.1.1 zf_walk2.2.2.1.2.1 rfl rfl (zr_64 (by omega) zf_walk2.2.2.1 h) (zf_kB (fun b1 m2 h => ?_))
  refine zf_ib_eq (tgt := 23) (pc' := 14) dX7_furlongOf_11 rfl rfl (fun g => ?_) (fun g => ?_)
  · replace h := h.1 g
    refine zf_ld (pc' := 24) (v := .inr (.inr (1, 0))) dX7_furlongOf_23 rfl (fun _ _ _ => rfl) rfl rfl rfl ?_
    refine zf_ic (v := 5) (pc' := 25) dX7_furlongOf_24 rfl rfl ?_
    refine zf_iv (k := 110) (pc' := 28) (r := []) dX7_furlongOf_25 rfl rfl rfl rfl (by decide) rfl rfl rfl (zr_110 (by omega) h) (zf_kI (fun x3 m4 h => ?_))
    exact zf_ri dX7_furlongOf_28 rfl h
  · replace h := h.2 g
    refine zf_ld (pc' := 15) (v := .inl v2) dX7_furlongOf_14 rfl (fun _ _ _ => rfl) rfl rfl rfl ?_
    refine zf_if_lt (tgt := 23) (pc' := 18) dX7_furlongOf_15 rfl rfl (fun g => ?_) (fun g => ?_)
    · replace h := h.1 g
      refine zf_ld (pc' := 24) (v := .inr (.inr (1, 0))) dX7_furlongOf_23 rfl (fun _ _ _ => rfl) rfl rfl rfl ?_
      refine zf_ic (v := 5) (pc' := 25) dX7_furlongOf_24 rfl rfl ?_
      refine zf_iv (k := 110) (pc' := 28) (r := []) dX7_furlongOf_25 rfl rfl rfl rfl (by decide) rfl rfl rfl (zr_110 (by omega) h) (zf_kI (fun x5 m6 h => ?_))
      exact zf_ri dX7_furlongOf_28 rfl h
    · replace h := h.2 g
      refine zf_ld (pc' := 19) (v := .inl v2) dX7_furlongOf_18 rfl (fun _ _ _ => rfl) rfl rfl rfl ?_
      refine zf_ic (v := 1) (pc' := 20) dX7_furlongOf_19 rfl rfl ?_
      refine zf_icmp_le (tgt := 29) (pc' := 23) dX7_furlongOf_20 rfl rfl (fun g => ?_) (fun g => ?_)
      · replace h := h.1 g
        refine zf_ld (pc' := 30) (v := .inl v2) dX7_furlongOf_29 rfl (fun _ _ _ => rfl) rfl rfl rfl ?_
        refine zf_if_ne (tgt := 48) (pc' := 33) dX7_furlongOf_30 rfl rfl (fun g => ?_) (fun g => ?_)
        · replace h := h.1 g
          refine zf_ld (pc' := 49) (v := .inr (.inr (1, 0))) dX7_furlongOf_48 rfl (fun _ _ _ => rfl) rfl rfl rfl ?_
          refine zf_gfr (pc' := 52) (b := 2) dX7_furlongOf_49 rfl rfl (by decide) rfl rfl ?_
          refine zf_gfr (pc' := 55) (b := 3) dX7_furlongOf_52 rfl rfl zf_walk2.1 zf_walk2.2.1 rfl ?_
          refine zf_gfr (pc' := 58) (b := 5) dX7_furlongOf_55 rfl rfl zf_walk2.2.2.1.1 zf_walk2.2.2.1.2.1 rfl ?_
          refine zf_ld (pc' := 59) (v := .inl v1) dX7_furlongOf_58 rfl (fun _ _ _ => rfl) rfl rfl rfl ?_
          refine zf_ial (pc' := 60) dX7_furlongOf_59 rfl zf_walk2.2.2.1.2.2.2.1.1 zf_walk2.2.2.1.2.2.2.1.2 h.1 rfl ?_
          replace h := h.2
          exact zf_ri dX7_furlongOf_60 rfl h
        · replace h := h.2 g
          refine zf_ld (pc' := 34) (v := .inr (.inr (1, 0))) dX7_furlongOf_33 rfl (fun _ _ _ => rfl) rfl rfl rfl ?_
          refine zf_gfr (pc' := 37) (b := 2) dX7_furlongOf_34 rfl rfl (by decide) rfl rfl ?_
          refine zf_gfr (pc' := 40) (b := 3) dX7_furlongOf_37 rfl rfl zf_walk2.1 zf_walk2.2.1 rfl ?_
          refine zf_gfr (pc' := 43) (b := 4) dX7_furlongOf_40 rfl rfl zf_walk2.2.2.1.1 zf_walk2.2.2.1.2.1 rfl ?_
          refine zf_ld (pc' := 44) (v := .inl v1) dX7_furlongOf_43 rfl (fun _ _ _ => rfl) rfl rfl rfl ?_
          refine zf_ial (pc' := 45) dX7_furlongOf_44 rfl zf_walk2.2.2.1.2.2.1.1 zf_walk2.2.2.1.2.2.1.2 h.1 rfl ?_
          replace h := h.2
          refine zf_goto (tgt := 60) dX7_furlongOf_45 rfl ?_
          exact zf_ri dX7_furlongOf_60 rfl h
      · replace h := h.2 g
        refine zf_ld (pc' := 24) (v := .inr (.inr (1, 0))) dX7_furlongOf_23 rfl (fun _ _ _ => rfl) rfl rfl rfl ?_
        refine zf_ic (v := 5) (pc' := 25) dX7_furlongOf_24 rfl rfl ?_
        refine zf_iv (k := 110) (pc' := 28) (r := []) dX7_furlongOf_25 rfl rfl rfl rfl (by decide) rfl rfl rfl (zr_110 (by omega) h) (zf_kI (fun x7 m8 h => ?_))
        exact zf_ri dX7_furlongOf_28 rfl h
def zt_78 : zx_MT := (7, yX7_personOf, cX7_personOf, 3, (some FieldType.int), 2, 0)
theorem zm_78 : zx_m 78 = zt_78 := rfl
theorem dX7_personOf_r0 : zdcP cX7_personOf 0 [(.aload_n 0, 1), (.getfield 23, 3), (.getfield 30, 3), (.iload_n 1, 1), (.invokevirtual 118, 3), (.ifCond .ne 9, 3), (.aload_n 0, 1), (.iconst 5, 1), (.invokevirtual 82, 3), (.ireturn, 1), (.iload_n 2, 1)] := zdcA_ok (by decide +kernel)
theorem dX7_personOf_0 : decode cX7_personOf 0 = .ok (.aload_n 0, 1) := dX7_personOf_r0.1
theorem dX7_personOf_1 : decode cX7_personOf 1 = .ok (.getfield 23, 3) := dX7_personOf_r0.2.1
theorem dX7_personOf_4 : decode cX7_personOf 4 = .ok (.getfield 30, 3) := dX7_personOf_r0.2.2.1
theorem dX7_personOf_7 : decode cX7_personOf 7 = .ok (.iload_n 1, 1) := dX7_personOf_r0.2.2.2.1
theorem dX7_personOf_8 : decode cX7_personOf 8 = .ok (.invokevirtual 118, 3) := dX7_personOf_r0.2.2.2.2.1
theorem dX7_personOf_11 : decode cX7_personOf 11 = .ok (.ifCond .ne 9, 3) := dX7_personOf_r0.2.2.2.2.2.1
theorem dX7_personOf_14 : decode cX7_personOf 14 = .ok (.aload_n 0, 1) := dX7_personOf_r0.2.2.2.2.2.2.1
theorem dX7_personOf_15 : decode cX7_personOf 15 = .ok (.iconst 5, 1) := dX7_personOf_r0.2.2.2.2.2.2.2.1
theorem dX7_personOf_16 : decode cX7_personOf 16 = .ok (.invokevirtual 82, 3) := dX7_personOf_r0.2.2.2.2.2.2.2.2.1
theorem dX7_personOf_19 : decode cX7_personOf 19 = .ok (.ireturn, 1) := dX7_personOf_r0.2.2.2.2.2.2.2.2.2.1
theorem dX7_personOf_20 : decode cX7_personOf 20 = .ok (.iload_n 2, 1) := dX7_personOf_r0.2.2.2.2.2.2.2.2.2.2.1
theorem dX7_personOf_21 : decode cX7_personOf 21 = .ok (.tableswitch 84 0 3 #[31, 44, 57, 67], 31) := by decide +kernel
theorem dX7_personOf_r52 : zdcP cX7_personOf 52 [(.aload_n 0, 1), (.getfield 23, 3), (.getfield 30, 3), (.getfield 127, 3), (.iload_n 1, 1), (.iaload, 1), (.ireturn, 1), (.aload_n 0, 1), (.getfield 23, 3), (.getfield 30, 3), (.getfield 171, 3), (.iload_n 1, 1), (.iaload, 1), (.ireturn, 1), (.aload_n 0, 1), (.getfield 23, 3)] := zdcA_ok (by decide +kernel)
theorem dX7_personOf_52 : decode cX7_personOf 52 = .ok (.aload_n 0, 1) := dX7_personOf_r52.1
theorem dX7_personOf_53 : decode cX7_personOf 53 = .ok (.getfield 23, 3) := dX7_personOf_r52.2.1
theorem dX7_personOf_56 : decode cX7_personOf 56 = .ok (.getfield 30, 3) := dX7_personOf_r52.2.2.1
theorem dX7_personOf_59 : decode cX7_personOf 59 = .ok (.getfield 127, 3) := dX7_personOf_r52.2.2.2.1
theorem dX7_personOf_62 : decode cX7_personOf 62 = .ok (.iload_n 1, 1) := dX7_personOf_r52.2.2.2.2.1
theorem dX7_personOf_63 : decode cX7_personOf 63 = .ok (.iaload, 1) := dX7_personOf_r52.2.2.2.2.2.1
theorem dX7_personOf_64 : decode cX7_personOf 64 = .ok (.ireturn, 1) := dX7_personOf_r52.2.2.2.2.2.2.1
theorem dX7_personOf_65 : decode cX7_personOf 65 = .ok (.aload_n 0, 1) := dX7_personOf_r52.2.2.2.2.2.2.2.1
theorem dX7_personOf_66 : decode cX7_personOf 66 = .ok (.getfield 23, 3) := dX7_personOf_r52.2.2.2.2.2.2.2.2.1
theorem dX7_personOf_69 : decode cX7_personOf 69 = .ok (.getfield 30, 3) := dX7_personOf_r52.2.2.2.2.2.2.2.2.2.1
theorem dX7_personOf_72 : decode cX7_personOf 72 = .ok (.getfield 171, 3) := dX7_personOf_r52.2.2.2.2.2.2.2.2.2.2.1
theorem dX7_personOf_75 : decode cX7_personOf 75 = .ok (.iload_n 1, 1) := dX7_personOf_r52.2.2.2.2.2.2.2.2.2.2.2.1
theorem dX7_personOf_76 : decode cX7_personOf 76 = .ok (.iaload, 1) := dX7_personOf_r52.2.2.2.2.2.2.2.2.2.2.2.2.1
theorem dX7_personOf_77 : decode cX7_personOf 77 = .ok (.ireturn, 1) := dX7_personOf_r52.2.2.2.2.2.2.2.2.2.2.2.2.2.1
theorem dX7_personOf_78 : decode cX7_personOf 78 = .ok (.aload_n 0, 1) := dX7_personOf_r52.2.2.2.2.2.2.2.2.2.2.2.2.2.2.1
theorem dX7_personOf_79 : decode cX7_personOf 79 = .ok (.getfield 23, 3) := dX7_personOf_r52.2.2.2.2.2.2.2.2.2.2.2.2.2.2.2.1
theorem dX7_personOf_r82 : zdcP cX7_personOf 82 [(.getfield 143, 3), (.iload_n 1, 1), (.iaload, 1), (.ireturn, 1), (.aload_n 0, 1), (.getfield 23, 3), (.getfield 174, 3), (.iload_n 1, 1), (.if_icmp .ne 7, 3), (.iconst 1, 1), (.goto 4, 3), (.iconst 0, 1), (.ireturn, 1), (.aload_n 0, 1), (.iconst 5, 1), (.invokevirtual 82, 3)] := zdcA_ok (by decide +kernel)
theorem dX7_personOf_82 : decode cX7_personOf 82 = .ok (.getfield 143, 3) := dX7_personOf_r82.1
theorem dX7_personOf_85 : decode cX7_personOf 85 = .ok (.iload_n 1, 1) := dX7_personOf_r82.2.1
theorem dX7_personOf_86 : decode cX7_personOf 86 = .ok (.iaload, 1) := dX7_personOf_r82.2.2.1
theorem dX7_personOf_87 : decode cX7_personOf 87 = .ok (.ireturn, 1) := dX7_personOf_r82.2.2.2.1
theorem dX7_personOf_88 : decode cX7_personOf 88 = .ok (.aload_n 0, 1) := dX7_personOf_r82.2.2.2.2.1
theorem dX7_personOf_89 : decode cX7_personOf 89 = .ok (.getfield 23, 3) := dX7_personOf_r82.2.2.2.2.2.1
theorem dX7_personOf_92 : decode cX7_personOf 92 = .ok (.getfield 174, 3) := dX7_personOf_r82.2.2.2.2.2.2.1
theorem dX7_personOf_95 : decode cX7_personOf 95 = .ok (.iload_n 1, 1) := dX7_personOf_r82.2.2.2.2.2.2.2.1
theorem dX7_personOf_96 : decode cX7_personOf 96 = .ok (.if_icmp .ne 7, 3) := dX7_personOf_r82.2.2.2.2.2.2.2.2.1
theorem dX7_personOf_99 : decode cX7_personOf 99 = .ok (.iconst 1, 1) := dX7_personOf_r82.2.2.2.2.2.2.2.2.2.1
theorem dX7_personOf_100 : decode cX7_personOf 100 = .ok (.goto 4, 3) := dX7_personOf_r82.2.2.2.2.2.2.2.2.2.2.1
theorem dX7_personOf_103 : decode cX7_personOf 103 = .ok (.iconst 0, 1) := dX7_personOf_r82.2.2.2.2.2.2.2.2.2.2.2.1
theorem dX7_personOf_104 : decode cX7_personOf 104 = .ok (.ireturn, 1) := dX7_personOf_r82.2.2.2.2.2.2.2.2.2.2.2.2.1
theorem dX7_personOf_105 : decode cX7_personOf 105 = .ok (.aload_n 0, 1) := dX7_personOf_r82.2.2.2.2.2.2.2.2.2.2.2.2.2.1
theorem dX7_personOf_106 : decode cX7_personOf 106 = .ok (.iconst 5, 1) := dX7_personOf_r82.2.2.2.2.2.2.2.2.2.2.2.2.2.2.1
theorem dX7_personOf_107 : decode cX7_personOf 107 = .ok (.invokevirtual 82, 3) := dX7_personOf_r82.2.2.2.2.2.2.2.2.2.2.2.2.2.2.2.1
theorem dX7_personOf_110 : decode cX7_personOf 110 = .ok (.ireturn, 1) := zdc_ok (by decide +kernel)
def wp_78 (v1 : Int32) (v2 : Int32) (m : zf_Me) (Q : Int32 → zf_Me → Prop) : Prop := wp_65 3 v1 m (fun b1 m2 => ((b1 = true → (((v2.toInt < 0 ∨ v2.toInt > 3) → wp_109 5 m2 (fun x3 m4 => Q x3 m4)) ∧ (v2.toInt = 0 → ((0 ≤ (Int32.toInt v1) ∧ (Int32.toInt v1) < (6 : Int)) ∧ Q (m2.1 6 (Int32.toInt v1).toNat) m2)) ∧ (v2.toInt = 1 → ((0 ≤ (Int32.toInt v1) ∧ (Int32.toInt v1) < (6 : Int)) ∧ Q (m2.1 7 (Int32.toInt v1).toNat) m2)) ∧ (v2.toInt = 2 → ((0 ≤ (Int32.toInt v1) ∧ (Int32.toInt v1) < (6 : Int)) ∧ Q (m2.1 8 (Int32.toInt v1).toNat) m2)) ∧ (v2.toInt = 3 → ((¬ ((m2.1 2 2)).toInt = v1.toInt → Q 0 m2) ∧ (((m2.1 2 2)).toInt = v1.toInt → Q 1 m2))))) ∧ (b1 = false → wp_109 5 m2 (fun x5 m6 => Q x5 m6))))
theorem zr_78 {d : Nat} (hd : 1 ≤ d) {v1 : Int32} {v2 : Int32} {Q : Int32 → zf_Me → Prop} {m : zf_Me} (h : wp_78 v1 v2 m Q) : zf_M d 78 [.inr (.inr (1, 0)), .inl v1, .inl v2] m (zf_I Q) := by
  obtain ⟨e, rfl⟩ : ∃ z, d = z + 1 := ⟨d - 1, by omega⟩
  unfold wp_78 at h
  refine zf_M_of (Nat.le_of_ble_eq_true rfl) zm_78 (L := [some (.inr (.inr (1, 0))), some (.inl v1), some (.inl v2)]) rfl ?_
  refine zf_ld (pc' := 1) (v := .inr (.inr (1, 0))) dX7_personOf_0 rfl (fun _ _ _ => rfl) rfl rfl rfl ?_
  refine zf_gfr (pc' := 4) (b := 2) dX7_personOf_1 rfl rfl (by decide) rfl rfl ?_
  refine zf_gfr (pc' := 7) (b := 3) dX7_personOf_4 rfl rfl zf_walk2.1 zf_walk2.2.1 rfl ?_
  refine zf_ld (pc' := 8) (v := .inl v1) dX7_personOf_7 rfl (fun _ _ _ => rfl) rfl rfl rfl ?_
  refine zf_iv (k := 65) (pc' := 11) (r := []) dX7_personOf_8 rfl rfl rfl rfl zf_walk2.2.2.1.1 zf_walk2.2.2.1.2.1 rfl rfl (zr_65 (by omega) zf_walk2.2.2.1 h) (zf_kB (fun b1 m2 h => ?_))
  refine zf_ib_ne (tgt := 20) (pc' := 14) dX7_personOf_11 rfl rfl (fun g => ?_) (fun g => ?_)
  · replace h := h.1 g
    refine zf_ld (pc' := 21) (v := .inl v2) dX7_personOf_20 rfl (fun _ _ _ => rfl) rfl rfl rfl ?_
    refine zf_tsc (tgd := 105) dX7_personOf_21 rfl [52, 65, 78, 88] (by decide) (by decide) (fun g => ?_) (zl_cons (fun g => ?_) (zl_cons (fun g => ?_) (zl_cons (fun g => ?_) (zl_cons (fun g => ?_) (zl_nil)))))
    · replace h := h.1 (by omega)
      refine zf_ld (pc' := 106) (v := .inr (.inr (1, 0))) dX7_personOf_105 rfl (fun _ _ _ => rfl) rfl rfl rfl ?_
      refine zf_ic (v := 5) (pc' := 107) dX7_personOf_106 rfl rfl ?_
      refine zf_iv (k := 109) (pc' := 110) (r := []) dX7_personOf_107 rfl rfl rfl rfl (by decide) rfl rfl rfl (zr_109 (by omega) h) (zf_kI (fun x3 m4 h => ?_))
      exact zf_ri dX7_personOf_110 rfl h
    · replace h := h.2.1 (by omega)
      refine zf_ld (pc' := 53) (v := .inr (.inr (1, 0))) dX7_personOf_52 rfl (fun _ _ _ => rfl) rfl rfl rfl ?_
      refine zf_gfr (pc' := 56) (b := 2) dX7_personOf_53 rfl rfl (by decide) rfl rfl ?_
      refine zf_gfr (pc' := 59) (b := 3) dX7_personOf_56 rfl rfl zf_walk2.1 zf_walk2.2.1 rfl ?_
      refine zf_gfr (pc' := 62) (b := 6) dX7_personOf_59 rfl rfl zf_walk2.2.2.1.1 zf_walk2.2.2.1.2.1 rfl ?_
      refine zf_ld (pc' := 63) (v := .inl v1) dX7_personOf_62 rfl (fun _ _ _ => rfl) rfl rfl rfl ?_
      refine zf_ial (pc' := 64) dX7_personOf_63 rfl zf_walk2.2.2.1.2.2.2.2.1.1 zf_walk2.2.2.1.2.2.2.2.1.2 h.1 rfl ?_
      replace h := h.2
      exact zf_ri dX7_personOf_64 rfl h
    · replace h := h.2.2.1 (by omega)
      refine zf_ld (pc' := 66) (v := .inr (.inr (1, 0))) dX7_personOf_65 rfl (fun _ _ _ => rfl) rfl rfl rfl ?_
      refine zf_gfr (pc' := 69) (b := 2) dX7_personOf_66 rfl rfl (by decide) rfl rfl ?_
      refine zf_gfr (pc' := 72) (b := 3) dX7_personOf_69 rfl rfl zf_walk2.1 zf_walk2.2.1 rfl ?_
      refine zf_gfr (pc' := 75) (b := 7) dX7_personOf_72 rfl rfl zf_walk2.2.2.1.1 zf_walk2.2.2.1.2.1 rfl ?_
      refine zf_ld (pc' := 76) (v := .inl v1) dX7_personOf_75 rfl (fun _ _ _ => rfl) rfl rfl rfl ?_
      refine zf_ial (pc' := 77) dX7_personOf_76 rfl zf_walk2.2.2.1.2.2.2.2.2.1 zf_walk2.2.2.1.2.2.2.2.2.2 h.1 rfl ?_
      replace h := h.2
      exact zf_ri dX7_personOf_77 rfl h
    · replace h := h.2.2.2.1 (by omega)
      refine zf_ld (pc' := 79) (v := .inr (.inr (1, 0))) dX7_personOf_78 rfl (fun _ _ _ => rfl) rfl rfl rfl ?_
      refine zf_gfr (pc' := 82) (b := 2) dX7_personOf_79 rfl rfl (by decide) rfl rfl ?_
      refine zf_gfr (pc' := 85) (b := 8) dX7_personOf_82 rfl rfl zf_walk2.1 zf_walk2.2.1 rfl ?_
      refine zf_ld (pc' := 86) (v := .inl v1) dX7_personOf_85 rfl (fun _ _ _ => rfl) rfl rfl rfl ?_
      refine zf_ial (pc' := 87) dX7_personOf_86 rfl zf_walk2.2.2.2.1 zf_walk2.2.2.2.2 h.1 rfl ?_
      replace h := h.2
      exact zf_ri dX7_personOf_87 rfl h
    · replace h := h.2.2.2.2 (by omega)
      refine zf_ld (pc' := 89) (v := .inr (.inr (1, 0))) dX7_personOf_88 rfl (fun _ _ _ => rfl) rfl rfl rfl ?_
      refine zf_gfr (pc' := 92) (b := 2) dX7_personOf_89 rfl rfl (by decide) rfl rfl ?_
      refine zf_gfi (pc' := 95) dX7_personOf_92 rfl rfl zf_walk2.1 zf_walk2.2.1 rfl ?_
      refine zf_ld (pc' := 96) (v := .inl v1) dX7_personOf_95 rfl (fun _ _ _ => rfl) rfl rfl rfl ?_
      refine zf_icmp_ne (tgt := 103) (pc' := 99) dX7_personOf_96 rfl rfl (fun g => ?_) (fun g => ?_)
      · replace h := h.1 g
        refine zf_ic (v := 0) (pc' := 104) dX7_personOf_103 rfl rfl ?_
        exact zf_ri dX7_personOf_104 rfl h
      · replace h := h.2 g
        refine zf_ic (v := 1) (pc' := 100) dX7_personOf_99 rfl rfl ?_
        refine zf_goto (tgt := 104) dX7_personOf_100 rfl ?_
        exact zf_ri dX7_personOf_104 rfl h
  · replace h := h.2 g
    refine zf_ld (pc' := 15) (v := .inr (.inr (1, 0))) dX7_personOf_14 rfl (fun _ _ _ => rfl) rfl rfl rfl ?_
    refine zf_ic (v := 5) (pc' := 16) dX7_personOf_15 rfl rfl ?_
    refine zf_iv (k := 109) (pc' := 19) (r := []) dX7_personOf_16 rfl rfl rfl rfl (by decide) rfl rfl rfl (zr_109 (by omega) h) (zf_kI (fun x5 m6 h => ?_))
    exact zf_ri dX7_personOf_19 rfl h
