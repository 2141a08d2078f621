/-! part 33: methods 95..: laid by wip/flat/dec.py -/
def zt_95 : zx_MT := (7, yX7_behind, cX7_behind, 5, (some FieldType.int), 3, 0)
theorem zm_95 : zx_m 95 = zt_95 := rfl
theorem dX7_behind_r0 : zdcP cX7_behind 0 [(.aload_n 0, 1), (.iload_n 1, 1), (.iload_n 2, 1), (.invokevirtual 267, 3), (.istore 4, 2), (.iload 4, 2), (.ifCond .eq 10, 3), (.iload 4, 2), (.bipush 6, 2), (.if_icmp .ne 15, 3), (.iload_n 3, 1), (.ifCond .lt 8, 3), (.iload_n 3, 1), (.iconst 3, 1), (.if_icmp .le 6, 3), (.iconst 5, 1)] := zdcA_ok (by decide +kernel)
theorem dX7_behind_0 : decode cX7_behind 0 = .ok (.aload_n 0, 1) := dX7_behind_r0.1
theorem dX7_behind_1 : decode cX7_behind 1 = .ok (.iload_n 1, 1) := dX7_behind_r0.2.1
theorem dX7_behind_2 : decode cX7_behind 2 = .ok (.iload_n 2, 1) := dX7_behind_r0.2.2.1
theorem dX7_behind_3 : decode cX7_behind 3 = .ok (.invokevirtual 267, 3) := dX7_behind_r0.2.2.2.1
theorem dX7_behind_6 : decode cX7_behind 6 = .ok (.istore 4, 2) := dX7_behind_r0.2.2.2.2.1
theorem dX7_behind_8 : decode cX7_behind 8 = .ok (.iload 4, 2) := dX7_behind_r0.2.2.2.2.2.1
theorem dX7_behind_10 : decode cX7_behind 10 = .ok (.ifCond .eq 10, 3) := dX7_behind_r0.2.2.2.2.2.2.1
theorem dX7_behind_13 : decode cX7_behind 13 = .ok (.iload 4, 2) := dX7_behind_r0.2.2.2.2.2.2.2.1
theorem dX7_behind_15 : decode cX7_behind 15 = .ok (.bipush 6, 2) := dX7_behind_r0.2.2.2.2.2.2.2.2.1
theorem dX7_behind_17 : decode cX7_behind 17 = .ok (.if_icmp .ne 15, 3) := dX7_behind_r0.2.2.2.2.2.2.2.2.2.1
theorem dX7_behind_20 : decode cX7_behind 20 = .ok (.iload_n 3, 1) := dX7_behind_r0.2.2.2.2.2.2.2.2.2.2.1
theorem dX7_behind_21 : decode cX7_behind 21 = .ok (.ifCond .lt 8, 3) := dX7_behind_r0.2.2.2.2.2.2.2.2.2.2.2.1
theorem dX7_behind_24 : decode cX7_behind 24 = .ok (.iload_n 3, 1) := dX7_behind_r0.2.2.2.2.2.2.2.2.2.2.2.2.1
theorem dX7_behind_25 : decode cX7_behind 25 = .ok (.iconst 3, 1) := dX7_behind_r0.2.2.2.2.2.2.2.2.2.2.2.2.2.1
theorem dX7_behind_26 : decode cX7_behind 26 = .ok (.if_icmp .le 6, 3) := dX7_behind_r0.2.2.2.2.2.2.2.2.2.2.2.2.2.2.1
theorem dX7_behind_29 : decode cX7_behind 29 = .ok (.iconst 5, 1) := dX7_behind_r0.2.2.2.2.2.2.2.2.2.2.2.2.2.2.2.1
theorem dX7_behind_r30 : zdcP cX7_behind 30 [(.istore 4, 2), (.iload 4, 2), (.ifCond .ne 22, 3), (.aload_n 0, 1), (.aload_n 0, 1), (.getfield 11, 3), (.iload_n 1, 1), (.aaload, 1), (.iload_n 2, 1), (.invokevirtual 270, 3), (.iconst (-1), 1), (.if_icmp .eq 7, 3), (.bipush 6, 2), (.istore 4, 2), (.iload 4, 2), (.ifCond .eq 10, 3)] := zdcA_ok (by decide +kernel)
theorem dX7_behind_30 : decode cX7_behind 30 = .ok (.istore 4, 2) := dX7_behind_r30.1
theorem dX7_behind_32 : decode cX7_behind 32 = .ok (.iload 4, 2) := dX7_behind_r30.2.1
theorem dX7_behind_34 : decode cX7_behind 34 = .ok (.ifCond .ne 22, 3) := dX7_behind_r30.2.2.1
theorem dX7_behind_37 : decode cX7_behind 37 = .ok (.aload_n 0, 1) := dX7_behind_r30.2.2.2.1
theorem dX7_behind_38 : decode cX7_behind 38 = .ok (.aload_n 0, 1) := dX7_behind_r30.2.2.2.2.1
theorem dX7_behind_39 : decode cX7_behind 39 = .ok (.getfield 11, 3) := dX7_behind_r30.2.2.2.2.2.1
theorem dX7_behind_42 : decode cX7_behind 42 = .ok (.iload_n 1, 1) := dX7_behind_r30.2.2.2.2.2.2.1
theorem dX7_behind_43 : decode cX7_behind 43 = .ok (.aaload, 1) := dX7_behind_r30.2.2.2.2.2.2.2.1
theorem dX7_behind_44 : decode cX7_behind 44 = .ok (.iload_n 2, 1) := dX7_behind_r30.2.2.2.2.2.2.2.2.1
theorem dX7_behind_45 : decode cX7_behind 45 = .ok (.invokevirtual 270, 3) := dX7_behind_r30.2.2.2.2.2.2.2.2.2.1
theorem dX7_behind_48 : decode cX7_behind 48 = .ok (.iconst (-1), 1) := dX7_behind_r30.2.2.2.2.2.2.2.2.2.2.1
theorem dX7_behind_49 : decode cX7_behind 49 = .ok (.if_icmp .eq 7, 3) := dX7_behind_r30.2.2.2.2.2.2.2.2.2.2.2.1
theorem dX7_behind_52 : decode cX7_behind 52 = .ok (.bipush 6, 2) := dX7_behind_r30.2.2.2.2.2.2.2.2.2.2.2.2.1
theorem dX7_behind_54 : decode cX7_behind 54 = .ok (.istore 4, 2) := dX7_behind_r30.2.2.2.2.2.2.2.2.2.2.2.2.2.1
theorem dX7_behind_56 : decode cX7_behind 56 = .ok (.iload 4, 2) := dX7_behind_r30.2.2.2.2.2.2.2.2.2.2.2.2.2.2.1
theorem dX7_behind_58 : decode cX7_behind 58 = .ok (.ifCond .eq 10, 3) := dX7_behind_r30.2.2.2.2.2.2.2.2.2.2.2.2.2.2.2.1
theorem dX7_behind_r61 : zdcP cX7_behind 61 [(.aload_n 0, 1), (.iload 4, 2), (.invokevirtual 82, 3), (.ireturn, 1), (.iload_n 3, 1)] := zdcA_ok (by decide +kernel)
theorem dX7_behind_61 : decode cX7_behind 61 = .ok (.aload_n 0, 1) := dX7_behind_r61.1
theorem dX7_behind_62 : decode cX7_behind 62 = .ok (.iload 4, 2) := dX7_behind_r61.2.1
theorem dX7_behind_64 : decode cX7_behind 64 = .ok (.invokevirtual 82, 3) := dX7_behind_r61.2.2.1
theorem dX7_behind_67 : decode cX7_behind 67 = .ok (.ireturn, 1) := dX7_behind_r61.2.2.2.1
theorem dX7_behind_68 : decode cX7_behind 68 = .ok (.iload_n 3, 1) := dX7_behind_r61.2.2.2.2.1
theorem dX7_behind_69 : decode cX7_behind 69 = .ok (.tableswitch 51 0 2 #[27, 35, 43], 27) := by decide +kernel
theorem dX7_behind_r96 : zdcP cX7_behind 96 [(.aload_n 0, 1), (.getfield 34, 3), (.getfield 221, 3), (.ireturn, 1), (.aload_n 0, 1), (.getfield 34, 3), (.getfield 230, 3), (.ireturn, 1), (.aload_n 0, 1), (.getfield 34, 3), (.invokevirtual 274, 3), (.ireturn, 1), (.aload_n 0, 1), (.getfield 34, 3), (.getfield 277, 3), (.ireturn, 1)] := zdcA_ok (by decide +kernel)
theorem dX7_behind_96 : decode cX7_behind 96 = .ok (.aload_n 0, 1) := dX7_behind_r96.1
theorem dX7_behind_97 : decode cX7_behind 97 = .ok (.getfield 34, 3) := dX7_behind_r96.2.1
theorem dX7_behind_100 : decode cX7_behind 100 = .ok (.getfield 221, 3) := dX7_behind_r96.2.2.1
theorem dX7_behind_103 : decode cX7_behind 103 = .ok (.ireturn, 1) := dX7_behind_r96.2.2.2.1
theorem dX7_behind_104 : decode cX7_behind 104 = .ok (.aload_n 0, 1) := dX7_behind_r96.2.2.2.2.1
theorem dX7_behind_105 : decode cX7_behind 105 = .ok (.getfield 34, 3) := dX7_behind_r96.2.2.2.2.2.1
theorem dX7_behind_108 : decode cX7_behind 108 = .ok (.getfield 230, 3) := dX7_behind_r96.2.2.2.2.2.2.1
theorem dX7_behind_111 : decode cX7_behind 111 = .ok (.ireturn, 1) := dX7_behind_r96.2.2.2.2.2.2.2.1
theorem dX7_behind_112 : decode cX7_behind 112 = .ok (.aload_n 0, 1) := dX7_behind_r96.2.2.2.2.2.2.2.2.1
theorem dX7_behind_113 : decode cX7_behind 113 = .ok (.getfield 34, 3) := dX7_behind_r96.2.2.2.2.2.2.2.2.2.1
theorem dX7_behind_116 : decode cX7_behind 116 = .ok (.invokevirtual 274, 3) := dX7_behind_r96.2.2.2.2.2.2.2.2.2.2.1
theorem dX7_behind_119 : decode cX7_behind 119 = .ok (.ireturn, 1) := dX7_behind_r96.2.2.2.2.2.2.2.2.2.2.2.1
theorem dX7_behind_120 : decode cX7_behind 120 = .ok (.aload_n 0, 1) := dX7_behind_r96.2.2.2.2.2.2.2.2.2.2.2.2.1
theorem dX7_behind_121 : decode cX7_behind 121 = .ok (.getfield 34, 3) := dX7_behind_r96.2.2.2.2.2.2.2.2.2.2.2.2.2.1
theorem dX7_behind_124 : decode cX7_behind 124 = .ok (.getfield 277, 3) := dX7_behind_r96.2.2.2.2.2.2.2.2.2.2.2.2.2.2.1
theorem dX7_behind_127 : decode cX7_behind 127 = .ok (.ireturn, 1) := dX7_behind_r96.2.2.2.2.2.2.2.2.2.2.2.2.2.2.2.1
def wq_95_56 (v1 : Int32) (v2 : Int32) (v3 : Int32) (v4 : Int32) (m : zf_Me) (Q : Int32 → zf_Me → Prop) : Prop := ((v4.toInt = 0 → (((v3.toInt < 0 ∨ v3.toInt > 2) → Q (m.1 16 4) m) ∧ (v3.toInt = 0 → Q (m.1 16 10) m) ∧ (v3.toInt = 1 → Q (m.1 16 11) m) ∧ (v3.toInt = 2 → wp_49 16 3 17 m (fun x3 m4 => Q x3 m4)))) ∧ (¬ v4.toInt = 0 → wp_109 v4 m (fun x5 m6 => Q x5 m6)))
theorem zq_95_56 {d : Nat} (hd : 5 ≤ d) {v1 : Int32} {v2 : Int32} {v3 : Int32} {Q : Int32 → zf_Me → Prop} {v4 : Int32} {m : zf_Me} (h : wq_95_56 v1 v2 v3 v4 m Q) : zf_W none 0 0 d zt_95 56 [some (.inr (.inr (1, 0))), none, none, some (.inl v3), some (.inl v4)] [] m (zf_I Q) := by
  obtain ⟨e, rfl⟩ : ∃ z, d = z + 1 := ⟨d - 1, by omega⟩
  unfold wq_95_56 at h
  refine zf_ld (pc' := 58) (v := .inl v4) dX7_behind_56 rfl (fun _ _ _ => rfl) rfl rfl rfl ?_
  refine zf_if_eq (tgt := 68) (pc' := 61) dX7_behind_58 rfl rfl (fun g => ?_) (fun g => ?_)
  · replace h := h.1 g
    refine zf_ld (pc' := 69) (v := .inl v3) dX7_behind_68 rfl (fun _ _ _ => rfl) rfl rfl rfl ?_
    refine zf_tsc (tgd := 120) dX7_behind_69 rfl [96, 104, 112] (by decide) (by decide) (fun g => ?_) (zl_cons (fun g => ?_) (zl_cons (fun g => ?_) (zl_cons (fun g => ?_) (zl_nil))))
    · replace h := h.1 (by omega)
      refine zf_ld (pc' := 121) (v := .inr (.inr (1, 0))) dX7_behind_120 rfl (fun _ _ _ => rfl) rfl rfl rfl ?_
      refine zf_gfr (pc' := 124) (b := 16) dX7_behind_121 rfl rfl (by decide) rfl rfl ?_
      refine zf_gfi (pc' := 127) dX7_behind_124 rfl rfl zf_walk16.1 zf_walk16.2.1 rfl ?_
      exact zf_ri dX7_behind_127 rfl h
    · replace h := h.2.1 (by omega)
      refine zf_ld (pc' := 97) (v := .inr (.inr (1, 0))) dX7_behind_96 rfl (fun _ _ _ => rfl) rfl rfl rfl ?_
      refine zf_gfr (pc' := 100) (b := 16) dX7_behind_97 rfl rfl (by decide) rfl rfl ?_
      refine zf_gfi (pc' := 103) dX7_behind_100 rfl rfl zf_walk16.1 zf_walk16.2.1 rfl ?_
      exact zf_ri dX7_behind_103 rfl h
    · replace h := h.2.2.1 (by omega)
      refine zf_ld (pc' := 105) (v := .inr (.inr (1, 0))) dX7_behind_104 rfl (fun _ _ _ => rfl) rfl rfl rfl ?_
      refine zf_gfr (pc' := 108) (b := 16) dX7_behind_105 rfl rfl (by decide) rfl rfl ?_
      refine zf_gfi (pc' := 111) dX7_behind_108 rfl rfl zf_walk16.1 zf_walk16.2.1 rfl ?_
      exact zf_ri dX7_behind_111 rfl h
    · replace h := h.2.2.2 (by omega)
      refine zf_ld (pc' := 113) (v := .inr (.inr (1, 0))) dX7_behind_112 rfl (fun _ _ _ => rfl) rfl rfl rfl ?_
      refine zf_gfr (pc' := 116) (b := 16) dX7_behind_113 rfl rfl (by decide) rfl rfl ?_
      refine zf_iv (k := 49) (pc' := 119) (r := []) dX7_behind_116 rfl rfl rfl rfl zf_walk16.1 zf_walk16.2.1 rfl rfl (zr_49 (by omega) zf_walk16 h) (zf_kI (fun x3 m4 h => ?_))
      exact zf_ri dX7_behind_119 rfl h
  · replace h := h.2 g
    refine zf_ld (pc' := 62) (v := .inr (.inr (1, 0))) dX7_behind_61 rfl (fun _ _ _ => rfl) rfl rfl rfl ?_
    refine zf_ld (pc' := 64) (v := .inl v4) dX7_behind_62 rfl (fun _ _ _ => rfl) rfl rfl rfl ?_
    refine zf_iv (k := 109) (pc' := 67) (r := []) dX7_behind_64 rfl rfl rfl rfl (by decide) rfl rfl rfl (zr_109 (by omega) h) (zf_kI (fun x5 m6 h => ?_))
    exact zf_ri dX7_behind_67 rfl h
def wq_95_32 (v1 : Int32) (v2 : Int32) (v3 : Int32) (v4 : Int32) (m : zf_Me) (Q : Int32 → zf_Me → Prop) : Prop := ((¬ v4.toInt = 0 → wq_95_56 v1 v2 v3 v4 m Q) ∧ (v4.toInt = 0 → ((0 ≤ (Int32.toInt v1) ∧ (Int32.toInt v1) < 8) ∧ wp_121 (47 + 2 * (Int32.toInt v1).toNat) (48 + 2 * (Int32.toInt v1).toNat) v2 m (fun x9 m10 => ((x9.toInt = (-1) → wq_95_56 v1 v2 v3 v4 m10 Q) ∧ (¬ x9.toInt = (-1) → wq_95_56 v1 v2 v3 6 m10 Q))))))
theorem zq_95_32 {d : Nat} (hd : 5 ≤ d) {v1 : Int32} {v2 : Int32} {v3 : Int32} {Q : Int32 → zf_Me → Prop} {v4 : Int32} {m : zf_Me} (h : wq_95_32 v1 v2 v3 v4 m Q) : zf_W none 0 0 d zt_95 32 [some (.inr (.inr (1, 0))), some (.inl v1), some (.inl v2), some (.inl v3), some (.inl v4)] [] m (zf_I Q) := by
  obtain ⟨e, rfl⟩ : ∃ z, d = z + 1 := ⟨d - 1, by omega⟩
  unfold wq_95_32 at h
  refine zf_ld (pc' := 34) (v := .inl v4) dX7_behind_32 rfl (fun _ _ _ => rfl) rfl rfl rfl ?_
  refine zf_if_ne (tgt := 56) (pc' := 37) dX7_behind_34 rfl rfl (fun g => ?_) (fun g => ?_)
  · replace h := h.1 g
    exact zf_lo (zq_95_56 (by omega) h) ⟨rfl, rfl, rfl, trivial⟩
  · replace h := h.2 g
    refine zf_ld (pc' := 38) (v := .inr (.inr (1, 0))) dX7_behind_37 rfl (fun _ _ _ => rfl) rfl rfl rfl ?_
    refine zf_ld (pc' := 39) (v := .inr (.inr (1, 0))) dX7_behind_38 rfl (fun _ _ _ => rfl) rfl rfl rfl ?_
    refine zf_gfr (pc' := 42) (b := 1) dX7_behind_39 rfl rfl (by decide) rfl rfl ?_
    refine zf_ld (pc' := 43) (v := .inl v1) dX7_behind_42 rfl (fun _ _ _ => rfl) rfl rfl rfl ?_
    refine zf_aal (b := 47) (n := 8) (pc' := 44) dX7_behind_43 rfl (by decide) rfl (by decide) rfl h.1 zf_row1 ?_
    have hb7 := h.1
    replace h := h.2
    have hx8 : zf_shelf (47 + 2 * (Int32.toInt v1).toNat) (48 + 2 * (Int32.toInt v1).toNat) := zf_shelves (by omega)
    refine zf_ld (pc' := 45) (v := .inl v2) dX7_behind_44 rfl (fun _ _ _ => rfl) rfl rfl rfl ?_
    refine zf_iv (k := 121) (pc' := 48) (r := []) dX7_behind_45 rfl rfl rfl rfl (by decide) rfl rfl rfl (zr_121 (by omega) hx8 h) (zf_kI (fun x9 m10 h => ?_))
    refine zf_ic (v := (-1)) (pc' := 49) dX7_behind_48 rfl rfl ?_
    refine zf_icmp_eq (tgt := 56) (pc' := 52) dX7_behind_49 rfl rfl (fun g => ?_) (fun g => ?_)
    · replace h := h.1 g
      exact zf_lo (zq_95_56 (by omega) h) ⟨rfl, rfl, rfl, trivial⟩
    · replace h := h.2 g
      refine zf_bi (v := 6) (pc' := 54) dX7_behind_52 rfl rfl ?_
      refine zf_st (pc' := 56) (L2 := [some (.inr (.inr (1, 0))), some (.inl v1), some (.inl v2), some (.inl v3), some (.inl 6)]) dX7_behind_54 rfl (fun _ _ _ => rfl) rfl rfl rfl rfl rfl rfl ?_
      exact zf_lo (zq_95_56 (by omega) h) ⟨rfl, rfl, rfl, trivial⟩
def wq_95_29 (v1 : Int32) (v2 : Int32) (v3 : Int32) (m : zf_Me) (Q : Int32 → zf_Me → Prop) : Prop := wq_95_32 v1 v2 v3 5 m Q
theorem zq_95_29 {d : Nat} (hd : 5 ≤ d) {v1 : Int32} {v2 : Int32} {v3 : Int32} {Q : Int32 → zf_Me → Prop} {m : zf_Me} (h : wq_95_29 v1 v2 v3 m Q) : zf_W none 0 0 d zt_95 29 [some (.inr (.inr (1, 0))), some (.inl v1), some (.inl v2), some (.inl v3), none] [] m (zf_I Q) := by
  unfold wq_95_29 at h
  refine zf_ic (v := 5) (pc' := 30) dX7_behind_29 rfl rfl ?_
  refine zf_st (pc' := 32) (L2 := [some (.inr (.inr (1, 0))), some (.inl v1), some (.inl v2), some (.inl v3), some (.inl 5)]) dX7_behind_30 rfl (fun _ _ _ => rfl) rfl rfl rfl rfl rfl rfl ?_
  exact zf_lo (zq_95_32 (by omega) h) ⟨rfl, rfl, rfl, rfl, rfl, trivial⟩
def wq_95_20 (v1 : Int32) (v2 : Int32) (v3 : Int32) (v4 : Int32) (m : zf_Me) (Q : Int32 → zf_Me → Prop) : Prop := ((v3.toInt < 0 → wq_95_29 v1 v2 v3 m Q) ∧ (v3.toInt ≥ 0 → ((v3.toInt ≤ 3 → wq_95_32 v1 v2 v3 v4 m Q) ∧ (v3.toInt > 3 → wq_95_29 v1 v2 v3 m Q))))
theorem zq_95_20 {d : Nat} (hd : 5 ≤ d) {v1 : Int32} {v2 : Int32} {v3 : Int32} {Q : Int32 → zf_Me → Prop} {v4 : Int32} {m : zf_Me} (h : wq_95_20 v1 v2 v3 v4 m Q) : zf_W none 0 0 d zt_95 20 [some (.inr (.inr (1, 0))), some (.inl v1), some (.inl v2), some (.inl v3), some (.inl v4)] [] m (zf_I Q) := by
  unfold wq_95_20 at h
  refine zf_ld (pc' := 21) (v := .inl v3) dX7_behind_20 rfl (fun _ _ _ => rfl) rfl rfl rfl ?_
  refine zf_if_lt (tgt := 29) (pc' := 24) dX7_behind_21 rfl rfl (fun g => ?_) (fun g => ?_)
  · replace h := h.1 g
    exact zf_lo (zq_95_29 (by omega) h) ⟨rfl, rfl, rfl, rfl, trivial⟩
  · replace h := h.2 g
    refine zf_ld (pc' := 25) (v := .inl v3) dX7_behind_24 rfl (fun _ _ _ => rfl) rfl rfl rfl ?_
    refine zf_ic (v := 3) (pc' := 26) dX7_behind_25 rfl rfl ?_
    refine zf_icmp_le (tgt := 32) (pc' := 29) dX7_behind_26 rfl rfl (fun g => ?_) (fun g => ?_)
    · replace h := h.1 g
      exact zf_lo (zq_95_32 (by omega) h) ⟨rfl, rfl, rfl, rfl, rfl, trivial⟩
    · replace h := h.2 g
      exact zf_lo (zq_95_29 (by omega) h) ⟨rfl, rfl, rfl, rfl, trivial⟩
def wp_95 (v1 : Int32) (v2 : Int32) (v3 : Int32) (m : zf_Me) (Q : Int32 → zf_Me → Prop) : Prop := wp_113 v1 v2 m (fun x1 m2 => ((x1.toInt = 0 → wq_95_20 v1 v2 v3 x1 m2 Q) ∧ (¬ x1.toInt = 0 → ((¬ x1.toInt = 6 → wq_95_32 v1 v2 v3 x1 m2 Q) ∧ (x1.toInt = 6 → wq_95_20 v1 v2 v3 x1 m2 Q)))))
theorem zr_95 {d : Nat} (hd : 5 ≤ d) {v1 : Int32} {v2 : Int32} {v3 : Int32} {Q : Int32 → zf_Me → Prop} {m : zf_Me} (h : wp_95 v1 v2 v3 m Q) : zf_M d 95 [.inr (.inr (1, 0)), .inl v1, .inl v2, .inl v3] m (zf_I Q) := by
  obtain ⟨e, rfl⟩ : ∃ z, d = z + 1 := ⟨d - 1, by omega⟩
  unfold wp_95 at h
  refine zf_M_of (Nat.le_of_ble_eq_true rfl) zm_95 (L := [some (.inr (.inr (1, 0))), some (.inl v1), some (.inl v2), some (.inl v3), none]) rfl ?_
  refine zf_ld (pc' := 1) (v := .inr (.inr (1, 0))) dX7_behind_0 rfl (fun _ _ _ => rfl) rfl rfl rfl ?_
  refine zf_ld (pc' := 2) (v := .inl v1) dX7_behind_1 rfl (fun _ _ _ => rfl) rfl rfl rfl ?_
  refine zf_ld (pc' := 3) (v := .inl v2) dX7_behind_2 rfl (fun _ _ _ => rfl) rfl rfl rfl ?_
  refine zf_iv (k := 113) (pc' := 6) (r := []) dX7_behind_3 rfl rfl rfl rfl (by decide) rfl rfl rfl (zr_113 (by omega) h) (zf_kI (fun x1 m2 h => ?_))
  refine zf_st (pc' := 8) (L2 := [some (.inr (.inr (1, 0))), some (.inl v1), some (.inl v2), some (.inl v3), some (.inl x1)]) dX7_behind_6 rfl (fun _ _ _ => rfl) rfl rfl rfl rfl rfl rfl ?_
  refine zf_ld (pc' := 10) (v := .inl x1) dX7_behind_8 rfl (fun _ _ _ => rfl) rfl rfl rfl ?_
  refine zf_if_eq (tgt := 20) (pc' := 13) dX7_behind_10 rfl rfl (fun g => ?_) (fun g => ?_)
  · replace h := h.1 g
    exact zf_lo (zq_95_20 (by omega) h) ⟨rfl, rfl, rfl, rfl, rfl, trivial⟩
  · replace h := h.2 g
    refine zf_ld (pc' := 15) (v := .inl x1) dX7_behind_13 rfl (fun _ _ _ => rfl) rfl rfl rfl ?_
    refine zf_bi (v := 6) (pc' := 17) dX7_behind_15 rfl rfl ?_
    refine zf_icmp_ne (tgt := 32) (pc' := 20) dX7_behind_17 rfl rfl (fun g => ?_) (fun g => ?_)
    · replace h := h.1 g
      exact zf_lo (zq_95_32 (by omega) h) ⟨rfl, rfl, rfl, rfl, rfl, trivial⟩
    · replace h := h.2 g
      exact zf_lo (zq_95_20 (by omega) h) ⟨rfl, rfl, rfl, rfl, rfl, trivial⟩
def zt_96 : zx_MT := (7, yX7_done, cX7_done, 4, (some FieldType.int), 2, 0)
theorem zm_96 : zx_m 96 = zt_96 := rfl
theorem dX7_done_r0 : zdcP cX7_done 0 [(.aload_n 0, 1), (.iload_n 1, 1), (.iload_n 2, 1), (.invokevirtual 267, 3), (.istore_n 3, 1), (.iload_n 3, 1), (.ifCond .ne 21, 3), (.aload_n 0, 1), (.aload_n 0, 1), (.getfield 11, 3), (.iload_n 1, 1), (.aaload, 1), (.iload_n 2, 1), (.invokevirtual 270, 3), (.iconst (-1), 1), (.if_icmp .eq 6, 3)] := zdcA_ok (by decide +kernel)
theorem dX7_done_0 : decode cX7_done 0 = .ok (.aload_n 0, 1) := dX7_done_r0.1
theorem dX7_done_1 : decode cX7_done 1 = .ok (.iload_n 1, 1) := dX7_done_r0.2.1
theorem dX7_done_2 : decode cX7_done 2 = .ok (.iload_n 2, 1) := dX7_done_r0.2.2.1
theorem dX7_done_3 : decode cX7_done 3 = .ok (.invokevirtual 267, 3) := dX7_done_r0.2.2.2.1
theorem dX7_done_6 : decode cX7_done 6 = .ok (.istore_n 3, 1) := dX7_done_r0.2.2.2.2.1
theorem dX7_done_7 : decode cX7_done 7 = .ok (.iload_n 3, 1) := dX7_done_r0.2.2.2.2.2.1
theorem dX7_done_8 : decode cX7_done 8 = .ok (.ifCond .ne 21, 3) := dX7_done_r0.2.2.2.2.2.2.1
theorem dX7_done_11 : decode cX7_done 11 = .ok (.aload_n 0, 1) := dX7_done_r0.2.2.2.2.2.2.2.1
theorem dX7_done_12 : decode cX7_done 12 = .ok (.aload_n 0, 1) := dX7_done_r0.2.2.2.2.2.2.2.2.1
theorem dX7_done_13 : decode cX7_done 13 = .ok (.getfield 11, 3) := dX7_done_r0.2.2.2.2.2.2.2.2.2.1
theorem dX7_done_16 : decode cX7_done 16 = .ok (.iload_n 1, 1) := dX7_done_r0.2.2.2.2.2.2.2.2.2.2.1
theorem dX7_done_17 : decode cX7_done 17 = .ok (.aaload, 1) := dX7_done_r0.2.2.2.2.2.2.2.2.2.2.2.1
theorem dX7_done_18 : decode cX7_done 18 = .ok (.iload_n 2, 1) := dX7_done_r0.2.2.2.2.2.2.2.2.2.2.2.2.1
theorem dX7_done_19 : decode cX7_done 19 = .ok (.invokevirtual 270, 3) := dX7_done_r0.2.2.2.2.2.2.2.2.2.2.2.2.2.1
theorem dX7_done_22 : decode cX7_done 22 = .ok (.iconst (-1), 1) := dX7_done_r0.2.2.2.2.2.2.2.2.2.2.2.2.2.2.1
theorem dX7_done_23 : decode cX7_done 23 = .ok (.if_icmp .eq 6, 3) := dX7_done_r0.2.2.2.2.2.2.2.2.2.2.2.2.2.2.2.1
theorem dX7_done_r26 : zdcP cX7_done 26 [(.bipush 6, 2), (.istore_n 3, 1), (.iload_n 3, 1), (.ifCond .eq 9, 3), (.aload_n 0, 1), (.iload_n 3, 1), (.invokevirtual 82, 3), (.ireturn, 1), (.aload_n 0, 1), (.getfield 23, 3), (.aload_n 0, 1), (.getfield 34, 3), (.invokevirtual 202, 3), (.aload_n 0, 1), (.getfield 23, 3), (.getfield 221, 3)] := zdcA_ok (by decide +kernel)
theorem dX7_done_26 : decode cX7_done 26 = .ok (.bipush 6, 2) := dX7_done_r26.1
theorem dX7_done_28 : decode cX7_done 28 = .ok (.istore_n 3, 1) := dX7_done_r26.2.1
theorem dX7_done_29 : decode cX7_done 29 = .ok (.iload_n 3, 1) := dX7_done_r26.2.2.1
theorem dX7_done_30 : decode cX7_done 30 = .ok (.ifCond .eq 9, 3) := dX7_done_r26.2.2.2.1
theorem dX7_done_33 : decode cX7_done 33 = .ok (.aload_n 0, 1) := dX7_done_r26.2.2.2.2.1
theorem dX7_done_34 : decode cX7_done 34 = .ok (.iload_n 3, 1) := dX7_done_r26.2.2.2.2.2.1
theorem dX7_done_35 : decode cX7_done 35 = .ok (.invokevirtual 82, 3) := dX7_done_r26.2.2.2.2.2.2.1
theorem dX7_done_38 : decode cX7_done 38 = .ok (.ireturn, 1) := dX7_done_r26.2.2.2.2.2.2.2.1
theorem dX7_done_39 : decode cX7_done 39 = .ok (.aload_n 0, 1) := dX7_done_r26.2.2.2.2.2.2.2.2.1
theorem dX7_done_40 : decode cX7_done 40 = .ok (.getfield 23, 3) := dX7_done_r26.2.2.2.2.2.2.2.2.2.1
theorem dX7_done_43 : decode cX7_done 43 = .ok (.aload_n 0, 1) := dX7_done_r26.2.2.2.2.2.2.2.2.2.2.1
theorem dX7_done_44 : decode cX7_done 44 = .ok (.getfield 34, 3) := dX7_done_r26.2.2.2.2.2.2.2.2.2.2.2.1
theorem dX7_done_47 : decode cX7_done 47 = .ok (.invokevirtual 202, 3) := dX7_done_r26.2.2.2.2.2.2.2.2.2.2.2.2.1
theorem dX7_done_50 : decode cX7_done 50 = .ok (.aload_n 0, 1) := dX7_done_r26.2.2.2.2.2.2.2.2.2.2.2.2.2.1
theorem dX7_done_51 : decode cX7_done 51 = .ok (.getfield 23, 3) := dX7_done_r26.2.2.2.2.2.2.2.2.2.2.2.2.2.2.1
theorem dX7_done_54 : decode cX7_done 54 = .ok (.getfield 221, 3) := dX7_done_r26.2.2.2.2.2.2.2.2.2.2.2.2.2.2.2.1
theorem dX7_done_57 : decode cX7_done 57 = .ok (.ireturn, 1) := zdc_ok (by decide +kernel)
def wq_96_29 (v1 : Int32) (v2 : Int32) (v3 : Int32) (m : zf_Me) (Q : Int32 → zf_Me → Prop) : Prop := ((v3.toInt = 0 → wp_43 2 3 8 16 3 17 m (fun m4 => Q (m4.1 2 10) m4)) ∧ (¬ v3.toInt = 0 → wp_109 v3 m (fun x5 m6 => Q x5 m6)))
theorem zq_96_29 {d : Nat} (hd : 5 ≤ d) {v1 : Int32} {v2 : Int32} {Q : Int32 → zf_Me → Prop} {v3 : Int32} {m : zf_Me} (h : wq_96_29 v1 v2 v3 m Q) : zf_W none 0 0 d zt_96 29 [some (.inr (.inr (1, 0))), none, none, some (.inl v3)] [] m (zf_I Q) := by
  obtain ⟨e, rfl⟩ : ∃ z, d = z + 1 := ⟨d - 1, by omega⟩
  unfold wq_96_29 at h
  refine zf_ld (pc' := 30) (v := .inl v3) dX7_done_29 rfl (fun _ _ _ => rfl) rfl rfl rfl ?_
  refine zf_if_eq (tgt := 39) (pc' := 33) dX7_done_30 rfl rfl (fun g => ?_) (fun g => ?_)
  · replace h := h.1 g
    refine zf_ld (pc' := 40) (v := .inr (.inr (1, 0))) dX7_done_39 rfl (fun _ _ _ => rfl) rfl rfl rfl ?_
    refine zf_gfr (pc' := 43) (b := 2) dX7_done_40 rfl rfl (by decide) rfl rfl ?_
    refine zf_ld (pc' := 44) (v := .inr (.inr (1, 0))) dX7_done_43 rfl (fun _ _ _ => rfl) rfl rfl rfl ?_
    refine zf_gfr (pc' := 47) (b := 16) dX7_done_44 rfl rfl (by decide) rfl rfl ?_
    refine zf_iv (k := 43) (pc' := 50) (r := []) dX7_done_47 rfl rfl rfl rfl zf_walk2.1 zf_walk2.2.1 rfl rfl (zr_43 (by omega) zf_walk2 zf_walk16 h) (zf_kO (fun m4 h => ?_))
    refine zf_ld (pc' := 51) (v := .inr (.inr (1, 0))) dX7_done_50 rfl (fun _ _ _ => rfl) rfl rfl rfl ?_
    refine zf_gfr (pc' := 54) (b := 2) dX7_done_51 rfl rfl (by decide) rfl rfl ?_
    refine zf_gfi (pc' := 57) dX7_done_54 rfl rfl zf_walk2.1 zf_walk2.2.1 rfl ?_
    exact zf_ri dX7_done_57 rfl h
  · replace h := h.2 g
    refine zf_ld (pc' := 34) (v := .inr (.inr (1, 0))) dX7_done_33 rfl (fun _ _ _ => rfl) rfl rfl rfl ?_
    refine zf_ld (pc' := 35) (v := .inl v3) dX7_done_34 rfl (fun _ _ _ => rfl) rfl rfl rfl ?_
    refine zf_iv (k := 109) (pc' := 38) (r := []) dX7_done_35 rfl rfl rfl rfl (by decide) rfl rfl rfl (zr_109 (by omega) h) (zf_kI (fun x5 m6 h => ?_))
    exact zf_ri dX7_done_38 rfl h
def wp_96 (v1 : Int32) (v2 : Int32) (m : zf_Me) (Q : Int32 → zf_Me → Prop) : Prop := wp_113 v1 v2 m (fun x1 m2 => ((¬ x1.toInt = 0 → wq_96_29 v1 v2 x1 m2 Q) ∧ (x1.toInt = 0 → ((0 ≤ (Int32.toInt v1) ∧ (Int32.toInt v1) < 8) ∧ wp_121 (47 + 2 * (Int32.toInt v1).toNat) (48 + 2 * (Int32.toInt v1).toNat) v2 m2 (fun x9 m10 => ((x9.toInt = (-1) → wq_96_29 v1 v2 x1 m10 Q) ∧ (¬ x9.toInt = (-1) → wq_96_29 v1 v2 6 m10 Q)))))))
theorem zr_96 {d : Nat} (hd : 5 ≤ d) {v1 : Int32} {v2 : Int32} {Q : Int32 → zf_Me → Prop} {m : zf_Me} (h : wp_96 v1 v2 m Q) : zf_M d 96 [.inr (.inr (1, 0)), .inl v1, .inl v2] m (zf_I Q) := by
  obtain ⟨e, rfl⟩ : ∃ z, d = z + 1 := ⟨d - 1, by omega⟩
  unfold wp_96 at h
  refine zf_M_of (Nat.le_of_ble_eq_true rfl) zm_96 (L := [some (.inr (.inr (1, 0))), some (.inl v1), some (.inl v2), none]) rfl ?_
  refine zf_ld (pc' := 1) (v := .inr (.inr (1, 0))) dX7_done_0 rfl (fun _ _ _ => rfl) rfl rfl rfl ?_
  refine zf_ld (pc' := 2) (v := .inl v1) dX7_done_1 rfl (fun _ _ _ => rfl) rfl rfl rfl ?_
  refine zf_ld (pc' := 3) (v := .inl v2) dX7_done_2 rfl (fun _ _ _ => rfl) rfl rfl rfl ?_
  refine zf_iv (k := 113) (pc' := 6) (r := []) dX7_done_3 rfl rfl rfl rfl (by decide) rfl rfl rfl (zr_113 (by omega) h) (zf_kI (fun x1 m2 h => ?_))
  refine zf_st (pc' := 7) (L2 := [some (.inr (.inr (1, 0))), some (.inl v1), some (.inl v2), some (.inl x1)]) dX7_done_6 rfl (fun _ _ _ => rfl) rfl rfl rfl rfl rfl rfl ?_
  refine zf_ld (pc' := 8) (v := .inl x1) dX7_done_7 rfl (fun _ _ _ => rfl) rfl rfl rfl ?_
  refine zf_if_ne (tgt := 29) (pc' := 11) dX7_done_8 rfl rfl (fun g => ?_) (fun g => ?_)
  · replace h := h.1 g
    exact zf_lo (zq_96_29 (by omega) h) ⟨rfl, rfl, trivial⟩
  · replace h := h.2 g
    refine zf_ld (pc' := 12) (v := .inr (.inr (1, 0))) dX7_done_11 rfl (fun _ _ _ => rfl) rfl rfl rfl ?_
    refine zf_ld (pc' := 13) (v := .inr (.inr (1, 0))) dX7_done_12 rfl (fun _ _ _ => rfl) rfl rfl rfl ?_
    refine zf_gfr (pc' := 16) (b := 1) dX7_done_13 rfl rfl (by decide) rfl rfl ?_
    refine zf_ld (pc' := 17) (v := .inl v1) dX7_done_16 rfl (fun _ _ _ => rfl) rfl rfl rfl ?_
    refine zf_aal (b := 47) (n := 8) (pc' := 18) dX7_done_17 rfl (by decide) rfl (by decide) rfl h.1 zf_row1 ?_
    have hb7 := h.1
    replace h := h.2
    have hx8 : zf_shelf (47 + 2 * (Int32.toInt v1).toNat) (48 + 2 * (Int32.toInt v1).toNat) := zf_shelves (by omega)
    refine zf_ld (pc' := 19) (v := .inl v2) dX7_done_18 rfl (fun _ _ _ => rfl) rfl rfl rfl ?_
    refine zf_iv (k := 121) (pc' := 22) (r := []) dX7_done_19 rfl rfl rfl rfl (by decide) rfl rfl rfl (zr_121 (by omega) hx8 h) (zf_kI (fun x9 m10 h => ?_))
    refine zf_ic (v := (-1)) (pc' := 23) dX7_done_22 rfl rfl ?_
    refine zf_icmp_eq (tgt := 29) (pc' := 26) dX7_done_23 rfl rfl (fun g => ?_) (fun g => ?_)
    · replace h := h.1 g
      exact zf_lo (zq_96_29 (by omega) h) ⟨rfl, rfl, trivial⟩
    · replace h := h.2 g
      refine zf_bi (v := 6) (pc' := 28) dX7_done_26 rfl rfl ?_
      refine zf_st (pc' := 29) (L2 := [some (.inr (.inr (1, 0))), some (.inl v1), some (.inl v2), some (.inl 6)]) dX7_done_28 rfl (fun _ _ _ => rfl) rfl rfl rfl rfl rfl rfl ?_
      exact zf_lo (zq_96_29 (by omega) h) ⟨rfl, rfl, trivial⟩
def zt_122 : zx_MT := (7, yX7_areSoTired, cX7_areSoTired, 3, (some FieldType.boolean), 2, 1)
theorem zm_122 : zx_m 122 = zt_122 := rfl
theorem dX7_areSoTired_r0 : zdcP cX7_areSoTired 0 [(.iconst 0, 1), (.istore_n 2, 1), (.iload_n 2, 1), (.aload_n 0, 1), (.getfield 30, 3), (.getfield 153, 3), (.if_icmp .ge 25, 3), (.aload_n 0, 1), (.getfield 143, 3), (.iload_n 2, 1), (.iaload, 1), (.aload_n 1, 1), (.iload_n 2, 1), (.invokevirtual 332, 3), (.if_icmp .eq 5, 3), (.iconst 0, 1)] := zdcA_ok (by decide +kernel)
theorem dX7_areSoTired_0 : decode cX7_areSoTired 0 = .ok (.iconst 0, 1) := dX7_areSoTired_r0.1
theorem dX7_areSoTired_1 : decode cX7_areSoTired 1 = .ok (.istore_n 2, 1) := dX7_areSoTired_r0.2.1
theorem dX7_areSoTired_2 : decode cX7_areSoTired 2 = .ok (.iload_n 2, 1) := dX7_areSoTired_r0.2.2.1
theorem dX7_areSoTired_3 : decode cX7_areSoTired 3 = .ok (.aload_n 0, 1) := dX7_areSoTired_r0.2.2.2.1
theorem dX7_areSoTired_4 : decode cX7_areSoTired 4 = .ok (.getfield 30, 3) := dX7_areSoTired_r0.2.2.2.2.1
theorem dX7_areSoTired_7 : decode cX7_areSoTired 7 = .ok (.getfield 153, 3) := dX7_areSoTired_r0.2.2.2.2.2.1
theorem dX7_areSoTired_10 : decode cX7_areSoTired 10 = .ok (.if_icmp .ge 25, 3) := dX7_areSoTired_r0.2.2.2.2.2.2.1
theorem dX7_areSoTired_13 : decode cX7_areSoTired 13 = .ok (.aload_n 0, 1) := dX7_areSoTired_r0.2.2.2.2.2.2.2.1
theorem dX7_areSoTired_14 : decode cX7_areSoTired 14 = .ok (.getfield 143, 3) := dX7_areSoTired_r0.2.2.2.2.2.2.2.2.1
theorem dX7_areSoTired_17 : decode cX7_areSoTired 17 = .ok (.iload_n 2, 1) := dX7_areSoTired_r0.2.2.2.2.2.2.2.2.2.1
theorem dX7_areSoTired_18 : decode cX7_areSoTired 18 = .ok (.iaload, 1) := dX7_areSoTired_r0.2.2.2.2.2.2.2.2.2.2.1
theorem dX7_areSoTired_19 : decode cX7_areSoTired 19 = .ok (.aload_n 1, 1) := dX7_areSoTired_r0.2.2.2.2.2.2.2.2.2.2.2.1
theorem dX7_areSoTired_20 : decode cX7_areSoTired 20 = .ok (.iload_n 2, 1) := dX7_areSoTired_r0.2.2.2.2.2.2.2.2.2.2.2.2.1
theorem dX7_areSoTired_21 : decode cX7_areSoTired 21 = .ok (.invokevirtual 332, 3) := dX7_areSoTired_r0.2.2.2.2.2.2.2.2.2.2.2.2.2.1
theorem dX7_areSoTired_24 : decode cX7_areSoTired 24 = .ok (.if_icmp .eq 5, 3) := dX7_areSoTired_r0.2.2.2.2.2.2.2.2.2.2.2.2.2.2.1
theorem dX7_areSoTired_27 : decode cX7_areSoTired 27 = .ok (.iconst 0, 1) := dX7_areSoTired_r0.2.2.2.2.2.2.2.2.2.2.2.2.2.2.2.1
theorem dX7_areSoTired_r28 : zdcP cX7_areSoTired 28 [(.ireturn, 1), (.iinc 2 1, 3), (.goto (-30), 3), (.iconst 1, 1), (.ireturn, 1)] := zdcA_ok (by decide +kernel)
theorem dX7_areSoTired_28 : decode cX7_areSoTired 28 = .ok (.ireturn, 1) := dX7_areSoTired_r28.1
theorem dX7_areSoTired_29 : decode cX7_areSoTired 29 = .ok (.iinc 2 1, 3) := dX7_areSoTired_r28.2.1
theorem dX7_areSoTired_32 : decode cX7_areSoTired 32 = .ok (.goto (-30), 3) := dX7_areSoTired_r28.2.2.1
theorem dX7_areSoTired_35 : decode cX7_areSoTired 35 = .ok (.iconst 1, 1) := dX7_areSoTired_r28.2.2.2.1
theorem dX7_areSoTired_36 : decode cX7_areSoTired 36 = .ok (.ireturn, 1) := dX7_areSoTired_r28.2.2.2.2.1
def wq_122_2 (w0 : Nat) (y0 : Nat) (r0 : Nat) (c1 : Nat) (r1 : Nat) (Q : Bool → zf_Me → Prop) : Nat → Int32 → zf_Me → Prop
  | 0, _, _ => False
  | n + 1, v2, m => ((v2.toInt ≥ ((m.1 y0 5)).toInt → Q true m) ∧ (v2.toInt < ((m.1 y0 5)).toInt → ((0 ≤ (Int32.toInt v2) ∧ (Int32.toInt v2) < (6 : Int)) ∧ wp_24 c1 r1 v2 m (fun x1 m2 => ((((m.1 r0 (Int32.toInt v2).toNat)).toInt = x1.toInt → wq_122_2 w0 y0 r0 c1 r1 Q n (v2 + 1) m2) ∧ (¬ ((m.1 r0 (Int32.toInt v2).toNat)).toInt = x1.toInt → Q false m2))))))
theorem zq_122_2 {d : Nat} (hd : 1 ≤ d) {w0 : Nat} {y0 : Nat} {r0 : Nat} {c1 : Nat} {r1 : Nat} (hp0 : zf_walk w0 y0 r0) (hp1 : zf_shelf c1 r1) {Q : Bool → zf_Me → Prop} : ∀ (n : Nat) (v2 : Int32) (m : zf_Me), wq_122_2 w0 y0 r0 c1 r1 Q n v2 m → zf_W none 0 0 d zt_122 2 [some (.inr (.inr (1, w0))), some (.inr (.inr (1, c1))), some (.inl v2)] [] m (zf_B Q) := by
  obtain ⟨e, rfl⟩ : ∃ z, d = z + 1 := ⟨d - 1, by omega⟩
  intro n
  induction n with
  | zero =>
    intro v2 m h
    exact h.elim
  | succ n ih =>
    intro v2 m h
    unfold wq_122_2 at h
    refine zf_ld (pc' := 3) (v := .inl v2) dX7_areSoTired_2 rfl (fun _ _ _ => rfl) rfl rfl rfl ?_
    refine zf_ld (pc' := 4) (v := .inr (.inr (1, w0))) dX7_areSoTired_3 rfl (fun _ _ _ => rfl) rfl rfl rfl ?_
    refine zf_gfr (pc' := 7) (b := y0) dX7_areSoTired_4 rfl rfl hp0.1 hp0.2.1 rfl ?_
    refine zf_gfi (pc' := 10) dX7_areSoTired_7 rfl rfl hp0.2.2.1.1 hp0.2.2.1.2.1 rfl ?_
    refine zf_icmp_ge (tgt := 35) (pc' := 13) dX7_areSoTired_10 rfl rfl (fun g => ?_) (fun g => ?_)
    · replace h := h.1 g
      refine zf_ic (v := 1) (pc' := 36) dX7_areSoTired_35 rfl rfl ?_
      exact zf_rb (b := true) dX7_areSoTired_36 rfl h
    · replace h := h.2 g
      refine zf_ld (pc' := 14) (v := .inr (.inr (1, w0))) dX7_areSoTired_13 rfl (fun _ _ _ => rfl) rfl rfl rfl ?_
      refine zf_gfr (pc' := 17) (b := r0) dX7_areSoTired_14 rfl rfl hp0.1 hp0.2.1 rfl ?_
      refine zf_ld (pc' := 18) (v := .inl v2) dX7_areSoTired_17 rfl (fun _ _ _ => rfl) rfl rfl rfl ?_
      refine zf_ial (pc' := 19) dX7_areSoTired_18 rfl hp0.2.2.2.1 hp0.2.2.2.2 h.1 rfl ?_
      replace h := h.2
      refine zf_ld (pc' := 20) (v := .inr (.inr (1, c1))) dX7_areSoTired_19 rfl (fun _ _ _ => rfl) rfl rfl rfl ?_
      refine zf_ld (pc' := 21) (v := .inl v2) dX7_areSoTired_20 rfl (fun _ _ _ => rfl) rfl rfl rfl ?_
      refine zf_iv (k := 24) (pc' := 24) (r := [.inl (m.1 r0 (Int32.toInt v2).toNat)]) dX7_areSoTired_21 rfl rfl rfl rfl hp1.1 hp1.2.1 rfl rfl (zr_24 (by omega) hp1 h) (zf_kI (fun x1 m2 h => ?_))
      refine zf_icmp_eq (tgt := 29) (pc' := 27) dX7_areSoTired_24 rfl rfl (fun g => ?_) (fun g => ?_)
      · replace h := h.1 g
        refine zf_ii (y := (v2 + 1)) (L2 := [some (.inr (.inr (1, w0))), some (.inr (.inr (1, c1))), some (.inl (v2 + 1))]) (pc' := 32) dX7_areSoTired_29 rfl rfl rfl rfl rfl ?_
        refine zf_goto (tgt := 2) dX7_areSoTired_32 rfl ?_
        exact zf_lo (ih _ _ h) ⟨rfl, rfl, rfl, trivial⟩
      · replace h := h.2 g
        refine zf_ic (v := 0) (pc' := 28) dX7_areSoTired_27 rfl rfl ?_
        exact zf_rb (b := false) dX7_areSoTired_28 rfl h
def wp_122 (w0 : Nat) (y0 : Nat) (r0 : Nat) (c1 : Nat) (r1 : Nat) (m : zf_Me) (Q : Bool → zf_Me → Prop) : Prop := (∃ n2, wq_122_2 w0 y0 r0 c1 r1 Q n2 0 m)
theorem zr_122 {d : Nat} (hd : 1 ≤ d) {w0 : Nat} {y0 : Nat} {r0 : Nat} {c1 : Nat} {r1 : Nat} (hp0 : zf_walk w0 y0 r0) (hp1 : zf_shelf c1 r1) {Q : Bool → zf_Me → Prop} {m : zf_Me} (h : wp_122 w0 y0 r0 c1 r1 m Q) : zf_M d 122 [.inr (.inr (1, w0)), .inr (.inr (1, c1))] m (zf_B Q) := by
  unfold wp_122 at h
  refine zf_M_of (Nat.le_of_ble_eq_true rfl) zm_122 (L := [some (.inr (.inr (1, w0))), some (.inr (.inr (1, c1))), none]) rfl ?_
  refine zf_ic (v := 0) (pc' := 1) dX7_areSoTired_0 rfl rfl ?_
  refine zf_st (pc' := 2) (L2 := [some (.inr (.inr (1, w0))), some (.inr (.inr (1, c1))), some (.inl 0)]) dX7_areSoTired_1 rfl (fun _ _ _ => rfl) rfl rfl rfl rfl rfl rfl ?_
  obtain ⟨n2, h⟩ := h
  exact zf_lo (zq_122_2 (by omega) hp0 hp1 n2 _ _ h) ⟨rfl, rfl, rfl, trivial⟩
def zt_97 : zx_MT := (7, yX7_fits, cX7_fits, 5, (some FieldType.int), 1, 0)
theorem zm_97 : zx_m 97 = zt_97 := rfl
theorem dX7_fits_r0 : zdcP cX7_fits 0 [(.aload_n 0, 1), (.iload_n 1, 1), (.invokevirtual 90, 3), (.istore_n 2, 1), (.iload_n 2, 1), (.ifCond .eq 9, 3), (.aload_n 0, 1), (.iload_n 2, 1), (.invokevirtual 82, 3), (.ireturn, 1), (.aload_n 0, 1), (.getfield 11, 3), (.iload_n 1, 1), (.aaload, 1), (.getfield 280, 3), (.aload_n 0, 1)] := zdcA_ok (by decide +kernel)
theorem dX7_fits_0 : decode cX7_fits 0 = .ok (.aload_n 0, 1) := dX7_fits_r0.1
theorem dX7_fits_1 : decode cX7_fits 1 = .ok (.iload_n 1, 1) := dX7_fits_r0.2.1
theorem dX7_fits_2 : decode cX7_fits 2 = .ok (.invokevirtual 90, 3) := dX7_fits_r0.2.2.1
theorem dX7_fits_5 : decode cX7_fits 5 = .ok (.istore_n 2, 1) := dX7_fits_r0.2.2.2.1
theorem dX7_fits_6 : decode cX7_fits 6 = .ok (.iload_n 2, 1) := dX7_fits_r0.2.2.2.2.1
theorem dX7_fits_7 : decode cX7_fits 7 = .ok (.ifCond .eq 9, 3) := dX7_fits_r0.2.2.2.2.2.1
theorem dX7_fits_10 : decode cX7_fits 10 = .ok (.aload_n 0, 1) := dX7_fits_r0.2.2.2.2.2.2.1
theorem dX7_fits_11 : decode cX7_fits 11 = .ok (.iload_n 2, 1) := dX7_fits_r0.2.2.2.2.2.2.2.1
theorem dX7_fits_12 : decode cX7_fits 12 = .ok (.invokevirtual 82, 3) := dX7_fits_r0.2.2.2.2.2.2.2.2.1
theorem dX7_fits_15 : decode cX7_fits 15 = .ok (.ireturn, 1) := dX7_fits_r0.2.2.2.2.2.2.2.2.2.1
theorem dX7_fits_16 : decode cX7_fits 16 = .ok (.aload_n 0, 1) := dX7_fits_r0.2.2.2.2.2.2.2.2.2.2.1
theorem dX7_fits_17 : decode cX7_fits 17 = .ok (.getfield 11, 3) := dX7_fits_r0.2.2.2.2.2.2.2.2.2.2.2.1
theorem dX7_fits_20 : decode cX7_fits 20 = .ok (.iload_n 1, 1) := dX7_fits_r0.2.2.2.2.2.2.2.2.2.2.2.2.1
theorem dX7_fits_21 : decode cX7_fits 21 = .ok (.aaload, 1) := dX7_fits_r0.2.2.2.2.2.2.2.2.2.2.2.2.2.1
theorem dX7_fits_22 : decode cX7_fits 22 = .ok (.getfield 280, 3) := dX7_fits_r0.2.2.2.2.2.2.2.2.2.2.2.2.2.2.1
theorem dX7_fits_25 : decode cX7_fits 25 = .ok (.aload_n 0, 1) := dX7_fits_r0.2.2.2.2.2.2.2.2.2.2.2.2.2.2.2.1
theorem dX7_fits_r26 : zdcP cX7_fits 26 [(.getfield 23, 3), (.getfield 30, 3), (.getfield 153, 3), (.if_icmp .ge 9, 3), (.aload_n 0, 1), (.iconst 5, 1), (.invokevirtual 82, 3), (.ireturn, 1), (.iconst 0, 1), (.istore_n 3, 1), (.iconst 0, 1), (.istore 4, 2), (.iload 4, 2), (.iconst 4, 1), (.if_icmp .ge 55, 3), (.aload_n 0, 1)] := zdcA_ok (by decide +kernel)
theorem dX7_fits_26 : decode cX7_fits 26 = .ok (.getfield 23, 3) := dX7_fits_r26.1
theorem dX7_fits_29 : decode cX7_fits 29 = .ok (.getfield 30, 3) := dX7_fits_r26.2.1
theorem dX7_fits_32 : decode cX7_fits 32 = .ok (.getfield 153, 3) := dX7_fits_r26.2.2.1
theorem dX7_fits_35 : decode cX7_fits 35 = .ok (.if_icmp .ge 9, 3) := dX7_fits_r26.2.2.2.1
theorem dX7_fits_38 : decode cX7_fits 38 = .ok (.aload_n 0, 1) := dX7_fits_r26.2.2.2.2.1
theorem dX7_fits_39 : decode cX7_fits 39 = .ok (.iconst 5, 1) := dX7_fits_r26.2.2.2.2.2.1
theorem dX7_fits_40 : decode cX7_fits 40 = .ok (.invokevirtual 82, 3) := dX7_fits_r26.2.2.2.2.2.2.1
theorem dX7_fits_43 : decode cX7_fits 43 = .ok (.ireturn, 1) := dX7_fits_r26.2.2.2.2.2.2.2.1
theorem dX7_fits_44 : decode cX7_fits 44 = .ok (.iconst 0, 1) := dX7_fits_r26.2.2.2.2.2.2.2.2.1
theorem dX7_fits_45 : decode cX7_fits 45 = .ok (.istore_n 3, 1) := dX7_fits_r26.2.2.2.2.2.2.2.2.2.1
theorem dX7_fits_46 : decode cX7_fits 46 = .ok (.iconst 0, 1) := dX7_fits_r26.2.2.2.2.2.2.2.2.2.2.1
theorem dX7_fits_47 : decode cX7_fits 47 = .ok (.istore 4, 2) := dX7_fits_r26.2.2.2.2.2.2.2.2.2.2.2.1
theorem dX7_fits_49 : decode cX7_fits 49 = .ok (.iload 4, 2) := dX7_fits_r26.2.2.2.2.2.2.2.2.2.2.2.2.1
theorem dX7_fits_51 : decode cX7_fits 51 = .ok (.iconst 4, 1) := dX7_fits_r26.2.2.2.2.2.2.2.2.2.2.2.2.2.1
theorem dX7_fits_52 : decode cX7_fits 52 = .ok (.if_icmp .ge 55, 3) := dX7_fits_r26.2.2.2.2.2.2.2.2.2.2.2.2.2.2.1
theorem dX7_fits_55 : decode cX7_fits 55 = .ok (.aload_n 0, 1) := dX7_fits_r26.2.2.2.2.2.2.2.2.2.2.2.2.2.2.2.1
theorem dX7_fits_r56 : zdcP cX7_fits 56 [(.getfield 40, 3), (.aload_n 0, 1), (.getfield 23, 3), (.invokevirtual 239, 3), (.aload_n 0, 1), (.getfield 40, 3), (.iload 4, 2), (.invokevirtual 242, 3), (.aload_n 0, 1), (.getfield 40, 3), (.getfield 246, 3), (.aload_n 0, 1), (.getfield 11, 3), (.iload_n 1, 1), (.aaload, 1), (.invokestatic 283, 3)] := zdcA_ok (by decide +kernel)
theorem dX7_fits_56 : decode cX7_fits 56 = .ok (.getfield 40, 3) := dX7_fits_r56.1
theorem dX7_fits_59 : decode cX7_fits 59 = .ok (.aload_n 0, 1) := dX7_fits_r56.2.1
theorem dX7_fits_60 : decode cX7_fits 60 = .ok (.getfield 23, 3) := dX7_fits_r56.2.2.1
theorem dX7_fits_63 : decode cX7_fits 63 = .ok (.invokevirtual 239, 3) := dX7_fits_r56.2.2.2.1
theorem dX7_fits_66 : decode cX7_fits 66 = .ok (.aload_n 0, 1) := dX7_fits_r56.2.2.2.2.1
theorem dX7_fits_67 : decode cX7_fits 67 = .ok (.getfield 40, 3) := dX7_fits_r56.2.2.2.2.2.1
theorem dX7_fits_70 : decode cX7_fits 70 = .ok (.iload 4, 2) := dX7_fits_r56.2.2.2.2.2.2.1
theorem dX7_fits_72 : decode cX7_fits 72 = .ok (.invokevirtual 242, 3) := dX7_fits_r56.2.2.2.2.2.2.2.1
theorem dX7_fits_75 : decode cX7_fits 75 = .ok (.aload_n 0, 1) := dX7_fits_r56.2.2.2.2.2.2.2.2.1
theorem dX7_fits_76 : decode cX7_fits 76 = .ok (.getfield 40, 3) := dX7_fits_r56.2.2.2.2.2.2.2.2.2.1
theorem dX7_fits_79 : decode cX7_fits 79 = .ok (.getfield 246, 3) := dX7_fits_r56.2.2.2.2.2.2.2.2.2.2.1
theorem dX7_fits_82 : decode cX7_fits 82 = .ok (.aload_n 0, 1) := dX7_fits_r56.2.2.2.2.2.2.2.2.2.2.2.1
theorem dX7_fits_83 : decode cX7_fits 83 = .ok (.getfield 11, 3) := dX7_fits_r56.2.2.2.2.2.2.2.2.2.2.2.2.1
theorem dX7_fits_86 : decode cX7_fits 86 = .ok (.iload_n 1, 1) := dX7_fits_r56.2.2.2.2.2.2.2.2.2.2.2.2.2.1
theorem dX7_fits_87 : decode cX7_fits 87 = .ok (.aaload, 1) := dX7_fits_r56.2.2.2.2.2.2.2.2.2.2.2.2.2.2.1
theorem dX7_fits_88 : decode cX7_fits 88 = .ok (.invokestatic 283, 3) := dX7_fits_r56.2.2.2.2.2.2.2.2.2.2.2.2.2.2.2.1
theorem dX7_fits_r91 : zdcP cX7_fits 91 [(.ifCond .eq 10, 3), (.iload_n 3, 1), (.iconst 1, 1), (.iload 4, 2), (.ishl, 1), (.ior, 1), (.istore_n 3, 1), (.iinc 4 1, 3), (.goto (-55), 3), (.iload_n 3, 1), (.ireturn, 1)] := zdcA_ok (by decide +kernel)
theorem dX7_fits_91 : decode cX7_fits 91 = .ok (.ifCond .eq 10, 3) := dX7_fits_r91.1
theorem dX7_fits_94 : decode cX7_fits 94 = .ok (.iload_n 3, 1) := dX7_fits_r91.2.1
theorem dX7_fits_95 : decode cX7_fits 95 = .ok (.iconst 1, 1) := dX7_fits_r91.2.2.1
theorem dX7_fits_96 : decode cX7_fits 96 = .ok (.iload 4, 2) := dX7_fits_r91.2.2.2.1
theorem dX7_fits_98 : decode cX7_fits 98 = .ok (.ishl, 1) := dX7_fits_r91.2.2.2.2.1
theorem dX7_fits_99 : decode cX7_fits 99 = .ok (.ior, 1) := dX7_fits_r91.2.2.2.2.2.1
theorem dX7_fits_100 : decode cX7_fits 100 = .ok (.istore_n 3, 1) := dX7_fits_r91.2.2.2.2.2.2.1
theorem dX7_fits_101 : decode cX7_fits 101 = .ok (.iinc 4 1, 3) := dX7_fits_r91.2.2.2.2.2.2.2.1
theorem dX7_fits_104 : decode cX7_fits 104 = .ok (.goto (-55), 3) := dX7_fits_r91.2.2.2.2.2.2.2.2.1
theorem dX7_fits_107 : decode cX7_fits 107 = .ok (.iload_n 3, 1) := dX7_fits_r91.2.2.2.2.2.2.2.2.2.1
theorem dX7_fits_108 : decode cX7_fits 108 = .ok (.ireturn, 1) := dX7_fits_r91.2.2.2.2.2.2.2.2.2.2.1
def wq_97_49 (v1 : Int32) (Q : Int32 → zf_Me → Prop) : Nat → Int32 → Int32 → zf_Me → Prop
  | 0, _, _, _ => False
  | n + 1, v3, v4, m => ((v4.toInt ≥ 4 → Q v3 m) ∧ (v4.toInt < 4 → wp_7 2 3 8 m (fun m6 => wp_8 v4 m6 (fun m8 => ((0 ≤ (Int32.toInt v1) ∧ (Int32.toInt v1) < 8) ∧ wp_122 19 3 20 (47 + 2 * (Int32.toInt v1).toNat) (48 + 2 * (Int32.toInt v1).toNat) m8 (fun b11 m12 => ((b11 = false → wq_97_49 v1 Q n v3 (v4 + 1) m12) ∧ (b11 = true → wq_97_49 v1 Q n (v3 ||| (1 <<< (v4 &&& 31))) (v4 + 1) m12))))))))
theorem zq_97_49 {d : Nat} (hd : 6 ≤ d) {v1 : Int32} {Q : Int32 → zf_Me → Prop} : ∀ (n : Nat) (v3 : Int32) (v4 : Int32) (m : zf_Me), wq_97_49 v1 Q n v3 v4 m → zf_W none 0 0 d zt_97 49 [some (.inr (.inr (1, 0))), some (.inl v1), none, some (.inl v3), some (.inl v4)] [] m (zf_I Q) := by
  obtain ⟨e, rfl⟩ : ∃ z, d = z + 1 := ⟨d - 1, by omega⟩
  intro n
  induction n with
  | zero =>
    intro v3 v4 m h
    exact h.elim
  | succ n ih =>
    intro v3 v4 m h
    unfold wq_97_49 at h
    refine zf_ld (pc' := 51) (v := .inl v4) dX7_fits_49 rfl (fun _ _ _ => rfl) rfl rfl rfl ?_
    refine zf_ic (v := 4) (pc' := 52) dX7_fits_51 rfl rfl ?_
    refine zf_icmp_ge (tgt := 107) (pc' := 55) dX7_fits_52 rfl rfl (fun g => ?_) (fun g => ?_)
    · replace h := h.1 g
      refine zf_ld (pc' := 108) (v := .inl v3) dX7_fits_107 rfl (fun _ _ _ => rfl) rfl rfl rfl ?_
      exact zf_ri dX7_fits_108 rfl h
    · replace h := h.2 g
      refine zf_ld (pc' := 56) (v := .inr (.inr (1, 0))) dX7_fits_55 rfl (fun _ _ _ => rfl) rfl rfl rfl ?_
      refine zf_gfr (pc' := 59) (b := 18) dX7_fits_56 rfl rfl (by decide) rfl rfl ?_
      refine zf_ld (pc' := 60) (v := .inr (.inr (1, 0))) dX7_fits_59 rfl (fun _ _ _ => rfl) rfl rfl rfl ?_
      refine zf_gfr (pc' := 63) (b := 2) dX7_fits_60 rfl rfl (by decide) rfl rfl ?_
      refine zf_iv (k := 7) (pc' := 66) (r := []) dX7_fits_63 rfl rfl rfl rfl (by decide) rfl rfl rfl (zr_7 (by omega) zf_walk2 h) (zf_kO (fun m6 h => ?_))
      refine zf_ld (pc' := 67) (v := .inr (.inr (1, 0))) dX7_fits_66 rfl (fun _ _ _ => rfl) rfl rfl rfl ?_
      refine zf_gfr (pc' := 70) (b := 18) dX7_fits_67 rfl rfl (by decide) rfl rfl ?_
      refine zf_ld (pc' := 72) (v := .inl v4) dX7_fits_70 rfl (fun _ _ _ => rfl) rfl rfl rfl ?_
      refine zf_iv (k := 8) (pc' := 75) (r := []) dX7_fits_72 rfl rfl rfl rfl (by decide) rfl rfl rfl (zr_8 (by omega) h) (zf_kO (fun m8 h => ?_))
      refine zf_ld (pc' := 76) (v := .inr (.inr (1, 0))) dX7_fits_75 rfl (fun _ _ _ => rfl) rfl rfl rfl ?_
      refine zf_gfr (pc' := 79) (b := 18) dX7_fits_76 rfl rfl (by decide) rfl rfl ?_
      refine zf_gfr (pc' := 82) (b := 19) dX7_fits_79 rfl rfl (by decide) rfl rfl ?_
      refine zf_ld (pc' := 83) (v := .inr (.inr (1, 0))) dX7_fits_82 rfl (fun _ _ _ => rfl) rfl rfl rfl ?_
      refine zf_gfr (pc' := 86) (b := 1) dX7_fits_83 rfl rfl (by decide) rfl rfl ?_
      refine zf_ld (pc' := 87) (v := .inl v1) dX7_fits_86 rfl (fun _ _ _ => rfl) rfl rfl rfl ?_
      refine zf_aal (b := 47) (n := 8) (pc' := 88) dX7_fits_87 rfl (by decide) rfl (by decide) rfl h.1 zf_row1 ?_
      have hb9 := h.1
      replace h := h.2
      have hx10 : zf_shelf (47 + 2 * (Int32.toInt v1).toNat) (48 + 2 * (Int32.toInt v1).toNat) := zf_shelves (by omega)
      refine zf_is (k := 122) (pc' := 91) (r := []) dX7_fits_88 rfl rfl rfl rfl rfl (zr_122 (by omega) zf_walk19 hx10 h) (zf_kB (fun b11 m12 h => ?_))
      refine zf_ib_eq (tgt := 101) (pc' := 94) dX7_fits_91 rfl rfl (fun g => ?_) (fun g => ?_)
      · replace h := h.1 g
        refine zf_ii (y := (v4 + 1)) (L2 := [some (.inr (.inr (1, 0))), some (.inl v1), none, some (.inl v3), some (.inl (v4 + 1))]) (pc' := 104) dX7_fits_101 rfl rfl rfl rfl rfl ?_
        refine zf_goto (tgt := 49) dX7_fits_104 rfl ?_
        exact zf_lo (ih _ _ _ h) ⟨rfl, rfl, rfl, rfl, trivial⟩
      · replace h := h.2 g
        refine zf_ld (pc' := 95) (v := .inl v3) dX7_fits_94 rfl (fun _ _ _ => rfl) rfl rfl rfl ?_
        refine zf_ic (v := 1) (pc' := 96) dX7_fits_95 rfl rfl ?_
        refine zf_ld (pc' := 98) (v := .inl v4) dX7_fits_96 rfl (fun _ _ _ => rfl) rfl rfl rfl ?_
        refine zf_in (pc' := 99) (S' := [.inl (1 <<< (v4 &&& 31)), .inl v3]) dX7_fits_98 rfl (fun _ _ _ => rfl) ?_
        refine zf_in (pc' := 100) (S' := [.inl (v3 ||| (1 <<< (v4 &&& 31)))]) dX7_fits_99 rfl (fun _ _ _ => rfl) ?_
        refine zf_st (pc' := 101) (L2 := [some (.inr (.inr (1, 0))), some (.inl v1), none, some (.inl (v3 ||| (1 <<< (v4 &&& 31)))), some (.inl v4)]) dX7_fits_100 rfl (fun _ _ _ => rfl) rfl rfl rfl rfl rfl rfl ?_
        refine zf_ii (y := (v4 + 1)) (L2 := [some (.inr (.inr (1, 0))), some (.inl v1), none, some (.inl (v3 ||| (1 <<< (v4 &&& 31)))), some (.inl (v4 + 1))]) (pc' := 104) dX7_fits_101 rfl rfl rfl rfl rfl ?_
        refine zf_goto (tgt := 49) dX7_fits_104 rfl ?_
        exact zf_lo (ih _ _ _ h) ⟨rfl, rfl, rfl, rfl, trivial⟩
def wp_97 (v1 : Int32) (m : zf_Me) (Q : Int32 → zf_Me → Prop) : Prop := wp_111 v1 m (fun x1 m2 => ((x1.toInt = 0 → ((0 ≤ (Int32.toInt v1) ∧ (Int32.toInt v1) < 8) ∧ ((((m2.1 (47 + 2 * (Int32.toInt v1).toNat) 2)).toInt ≥ ((m2.1 3 5)).toInt → (∃ n49, wq_97_49 v1 Q n49 0 0 m2)) ∧ (((m2.1 (47 + 2 * (Int32.toInt v1).toNat) 2)).toInt < ((m2.1 3 5)).toInt → wp_109 5 m2 (fun x13 m14 => Q x13 m14))))) ∧ (¬ x1.toInt = 0 → wp_109 x1 m2 (fun x15 m16 => Q x15 m16))))
theorem zr_97 {d : Nat} (hd : 6 ≤ d) {v1 : Int32} {Q : Int32 → zf_Me → Prop} {m : zf_Me} (h : wp_97 v1 m Q) : zf_M d 97 [.inr (.inr (1, 0)), .inl v1] m (zf_I Q) := by
  obtain ⟨e, rfl⟩ : ∃ z, d = z + 1 := ⟨d - 1, by omega⟩
  unfold wp_97 at h
  refine zf_M_of (Nat.le_of_ble_eq_true rfl) zm_97 (L := [some (.inr (.inr (1, 0))), some (.inl v1), none, none, none]) rfl ?_
  refine zf_ld (pc' := 1) (v := .inr (.inr (1, 0))) dX7_fits_0 rfl (fun _ _ _ => rfl) rfl rfl rfl ?_
  refine zf_ld (pc' := 2) (v := .inl v1) dX7_fits_1 rfl (fun _ _ _ => rfl) rfl rfl rfl ?_
  refine zf_iv (k := 111) (pc' := 5) (r := []) dX7_fits_2 rfl rfl rfl rfl (by decide) rfl rfl rfl (zr_111 (by omega) h) (zf_kI (fun x1 m2 h => ?_))
  refine zf_st (pc' := 6) (L2 := [some (.inr (.inr (1, 0))), some (.inl v1), some (.inl x1), none, none]) dX7_fits_5 rfl (fun _ _ _ => rfl) rfl rfl rfl rfl rfl rfl ?_
  refine zf_ld (pc' := 7) (v := .inl x1) dX7_fits_6 rfl (fun _ _ _ => rfl) rfl rfl rfl ?_
  refine zf_if_eq (tgt := 16) (pc' := 10) dX7_fits_7 rfl rfl (fun g => ?_) (fun g => ?_)
  · replace h := h.1 g
    refine zf_ld (pc' := 17) (v := .inr (.inr (1, 0))) dX7_fits_16 rfl (fun _ _ _ => rfl) rfl rfl rfl ?_
    refine zf_gfr (pc' := 20) (b := 1) dX7_fits_17 rfl rfl (by decide) rfl rfl ?_
    refine zf_ld (pc' := 21) (v := .inl v1) dX7_fits_20 rfl (fun _ _ _ => rfl) rfl rfl rfl ?_
    refine zf_aal (b := 47) (n := 8) (pc' := 22) dX7_fits_21 rfl (by decide) rfl (by decide) rfl h.1 zf_row1 ?_
    have hb3 := h.1
    replace h := h.2
    have hx4 : zf_shelf (47 + 2 * (Int32.toInt v1).toNat) (48 + 2 * (Int32.toInt v1).toNat) := zf_shelves (by omega)
    refine zf_gfi (pc' := 25) dX7_fits_22 rfl rfl hx4.1 hx4.2.1 rfl ?_
    refine zf_ld (pc' := 26) (v := .inr (.inr (1, 0))) dX7_fits_25 rfl (fun _ _ _ => rfl) rfl rfl rfl ?_
    refine zf_gfr (pc' := 29) (b := 2) dX7_fits_26 rfl rfl (by decide) rfl rfl ?_
    refine zf_gfr (pc' := 32) (b := 3) dX7_fits_29 rfl rfl zf_walk2.1 zf_walk2.2.1 rfl ?_
    refine zf_gfi (pc' := 35) dX7_fits_32 rfl rfl zf_walk2.2.2.1.1 zf_walk2.2.2.1.2.1 rfl ?_
    refine zf_icmp_ge (tgt := 44) (pc' := 38) dX7_fits_35 rfl rfl (fun g => ?_) (fun g => ?_)
    · replace h := h.1 g
      refine zf_ic (v := 0) (pc' := 45) dX7_fits_44 rfl rfl ?_
      refine zf_st (pc' := 46) (L2 := [some (.inr (.inr (1, 0))), some (.inl v1), some (.inl x1), some (.inl 0), none]) dX7_fits_45 rfl (fun _ _ _ => rfl) rfl rfl rfl rfl rfl rfl ?_
      refine zf_ic (v := 0) (pc' := 47) dX7_fits_46 rfl rfl ?_
      refine zf_st (pc' := 49) (L2 := [some (.inr (.inr (1, 0))), some (.inl v1), some (.inl x1), some (.inl 0), some (.inl 0)]) dX7_fits_47 rfl (fun _ _ _ => rfl) rfl rfl rfl rfl rfl rfl ?_
      obtain ⟨n49, h⟩ := h
      exact zf_lo (zq_97_49 (by omega) n49 _ _ _ h) ⟨rfl, rfl, rfl, rfl, trivial⟩
    · replace h := h.2 g
      refine zf_ld (pc' := 39) (v := .inr (.inr (1, 0))) dX7_fits_38 rfl (fun _ _ _ => rfl) rfl rfl rfl ?_
      refine zf_ic (v := 5) (pc' := 40) dX7_fits_39 rfl rfl ?_
      refine zf_iv (k := 109) (pc' := 43) (r := []) dX7_fits_40 rfl rfl rfl rfl (by decide) rfl rfl rfl (zr_109 (by omega) h) (zf_kI (fun x13 m14 h => ?_))
      exact zf_ri dX7_fits_43 rfl h
  · replace h := h.2 g
    refine zf_ld (pc' := 11) (v := .inr (.inr (1, 0))) dX7_fits_10 rfl (fun _ _ _ => rfl) rfl rfl rfl ?_
    refine zf_ld (pc' := 12) (v := .inl x1) dX7_fits_11 rfl (fun _ _ _ => rfl) rfl rfl rfl ?_
    refine zf_iv (k := 109) (pc' := 15) (r := []) dX7_fits_12 rfl rfl rfl rfl (by decide) rfl rfl rfl (zr_109 (by omega) h) (zf_kI (fun x15 m16 h => ?_))
    exact zf_ri dX7_fits_15 rfl h
def zt_123 : zx_MT := (7, yX7_leastToTheEnd, cX7_leastToTheEnd, 4, (some FieldType.int), 2, 0)
theorem zm_123 : zx_m 123 = zt_123 := rfl
theorem dX7_leastToTheEnd_r0 : zdcP cX7_leastToTheEnd 0 [(.getstatic 177, 3), (.iload_n 2, 1), (.iaload, 1), (.istore_n 3, 1), (.iload_n 3, 1), (.getstatic 180, 3), (.iload_n 2, 1), (.iaload, 1), (.if_icmp .gt 55, 3), (.aload_n 0, 1), (.getfield 40, 3), (.aload_n 0, 1), (.getfield 23, 3), (.invokevirtual 239, 3), (.aload_n 0, 1), (.getfield 40, 3)] := zdcA_ok (by decide +kernel)
theorem dX7_leastToTheEnd_0 : decode cX7_leastToTheEnd 0 = .ok (.getstatic 177, 3) := dX7_leastToTheEnd_r0.1
theorem dX7_leastToTheEnd_3 : decode cX7_leastToTheEnd 3 = .ok (.iload_n 2, 1) := dX7_leastToTheEnd_r0.2.1
theorem dX7_leastToTheEnd_4 : decode cX7_leastToTheEnd 4 = .ok (.iaload, 1) := dX7_leastToTheEnd_r0.2.2.1
theorem dX7_leastToTheEnd_5 : decode cX7_leastToTheEnd 5 = .ok (.istore_n 3, 1) := dX7_leastToTheEnd_r0.2.2.2.1
theorem dX7_leastToTheEnd_6 : decode cX7_leastToTheEnd 6 = .ok (.iload_n 3, 1) := dX7_leastToTheEnd_r0.2.2.2.2.1
theorem dX7_leastToTheEnd_7 : decode cX7_leastToTheEnd 7 = .ok (.getstatic 180, 3) := dX7_leastToTheEnd_r0.2.2.2.2.2.1
theorem dX7_leastToTheEnd_10 : decode cX7_leastToTheEnd 10 = .ok (.iload_n 2, 1) := dX7_leastToTheEnd_r0.2.2.2.2.2.2.1
theorem dX7_leastToTheEnd_11 : decode cX7_leastToTheEnd 11 = .ok (.iaload, 1) := dX7_leastToTheEnd_r0.2.2.2.2.2.2.2.1
theorem dX7_leastToTheEnd_12 : decode cX7_leastToTheEnd 12 = .ok (.if_icmp .gt 55, 3) := dX7_leastToTheEnd_r0.2.2.2.2.2.2.2.2.1
theorem dX7_leastToTheEnd_15 : decode cX7_leastToTheEnd 15 = .ok (.aload_n 0, 1) := dX7_leastToTheEnd_r0.2.2.2.2.2.2.2.2.2.1
theorem dX7_leastToTheEnd_16 : decode cX7_leastToTheEnd 16 = .ok (.getfield 40, 3) := dX7_leastToTheEnd_r0.2.2.2.2.2.2.2.2.2.2.1
theorem dX7_leastToTheEnd_19 : decode cX7_leastToTheEnd 19 = .ok (.aload_n 0, 1) := dX7_leastToTheEnd_r0.2.2.2.2.2.2.2.2.2.2.2.1
theorem dX7_leastToTheEnd_20 : decode cX7_leastToTheEnd 20 = .ok (.getfield 23, 3) := dX7_leastToTheEnd_r0.2.2.2.2.2.2.2.2.2.2.2.2.1
theorem dX7_leastToTheEnd_23 : decode cX7_leastToTheEnd 23 = .ok (.invokevirtual 239, 3) := dX7_leastToTheEnd_r0.2.2.2.2.2.2.2.2.2.2.2.2.2.1
theorem dX7_leastToTheEnd_26 : decode cX7_leastToTheEnd 26 = .ok (.aload_n 0, 1) := dX7_leastToTheEnd_r0.2.2.2.2.2.2.2.2.2.2.2.2.2.2.1
theorem dX7_leastToTheEnd_27 : decode cX7_leastToTheEnd 27 = .ok (.getfield 40, 3) := dX7_leastToTheEnd_r0.2.2.2.2.2.2.2.2.2.2.2.2.2.2.2.1
theorem dX7_leastToTheEnd_r30 : zdcP cX7_leastToTheEnd 30 [(.getfield 246, 3), (.iload_n 2, 1), (.iload_n 3, 1), (.invokevirtual 186, 3), (.aload_n 0, 1), (.getfield 40, 3), (.iload_n 1, 1), (.invokevirtual 242, 3), (.aload_n 0, 1), (.getfield 40, 3), (.getfield 246, 3), (.invokevirtual 335, 3), (.ifCond .eq 5, 3), (.iload_n 3, 1), (.ireturn, 1), (.iinc 3 1, 3)] := zdcA_ok (by decide +kernel)
theorem dX7_leastToTheEnd_30 : decode cX7_leastToTheEnd 30 = .ok (.getfield 246, 3) := dX7_leastToTheEnd_r30.1
theorem dX7_leastToTheEnd_33 : decode cX7_leastToTheEnd 33 = .ok (.iload_n 2, 1) := dX7_leastToTheEnd_r30.2.1
theorem dX7_leastToTheEnd_34 : decode cX7_leastToTheEnd 34 = .ok (.iload_n 3, 1) := dX7_leastToTheEnd_r30.2.2.1
theorem dX7_leastToTheEnd_35 : decode cX7_leastToTheEnd 35 = .ok (.invokevirtual 186, 3) := dX7_leastToTheEnd_r30.2.2.2.1
theorem dX7_leastToTheEnd_38 : decode cX7_leastToTheEnd 38 = .ok (.aload_n 0, 1) := dX7_leastToTheEnd_r30.2.2.2.2.1
theorem dX7_leastToTheEnd_39 : decode cX7_leastToTheEnd 39 = .ok (.getfield 40, 3) := dX7_leastToTheEnd_r30.2.2.2.2.2.1
theorem dX7_leastToTheEnd_42 : decode cX7_leastToTheEnd 42 = .ok (.iload_n 1, 1) := dX7_leastToTheEnd_r30.2.2.2.2.2.2.1
theorem dX7_leastToTheEnd_43 : decode cX7_leastToTheEnd 43 = .ok (.invokevirtual 242, 3) := dX7_leastToTheEnd_r30.2.2.2.2.2.2.2.1
theorem dX7_leastToTheEnd_46 : decode cX7_leastToTheEnd 46 = .ok (.aload_n 0, 1) := dX7_leastToTheEnd_r30.2.2.2.2.2.2.2.2.1
theorem dX7_leastToTheEnd_47 : decode cX7_leastToTheEnd 47 = .ok (.getfield 40, 3) := dX7_leastToTheEnd_r30.2.2.2.2.2.2.2.2.2.1
theorem dX7_leastToTheEnd_50 : decode cX7_leastToTheEnd 50 = .ok (.getfield 246, 3) := dX7_leastToTheEnd_r30.2.2.2.2.2.2.2.2.2.2.1
theorem dX7_leastToTheEnd_53 : decode cX7_leastToTheEnd 53 = .ok (.invokevirtual 335, 3) := dX7_leastToTheEnd_r30.2.2.2.2.2.2.2.2.2.2.2.1
theorem dX7_leastToTheEnd_56 : decode cX7_leastToTheEnd 56 = .ok (.ifCond .eq 5, 3) := dX7_leastToTheEnd_r30.2.2.2.2.2.2.2.2.2.2.2.2.1
theorem dX7_leastToTheEnd_59 : decode cX7_leastToTheEnd 59 = .ok (.iload_n 3, 1) := dX7_leastToTheEnd_r30.2.2.2.2.2.2.2.2.2.2.2.2.2.1
theorem dX7_leastToTheEnd_60 : decode cX7_leastToTheEnd 60 = .ok (.ireturn, 1) := dX7_leastToTheEnd_r30.2.2.2.2.2.2.2.2.2.2.2.2.2.2.1
theorem dX7_leastToTheEnd_61 : decode cX7_leastToTheEnd 61 = .ok (.iinc 3 1, 3) := dX7_leastToTheEnd_r30.2.2.2.2.2.2.2.2.2.2.2.2.2.2.2.1
theorem dX7_leastToTheEnd_r64 : zdcP cX7_leastToTheEnd 64 [(.goto (-58), 3), (.iconst (-1), 1), (.ireturn, 1)] := zdcA_ok (by decide +kernel)
theorem dX7_leastToTheEnd_64 : decode cX7_leastToTheEnd 64 = .ok (.goto (-58), 3) := dX7_leastToTheEnd_r64.1
theorem dX7_leastToTheEnd_67 : decode cX7_leastToTheEnd 67 = .ok (.iconst (-1), 1) := dX7_leastToTheEnd_r64.2.1
theorem dX7_leastToTheEnd_68 : decode cX7_leastToTheEnd 68 = .ok (.ireturn, 1) := dX7_leastToTheEnd_r64.2.2.1
def wq_123_6 (v1 : Int32) (v2 : Int32) (Q : Int32 → zf_Me → Prop) : Nat → Int32 → zf_Me → Prop
  | 0, _, _ => False
  | n + 1, v3, m => ((0 ≤ (v2).toInt ∧ (v2).toInt < 5) ∧ ((v3.toInt > (((zx_sa.getD 3 []).getD (Int32.toInt v2).toNat 0)).toInt → Q (-1) m) ∧ (v3.toInt ≤ (((zx_sa.getD 3 []).getD (Int32.toInt v2).toNat 0)).toInt → wp_7 2 3 8 m (fun m2 => wp_46 19 3 20 v2 v3 m2 (fun m4 => wp_8 v1 m4 (fun m6 => wp_47 19 3 20 m6 (fun b7 m8 => ((b7 = false → wq_123_6 v1 v2 Q n (v3 + 1) m8) ∧ (b7 = true → Q v3 m8)))))))))
theorem zq_123_6 {d : Nat} (hd : 6 ≤ d) {v1 : Int32} {v2 : Int32} {Q : Int32 → zf_Me → Prop} : ∀ (n : Nat) (v3 : Int32) (m : zf_Me), wq_123_6 v1 v2 Q n v3 m → zf_W none 0 0 d zt_123 6 [some (.inr (.inr (1, 0))), some (.inl v1), some (.inl v2), some (.inl v3)] [] m (zf_I Q) := by
  obtain ⟨e, rfl⟩ : ∃ z, d = z + 1 := ⟨d - 1, by omega⟩
  intro n
  induction n with
  | zero =>
    intro v3 m h
    exact h.elim
  | succ n ih =>
    intro v3 m h
    unfold wq_123_6 at h
    refine zf_ld (pc' := 7) (v := .inl v3) dX7_leastToTheEnd_6 rfl (fun _ _ _ => rfl) rfl rfl rfl ?_
    refine zf_gs (g := 3) (pc' := 10) dX7_leastToTheEnd_7 rfl rfl rfl ?_
    refine zf_ld (pc' := 11) (v := .inl v2) dX7_leastToTheEnd_10 rfl (fun _ _ _ => rfl) rfl rfl rfl ?_
    refine zf_ials (pc' := 12) dX7_leastToTheEnd_11 rfl (by decide) (n := 5) rfl h.1 ?_
    replace h := h.2
    refine zf_icmp_gt (tgt := 67) (pc' := 15) dX7_leastToTheEnd_12 rfl rfl (fun g => ?_) (fun g => ?_)
    · replace h := h.1 g
      refine zf_ic (v := (-1)) (pc' := 68) dX7_leastToTheEnd_67 rfl rfl ?_
      exact zf_ri dX7_leastToTheEnd_68 rfl h
    · replace h := h.2 g
      refine zf_ld (pc' := 16) (v := .inr (.inr (1, 0))) dX7_leastToTheEnd_15 rfl (fun _ _ _ => rfl) rfl rfl rfl ?_
      refine zf_gfr (pc' := 19) (b := 18) dX7_leastToTheEnd_16 rfl rfl (by decide) rfl rfl ?_
      refine zf_ld (pc' := 20) (v := .inr (.inr (1, 0))) dX7_leastToTheEnd_19 rfl (fun _ _ _ => rfl) rfl rfl rfl ?_
      refine zf_gfr (pc' := 23) (b := 2) dX7_leastToTheEnd_20 rfl rfl (by decide) rfl rfl ?_
      refine zf_iv (k := 7) (pc' := 26) (r := []) dX7_leastToTheEnd_23 rfl rfl rfl rfl (by decide) rfl rfl rfl (zr_7 (by omega) zf_walk2 h) (zf_kO (fun m2 h => ?_))
      refine zf_ld (pc' := 27) (v := .inr (.inr (1, 0))) dX7_leastToTheEnd_26 rfl (fun _ _ _ => rfl) rfl rfl rfl ?_
      refine zf_gfr (pc' := 30) (b := 18) dX7_leastToTheEnd_27 rfl rfl (by decide) rfl rfl ?_
      refine zf_gfr (pc' := 33) (b := 19) dX7_leastToTheEnd_30 rfl rfl (by decide) rfl rfl ?_
      refine zf_ld (pc' := 34) (v := .inl v2) dX7_leastToTheEnd_33 rfl (fun _ _ _ => rfl) rfl rfl rfl ?_
      refine zf_ld (pc' := 35) (v := .inl v3) dX7_leastToTheEnd_34 rfl (fun _ _ _ => rfl) rfl rfl rfl ?_
      refine zf_iv (k := 46) (pc' := 38) (r := []) dX7_leastToTheEnd_35 rfl rfl rfl rfl zf_walk19.1 zf_walk19.2.1 rfl rfl (zr_46 (by omega) zf_walk19 h) (zf_kO (fun m4 h => ?_))
      refine zf_ld (pc' := 39) (v := .inr (.inr (1, 0))) dX7_leastToTheEnd_38 rfl (fun _ _ _ => rfl) rfl rfl rfl ?_
      refine zf_gfr (pc' := 42) (b := 18) dX7_leastToTheEnd_39 rfl rfl (by decide) rfl rfl ?_
      refine zf_ld (pc' := 43) (v := .inl v1) dX7_leastToTheEnd_42 rfl (fun _ _ _ => rfl) rfl rfl rfl ?_
      refine zf_iv (k := 8) (pc' := 46) (r := []) dX7_leastToTheEnd_43 rfl rfl rfl rfl (by decide) rfl rfl rfl (zr_8 (by omega) h) (zf_kO (fun m6 h => ?_))
      refine zf_ld (pc' := 47) (v := .inr (.inr (1, 0))) dX7_leastToTheEnd_46 rfl (fun _ _ _ => rfl) rfl rfl rfl ?_
      refine zf_gfr (pc' := 50) (b := 18) dX7_leastToTheEnd_47 rfl rfl (by decide) rfl rfl ?_
      refine zf_gfr (pc' := 53) (b := 19) dX7_leastToTheEnd_50 rfl rfl (by decide) rfl rfl ?_
      refine zf_iv (k := 47) (pc' := 56) (r := []) dX7_leastToTheEnd_53 rfl rfl rfl rfl zf_walk19.1 zf_walk19.2.1 rfl rfl (zr_47 (by omega) zf_walk19 h) (zf_kB (fun b7 m8 h => ?_))
      refine zf_ib_eq (tgt := 61) (pc' := 59) dX7_leastToTheEnd_56 rfl rfl (fun g => ?_) (fun g => ?_)
      · replace h := h.1 g
        refine zf_ii (y := (v3 + 1)) (L2 := [some (.inr (.inr (1, 0))), some (.inl v1), some (.inl v2), some (.inl (v3 + 1))]) (pc' := 64) dX7_leastToTheEnd_61 rfl rfl rfl rfl rfl ?_
        refine zf_goto (tgt := 6) dX7_leastToTheEnd_64 rfl ?_
        exact zf_lo (ih _ _ h) ⟨rfl, rfl, rfl, rfl, trivial⟩
      · replace h := h.2 g
        refine zf_ld (pc' := 60) (v := .inl v3) dX7_leastToTheEnd_59 rfl (fun _ _ _ => rfl) rfl rfl rfl ?_
        exact zf_ri dX7_leastToTheEnd_60 rfl h
def wp_123 (v1 : Int32) (v2 : Int32) (m : zf_Me) (Q : Int32 → zf_Me → Prop) : Prop := ((0 ≤ (v2).toInt ∧ (v2).toInt < 5) ∧ (∃ n6, wq_123_6 v1 v2 Q n6 ((zx_sa.getD 2 []).getD (Int32.toInt v2).toNat 0) m))
theorem zr_123 {d : Nat} (hd : 6 ≤ d) {v1 : Int32} {v2 : Int32} {Q : Int32 → zf_Me → Prop} {m : zf_Me} (h : wp_123 v1 v2 m Q) : zf_M d 123 [.inr (.inr (1, 0)), .inl v1, .inl v2] m (zf_I Q) := by
  unfold wp_123 at h
  refine zf_M_of (Nat.le_of_ble_eq_true rfl) zm_123 (L := [some (.inr (.inr (1, 0))), some (.inl v1), some (.inl v2), none]) rfl ?_
  refine zf_gs (g := 2) (pc' := 3) dX7_leastToTheEnd_0 rfl rfl rfl ?_
  refine zf_ld (pc' := 4) (v := .inl v2) dX7_leastToTheEnd_3 rfl (fun _ _ _ => rfl) rfl rfl rfl ?_
  refine zf_ials (pc' := 5) dX7_leastToTheEnd_4 rfl (by decide) (n := 5) rfl h.1 ?_
  replace h := h.2
  refine zf_st (pc' := 6) (L2 := [some (.inr (.inr (1, 0))), some (.inl v1), some (.inl v2), some (.inl ((zx_sa.getD 2 []).getD (Int32.toInt v2).toNat 0))]) dX7_leastToTheEnd_5 rfl (fun _ _ _ => rfl) rfl rfl rfl rfl rfl rfl ?_
  obtain ⟨n6, h⟩ := h
  exact zf_lo (zq_123_6 (by omega) n6 _ _ h) ⟨rfl, rfl, rfl, rfl, trivial⟩
def zt_98 : zx_MT := (7, yX7_enough, cX7_enough, 1, (some FieldType.int), 0, 0)
theorem zm_98 : zx_m 98 = zt_98 := rfl
theorem dX7_enough_r0 : zdcP cX7_enough 0 [(.aload_n 0, 1), (.iconst 3, 1), (.iconst 3, 1), (.invokevirtual 287, 3), (.ireturn, 1)] := zdcA_ok (by decide +kernel)
theorem dX7_enough_0 : decode cX7_enough 0 = .ok (.aload_n 0, 1) := dX7_enough_r0.1
theorem dX7_enough_1 : decode cX7_enough 1 = .ok (.iconst 3, 1) := dX7_enough_r0.2.1
theorem dX7_enough_2 : decode cX7_enough 2 = .ok (.iconst 3, 1) := dX7_enough_r0.2.2.1
theorem dX7_enough_3 : decode cX7_enough 3 = .ok (.invokevirtual 287, 3) := dX7_enough_r0.2.2.2.1
theorem dX7_enough_6 : decode cX7_enough 6 = .ok (.ireturn, 1) := dX7_enough_r0.2.2.2.2.1
def wp_98 (m : zf_Me) (Q : Int32 → zf_Me → Prop) : Prop := wp_123 3 3 m (fun x1 m2 => Q x1 m2)
theorem zr_98 {d : Nat} (hd : 7 ≤ d) {Q : Int32 → zf_Me → Prop} {m : zf_Me} (h : wp_98 m Q) : zf_M d 98 [.inr (.inr (1, 0))] m (zf_I Q) := by
  obtain ⟨e, rfl⟩ : ∃ z, d = z + 1 := ⟨d - 1, by omega⟩
  unfold wp_98 at h
  refine zf_M_of (Nat.le_of_ble_eq_true rfl) zm_98 (L := [some (.inr (.inr (1, 0)))]) rfl ?_
  refine zf_ld (pc' := 1) (v := .inr (.inr (1, 0))) dX7_enough_0 rfl (fun _ _ _ => rfl) rfl rfl rfl ?_
  refine zf_ic (v := 3) (pc' := 2) dX7_enough_1 rfl rfl ?_
  refine zf_ic (v := 3) (pc' := 3) dX7_enough_2 rfl rfl ?_
  refine zf_iv (k := 123) (pc' := 6) (r := []) dX7_enough_3 rfl rfl rfl rfl (by decide) rfl rfl rfl (zr_123 (by omega) h) (zf_kI (fun x1 m2 h => ?_))
  exact zf_ri dX7_enough_6 rfl h
def zt_99 : zx_MT := (7, yX7_leastWorn, cX7_leastWorn, 2, (some FieldType.int), 1, 0)
theorem zm_99 : zx_m 99 = zt_99 := rfl
theorem dX7_leastWorn_r0 : zdcP cX7_leastWorn 0 [(.iload_n 1, 1), (.invokestatic 236, 3), (.ifCond .eq 12, 3), (.aload_n 0, 1), (.iload_n 1, 1), (.iconst 2, 1), (.invokevirtual 287, 3), (.goto 9, 3), (.aload_n 0, 1), (.bipush 6, 2), (.invokevirtual 162, 3), (.ireturn, 1)] := zdcA_ok (by decide +kernel)
theorem dX7_leastWorn_0 : decode cX7_leastWorn 0 = .ok (.iload_n 1, 1) := dX7_leastWorn_r0.1
theorem dX7_leastWorn_1 : decode cX7_leastWorn 1 = .ok (.invokestatic 236, 3) := dX7_leastWorn_r0.2.1
theorem dX7_leastWorn_4 : decode cX7_leastWorn 4 = .ok (.ifCond .eq 12, 3) := dX7_leastWorn_r0.2.2.1
theorem dX7_leastWorn_7 : decode cX7_leastWorn 7 = .ok (.aload_n 0, 1) := dX7_leastWorn_r0.2.2.2.1
theorem dX7_leastWorn_8 : decode cX7_leastWorn 8 = .ok (.iload_n 1, 1) := dX7_leastWorn_r0.2.2.2.2.1
theorem dX7_leastWorn_9 : decode cX7_leastWorn 9 = .ok (.iconst 2, 1) := dX7_leastWorn_r0.2.2.2.2.2.1
theorem dX7_leastWorn_10 : decode cX7_leastWorn 10 = .ok (.invokevirtual 287, 3) := dX7_leastWorn_r0.2.2.2.2.2.2.1
theorem dX7_leastWorn_13 : decode cX7_leastWorn 13 = .ok (.goto 9, 3) := dX7_leastWorn_r0.2.2.2.2.2.2.2.1
theorem dX7_leastWorn_16 : decode cX7_leastWorn 16 = .ok (.aload_n 0, 1) := dX7_leastWorn_r0.2.2.2.2.2.2.2.2.1
theorem dX7_leastWorn_17 : decode cX7_leastWorn 17 = .ok (.bipush 6, 2) := dX7_leastWorn_r0.2.2.2.2.2.2.2.2.2.1
theorem dX7_leastWorn_19 : decode cX7_leastWorn 19 = .ok (.invokevirtual 162, 3) := dX7_leastWorn_r0.2.2.2.2.2.2.2.2.2.2.1
theorem dX7_leastWorn_22 : decode cX7_leastWorn 22 = .ok (.ireturn, 1) := dX7_leastWorn_r0.2.2.2.2.2.2.2.2.2.2.2.1
def wp_99 (v1 : Int32) (m : zf_Me) (Q : Int32 → zf_Me → Prop) : Prop := wp_116 v1 m (fun b1 m2 => ((b1 = false → wp_110 6 m2 (fun x3 m4 => Q x3 m4)) ∧ (b1 = true → wp_123 v1 2 m2 (fun x5 m6 => Q x5 m6))))
theorem zr_99 {d : Nat} (hd : 7 ≤ d) {v1 : Int32} {Q : Int32 → zf_Me → Prop} {m : zf_Me} (h : wp_99 v1 m Q) : zf_M d 99 [.inr (.inr (1, 0)), .inl v1] m (zf_I Q) := by
  obtain ⟨e, rfl⟩ : ∃ z, d = z + 1 := ⟨d - 1, by omega⟩
  unfold wp_99 at h
  refine zf_M_of (Nat.le_of_ble_eq_true rfl) zm_99 (L := [some (.inr (.inr (1, 0))), some (.inl v1)]) rfl ?_
  refine zf_ld (pc' := 1) (v := .inl v1) dX7_leastWorn_0 rfl (fun _ _ _ => rfl) rfl rfl rfl ?_
  refine zf_is (k := 116) (pc' := 4) (r := []) dX7_leastWorn_1 rfl rfl rfl rfl rfl (zr_116 (by omega) h) (zf_kB (fun b1 m2 h => ?_))
  refine zf_ib_eq (tgt := 16) (pc' := 7) dX7_leastWorn_4 rfl rfl (fun g => ?_) (fun g => ?_)
  · replace h := h.1 g
    refine zf_ld (pc' := 17) (v := .inr (.inr (1, 0))) dX7_leastWorn_16 rfl (fun _ _ _ => rfl) rfl rfl rfl ?_
    refine zf_bi (v := 6) (pc' := 19) dX7_leastWorn_17 rfl rfl ?_
    refine zf_iv (k := 110) (pc' := 22) (r := []) dX7_leastWorn_19 rfl rfl rfl rfl (by decide) rfl rfl rfl (zr_110 (by omega) h) (zf_kI (fun x3 m4 h => ?_))
    exact zf_ri dX7_leastWorn_22 rfl h
  · replace h := h.2 g
    refine zf_ld (pc' := 8) (v := .inr (.inr (1, 0))) dX7_leastWorn_7 rfl (fun _ _ _ => rfl) rfl rfl rfl ?_
    refine zf_ld (pc' := 9) (v := .inl v1) dX7_leastWorn_8 rfl (fun _ _ _ => rfl) rfl rfl rfl ?_
    refine zf_ic (v := 2) (pc' := 10) dX7_leastWorn_9 rfl rfl ?_
    refine zf_iv (k := 123) (pc' := 13) (r := []) dX7_leastWorn_10 rfl rfl rfl rfl (by decide) rfl rfl rfl (zr_123 (by omega) h) (zf_kI (fun x5 m6 h => ?_))
    refine zf_goto (tgt := 22) dX7_leastWorn_13 rfl ?_
    exact zf_ri dX7_leastWorn_22 rfl h
def zt_100 : zx_MT := (7, yX7_does, cX7_does, 2, (some FieldType.int), 1, 0)
theorem zm_100 : zx_m 100 = zt_100 := rfl
theorem dX7_does_r0 : zdcP cX7_does 0 [(.aload_n 0, 1), (.getfield 23, 3), (.iload_n 1, 1), (.invokevirtual 208, 3), (.ifCond .ne 10, 3), (.aload_n 0, 1), (.bipush 6, 2), (.invokevirtual 82, 3), (.ireturn, 1), (.aload_n 0, 1), (.getfield 23, 3), (.iload_n 1, 1), (.invokevirtual 264, 3), (.aload_n 0, 1), (.getfield 23, 3), (.getfield 221, 3)] := zdcA_ok (by decide +kernel)
theorem dX7_does_0 : decode cX7_does 0 = .ok (.aload_n 0, 1) := dX7_does_r0.1
theorem dX7_does_1 : decode cX7_does 1 = .ok (.getfield 23, 3) := dX7_does_r0.2.1
theorem dX7_does_4 : decode cX7_does 4 = .ok (.iload_n 1, 1) := dX7_does_r0.2.2.1
theorem dX7_does_5 : decode cX7_does 5 = .ok (.invokevirtual 208, 3) := dX7_does_r0.2.2.2.1
theorem dX7_does_8 : decode cX7_does 8 = .ok (.ifCond .ne 10, 3) := dX7_does_r0.2.2.2.2.1
theorem dX7_does_11 : decode cX7_does 11 = .ok (.aload_n 0, 1) := dX7_does_r0.2.2.2.2.2.1
theorem dX7_does_12 : decode cX7_does 12 = .ok (.bipush 6, 2) := dX7_does_r0.2.2.2.2.2.2.1
theorem dX7_does_14 : decode cX7_does 14 = .ok (.invokevirtual 82, 3) := dX7_does_r0.2.2.2.2.2.2.2.1
theorem dX7_does_17 : decode cX7_does 17 = .ok (.ireturn, 1) := dX7_does_r0.2.2.2.2.2.2.2.2.1
theorem dX7_does_18 : decode cX7_does 18 = .ok (.aload_n 0, 1) := dX7_does_r0.2.2.2.2.2.2.2.2.2.1
theorem dX7_does_19 : decode cX7_does 19 = .ok (.getfield 23, 3) := dX7_does_r0.2.2.2.2.2.2.2.2.2.2.1
theorem dX7_does_22 : decode cX7_does 22 = .ok (.iload_n 1, 1) := dX7_does_r0.2.2.2.2.2.2.2.2.2.2.2.1
theorem dX7_does_23 : decode cX7_does 23 = .ok (.invokevirtual 264, 3) := dX7_does_r0.2.2.2.2.2.2.2.2.2.2.2.2.1
theorem dX7_does_26 : decode cX7_does 26 = .ok (.aload_n 0, 1) := dX7_does_r0.2.2.2.2.2.2.2.2.2.2.2.2.2.1
theorem dX7_does_27 : decode cX7_does 27 = .ok (.getfield 23, 3) := dX7_does_r0.2.2.2.2.2.2.2.2.2.2.2.2.2.2.1
theorem dX7_does_30 : decode cX7_does 30 = .ok (.getfield 221, 3) := dX7_does_r0.2.2.2.2.2.2.2.2.2.2.2.2.2.2.2.1
theorem dX7_does_33 : decode cX7_does 33 = .ok (.ireturn, 1) := zdc_ok (by decide +kernel)
def wp_100 (v1 : Int32) (m : zf_Me) (Q : Int32 → zf_Me → Prop) : Prop := wp_52 2 3 8 v1 m (fun b1 m2 => ((b1 = true → wp_56 2 3 8 v1 m2 (fun m4 => Q (m4.1 2 10) m4)) ∧ (b1 = false → wp_109 6 m2 (fun x5 m6 => Q x5 m6))))
theorem zr_100 {d : Nat} (hd : 4 ≤ d) {v1 : Int32} {Q : Int32 → zf_Me → Prop} {m : zf_Me} (h : wp_100 v1 m Q) : zf_M d 100 [.inr (.inr (1, 0)), .inl v1] m (zf_I Q) := by
  obtain ⟨e, rfl⟩ : ∃ z, d = z + 1 := ⟨d - 1, by omega⟩
  unfold wp_100 at h
  refine zf_M_of (Nat.le_of_ble_eq_true rfl) zm_100 (L := [some (.inr (.inr (1, 0))), some (.inl v1)]) rfl ?_
  refine zf_ld (pc' := 1) (v := .inr (.inr (1, 0))) dX7_does_0 rfl (fun _ _ _ => rfl) rfl rfl rfl ?_
  refine zf_gfr (pc' := 4) (b := 2) dX7_does_1 rfl rfl (by decide) rfl rfl ?_
  refine zf_ld (pc' := 5) (v := .inl v1) dX7_does_4 rfl (fun _ _ _ => rfl) rfl rfl rfl ?_
  refine zf_iv (k := 52) (pc' := 8) (r := []) dX7_does_5 rfl rfl rfl rfl zf_walk2.1 zf_walk2.2.1 rfl rfl (zr_52 (by omega) zf_walk2 h) (zf_kB (fun b1 m2 h => ?_))
  refine zf_ib_ne (tgt := 18) (pc' := 11) dX7_does_8 rfl rfl (fun g => ?_) (fun g => ?_)
  · replace h := h.1 g
    refine zf_ld (pc' := 19) (v := .inr (.inr (1, 0))) dX7_does_18 rfl (fun _ _ _ => rfl) rfl rfl rfl ?_
    refine zf_gfr (pc' := 22) (b := 2) dX7_does_19 rfl rfl (by decide) rfl rfl ?_
    refine zf_ld (pc' := 23) (v := .inl v1) dX7_does_22 rfl (fun _ _ _ => rfl) rfl rfl rfl ?_
    refine zf_iv (k := 56) (pc' := 26) (r := []) dX7_does_23 rfl rfl rfl rfl zf_walk2.1 zf_walk2.2.1 rfl rfl (zr_56 (by omega) zf_walk2 h) (zf_kO (fun m4 h => ?_))
    refine zf_ld (pc' := 27) (v := .inr (.inr (1, 0))) dX7_does_26 rfl (fun _ _ _ => rfl) rfl rfl rfl ?_
    refine zf_gfr (pc' := 30) (b := 2) dX7_does_27 rfl rfl (by decide) rfl rfl ?_
    refine zf_gfi (pc' := 33) dX7_does_30 rfl rfl zf_walk2.1 zf_walk2.2.1 rfl ?_
    exact zf_ri dX7_does_33 rfl h
  · replace h := h.2 g
    refine zf_ld (pc' := 12) (v := .inr (.inr (1, 0))) dX7_does_11 rfl (fun _ _ _ => rfl) rfl rfl rfl ?_
    refine zf_bi (v := 6) (pc' := 14) dX7_does_12 rfl rfl ?_
    refine zf_iv (k := 109) (pc' := 17) (r := []) dX7_does_14 rfl rfl rfl rfl (by decide) rfl rfl rfl (zr_109 (by omega) h) (zf_kI (fun x5 m6 h => ?_))
    exact zf_ri dX7_does_17 rfl h
def zt_211 : zx_MT := (9, yJ6_bitCount_0f7a4, cJ6_bitCount_0f7a4, 1, (some FieldType.int), 1, 1)
theorem zm_211 : zx_m 211 = zt_211 := rfl
theorem dJ6_bitCount_0f7a4_r0 : zdcP cJ6_bitCount_0f7a4 0 [(.iload_n 0, 1), (.iload_n 0, 1), (.iconst 1, 1), (.iushr, 1), (.ldc_w 265, 3), (.iand, 1), (.isub, 1), (.istore_n 0, 1), (.iload_n 0, 1), (.ldc_w 266, 3), (.iand, 1), (.iload_n 0, 1), (.iconst 2, 1), (.iushr, 1), (.ldc_w 266, 3), (.iand, 1)] := zdcA_ok (by decide +kernel)
theorem dJ6_bitCount_0f7a4_0 : decode cJ6_bitCount_0f7a4 0 = .ok (.iload_n 0, 1) := dJ6_bitCount_0f7a4_r0.1
theorem dJ6_bitCount_0f7a4_1 : decode cJ6_bitCount_0f7a4 1 = .ok (.iload_n 0, 1) := dJ6_bitCount_0f7a4_r0.2.1
theorem dJ6_bitCount_0f7a4_2 : decode cJ6_bitCount_0f7a4 2 = .ok (.iconst 1, 1) := dJ6_bitCount_0f7a4_r0.2.2.1
theorem dJ6_bitCount_0f7a4_3 : decode cJ6_bitCount_0f7a4 3 = .ok (.iushr, 1) := dJ6_bitCount_0f7a4_r0.2.2.2.1
theorem dJ6_bitCount_0f7a4_4 : decode cJ6_bitCount_0f7a4 4 = .ok (.ldc_w 265, 3) := dJ6_bitCount_0f7a4_r0.2.2.2.2.1
theorem dJ6_bitCount_0f7a4_7 : decode cJ6_bitCount_0f7a4 7 = .ok (.iand, 1) := dJ6_bitCount_0f7a4_r0.2.2.2.2.2.1
theorem dJ6_bitCount_0f7a4_8 : decode cJ6_bitCount_0f7a4 8 = .ok (.isub, 1) := dJ6_bitCount_0f7a4_r0.2.2.2.2.2.2.1
theorem dJ6_bitCount_0f7a4_9 : decode cJ6_bitCount_0f7a4 9 = .ok (.istore_n 0, 1) := dJ6_bitCount_0f7a4_r0.2.2.2.2.2.2.2.1
theorem dJ6_bitCount_0f7a4_10 : decode cJ6_bitCount_0f7a4 10 = .ok (.iload_n 0, 1) := dJ6_bitCount_0f7a4_r0.2.2.2.2.2.2.2.2.1
theorem dJ6_bitCount_0f7a4_11 : decode cJ6_bitCount_0f7a4 11 = .ok (.ldc_w 266, 3) := dJ6_bitCount_0f7a4_r0.2.2.2.2.2.2.2.2.2.1
theorem dJ6_bitCount_0f7a4_14 : decode cJ6_bitCount_0f7a4 14 = .ok (.iand, 1) := dJ6_bitCount_0f7a4_r0.2.2.2.2.2.2.2.2.2.2.1
theorem dJ6_bitCount_0f7a4_15 : decode cJ6_bitCount_0f7a4 15 = .ok (.iload_n 0, 1) := dJ6_bitCount_0f7a4_r0.2.2.2.2.2.2.2.2.2.2.2.1
theorem dJ6_bitCount_0f7a4_16 : decode cJ6_bitCount_0f7a4 16 = .ok (.iconst 2, 1) := dJ6_bitCount_0f7a4_r0.2.2.2.2.2.2.2.2.2.2.2.2.1
theorem dJ6_bitCount_0f7a4_17 : decode cJ6_bitCount_0f7a4 17 = .ok (.iushr, 1) := dJ6_bitCount_0f7a4_r0.2.2.2.2.2.2.2.2.2.2.2.2.2.1
theorem dJ6_bitCount_0f7a4_18 : decode cJ6_bitCount_0f7a4 18 = .ok (.ldc_w 266, 3) := dJ6_bitCount_0f7a4_r0.2.2.2.2.2.2.2.2.2.2.2.2.2.2.1
theorem dJ6_bitCount_0f7a4_21 : decode cJ6_bitCount_0f7a4 21 = .ok (.iand, 1) := dJ6_bitCount_0f7a4_r0.2.2.2.2.2.2.2.2.2.2.2.2.2.2.2.1
theorem dJ6_bitCount_0f7a4_r22 : zdcP cJ6_bitCount_0f7a4 22 [(.iadd, 1), (.istore_n 0, 1), (.iload_n 0, 1), (.iload_n 0, 1), (.iconst 4, 1), (.iushr, 1), (.iadd, 1), (.ldc_w 267, 3), (.iand, 1), (.istore_n 0, 1), (.iload_n 0, 1), (.iload_n 0, 1), (.bipush 8, 2), (.iushr, 1), (.iadd, 1), (.istore_n 0, 1)] := zdcA_ok (by decide +kernel)
theorem dJ6_bitCount_0f7a4_22 : decode cJ6_bitCount_0f7a4 22 = .ok (.iadd, 1) := dJ6_bitCount_0f7a4_r22.1
theorem dJ6_bitCount_0f7a4_23 : decode cJ6_bitCount_0f7a4 23 = .ok (.istore_n 0, 1) := dJ6_bitCount_0f7a4_r22.2.1
theorem dJ6_bitCount_0f7a4_24 : decode cJ6_bitCount_0f7a4 24 = .ok (.iload_n 0, 1) := dJ6_bitCount_0f7a4_r22.2.2.1
theorem dJ6_bitCount_0f7a4_25 : decode cJ6_bitCount_0f7a4 25 = .ok (.iload_n 0, 1) := dJ6_bitCount_0f7a4_r22.2.2.2.1
theorem dJ6_bitCount_0f7a4_26 : decode cJ6_bitCount_0f7a4 26 = .ok (.iconst 4, 1) := dJ6_bitCount_0f7a4_r22.2.2.2.2.1
theorem dJ6_bitCount_0f7a4_27 : decode cJ6_bitCount_0f7a4 27 = .ok (.iushr, 1) := dJ6_bitCount_0f7a4_r22.2.2.2.2.2.1
theorem dJ6_bitCount_0f7a4_28 : decode cJ6_bitCount_0f7a4 28 = .ok (.iadd, 1) := dJ6_bitCount_0f7a4_r22.2.2.2.2.2.2.1
theorem dJ6_bitCount_0f7a4_29 : decode cJ6_bitCount_0f7a4 29 = .ok (.ldc_w 267, 3) := dJ6_bitCount_0f7a4_r22.2.2.2.2.2.2.2.1
theorem dJ6_bitCount_0f7a4_32 : decode cJ6_bitCount_0f7a4 32 = .ok (.iand, 1) := dJ6_bitCount_0f7a4_r22.2.2.2.2.2.2.2.2.1
theorem dJ6_bitCount_0f7a4_33 : decode cJ6_bitCount_0f7a4 33 = .ok (.istore_n 0, 1) := dJ6_bitCount_0f7a4_r22.2.2.2.2.2.2.2.2.2.1
theorem dJ6_bitCount_0f7a4_34 : decode cJ6_bitCount_0f7a4 34 = .ok (.iload_n 0, 1) := dJ6_bitCount_0f7a4_r22.2.2.2.2.2.2.2.2.2.2.1
theorem dJ6_bitCount_0f7a4_35 : decode cJ6_bitCount_0f7a4 35 = .ok (.iload_n 0, 1) := dJ6_bitCount_0f7a4_r22.2.2.2.2.2.2.2.2.2.2.2.1
theorem dJ6_bitCount_0f7a4_36 : decode cJ6_bitCount_0f7a4 36 = .ok (.bipush 8, 2) := dJ6_bitCount_0f7a4_r22.2.2.2.2.2.2.2.2.2.2.2.2.1
theorem dJ6_bitCount_0f7a4_38 : decode cJ6_bitCount_0f7a4 38 = .ok (.iushr, 1) := dJ6_bitCount_0f7a4_r22.2.2.2.2.2.2.2.2.2.2.2.2.2.1
theorem dJ6_bitCount_0f7a4_39 : decode cJ6_bitCount_0f7a4 39 = .ok (.iadd, 1) := dJ6_bitCount_0f7a4_r22.2.2.2.2.2.2.2.2.2.2.2.2.2.2.1
theorem dJ6_bitCount_0f7a4_40 : decode cJ6_bitCount_0f7a4 40 = .ok (.istore_n 0, 1) := dJ6_bitCount_0f7a4_r22.2.2.2.2.2.2.2.2.2.2.2.2.2.2.2.1
theorem dJ6_bitCount_0f7a4_r41 : zdcP cJ6_bitCount_0f7a4 41 [(.iload_n 0, 1), (.iload_n 0, 1), (.bipush 16, 2), (.iushr, 1), (.iadd, 1), (.istore_n 0, 1), (.iload_n 0, 1), (.bipush 63, 2), (.iand, 1), (.ireturn, 1)] := zdcA_ok (by decide +kernel)
theorem dJ6_bitCount_0f7a4_41 : decode cJ6_bitCount_0f7a4 41 = .ok (.iload_n 0, 1) := dJ6_bitCount_0f7a4_r41.1
theorem dJ6_bitCount_0f7a4_42 : decode cJ6_bitCount_0f7a4 42 = .ok (.iload_n 0, 1) := dJ6_bitCount_0f7a4_r41.2.1
theorem dJ6_bitCount_0f7a4_43 : decode cJ6_bitCount_0f7a4 43 = .ok (.bipush 16, 2) := dJ6_bitCount_0f7a4_r41.2.2.1
theorem dJ6_bitCount_0f7a4_45 : decode cJ6_bitCount_0f7a4 45 = .ok (.iushr, 1) := dJ6_bitCount_0f7a4_r41.2.2.2.1
theorem dJ6_bitCount_0f7a4_46 : decode cJ6_bitCount_0f7a4 46 = .ok (.iadd, 1) := dJ6_bitCount_0f7a4_r41.2.2.2.2.1
theorem dJ6_bitCount_0f7a4_47 : decode cJ6_bitCount_0f7a4 47 = .ok (.istore_n 0, 1) := dJ6_bitCount_0f7a4_r41.2.2.2.2.2.1
theorem dJ6_bitCount_0f7a4_48 : decode cJ6_bitCount_0f7a4 48 = .ok (.iload_n 0, 1) := dJ6_bitCount_0f7a4_r41.2.2.2.2.2.2.1
theorem dJ6_bitCount_0f7a4_49 : decode cJ6_bitCount_0f7a4 49 = .ok (.bipush 63, 2) := dJ6_bitCount_0f7a4_r41.2.2.2.2.2.2.2.1
theorem dJ6_bitCount_0f7a4_51 : decode cJ6_bitCount_0f7a4 51 = .ok (.iand, 1) := dJ6_bitCount_0f7a4_r41.2.2.2.2.2.2.2.2.1
theorem dJ6_bitCount_0f7a4_52 : decode cJ6_bitCount_0f7a4 52 = .ok (.ireturn, 1) := dJ6_bitCount_0f7a4_r41.2.2.2.2.2.2.2.2.2.1
def wp_211 (v0 : Int32) (m : zf_Me) (Q : Int32 → zf_Me → Prop) : Prop := Q ((((((((v0 - ((((Int32.toUInt32 v0) >>> ((Int32.toUInt32 1) &&& Int32.toUInt32 31)).toInt32) &&& 1431655765)) &&& 858993459) + ((((Int32.toUInt32 (v0 - ((((Int32.toUInt32 v0) >>> ((Int32.toUInt32 1) &&& Int32.toUInt32 31)).toInt32) &&& 1431655765))) >>> ((Int32.toUInt32 2) &&& Int32.toUInt32 31)).toInt32) &&& 858993459)) + (((Int32.toUInt32 (((v0 - ((((Int32.toUInt32 v0) >>> ((Int32.toUInt32 1) &&& Int32.toUInt32 31)).toInt32) &&& 1431655765)) &&& 858993459) + ((((Int32.toUInt32 (v0 - ((((Int32.toUInt32 v0) >>> ((Int32.toUInt32 1) &&& Int32.toUInt32 31)).toInt32) &&& 1431655765))) >>> ((Int32.toUInt32 2) &&& Int32.toUInt32 31)).toInt32) &&& 858993459))) >>> ((Int32.toUInt32 4) &&& Int32.toUInt32 31)).toInt32)) &&& 252645135) + (((Int32.toUInt32 (((((v0 - ((((Int32.toUInt32 v0) >>> ((Int32.toUInt32 1) &&& Int32.toUInt32 31)).toInt32) &&& 1431655765)) &&& 858993459) + ((((Int32.toUInt32 (v0 - ((((Int32.toUInt32 v0) >>> ((Int32.toUInt32 1) &&& Int32.toUInt32 31)).toInt32) &&& 1431655765))) >>> ((Int32.toUInt32 2) &&& Int32.toUInt32 31)).toInt32) &&& 858993459)) + (((Int32.toUInt32 (((v0 - ((((Int32.toUInt32 v0) >>> ((Int32.toUInt32 1) &&& Int32.toUInt32 31)).toInt32) &&& 1431655765)) &&& 858993459) + ((((Int32.toUInt32 (v0 - ((((Int32.toUInt32 v0) >>> ((Int32.toUInt32 1) &&& Int32.toUInt32 31)).toInt32) &&& 1431655765))) >>> ((Int32.toUInt32 2) &&& Int32.toUInt32 31)).toInt32) &&& 858993459))) >>> ((Int32.toUInt32 4) &&& Int32.toUInt32 31)).toInt32)) &&& 252645135)) >>> ((Int32.toUInt32 8) &&& Int32.toUInt32 31)).toInt32)) + (((Int32.toUInt32 ((((((v0 - ((((Int32.toUInt32 v0) >>> ((Int32.toUInt32 1) &&& Int32.toUInt32 31)).toInt32) &&& 1431655765)) &&& 858993459) + ((((Int32.toUInt32 (v0 - ((((Int32.toUInt32 v0) >>> ((Int32.toUInt32 1) &&& Int32.toUInt32 31)).toInt32) &&& 1431655765))) >>> ((Int32.toUInt32 2) &&& Int32.toUInt32 31)).toInt32) &&& 858993459)) + (((Int32.toUInt32 (((v0 - ((((Int32.toUInt32 v0) >>> ((Int32.toUInt32 1) &&& Int32.toUInt32 31)).toInt32) &&& 1431655765)) &&& 858993459) + ((((Int32.toUInt32 (v0 - ((((Int32.toUInt32 v0) >>> ((Int32.toUInt32 1) &&& Int32.toUInt32 31)).toInt32) &&& 1431655765))) >>> ((Int32.toUInt32 2) &&& Int32.toUInt32 31)).toInt32) &&& 858993459))) >>> ((Int32.toUInt32 4) &&& Int32.toUInt32 31)).toInt32)) &&& 252645135) + (((Int32.toUInt32 (((((v0 - ((((Int32.toUInt32 v0) >>> ((Int32.toUInt32 1) &&& Int32.toUInt32 31)).toInt32) &&& 1431655765)) &&& 858993459) + ((((Int32.toUInt32 (v0 - ((((Int32.toUInt32 v0) >>> ((Int32.toUInt32 1) &&& Int32.toUInt32 31)).toInt32) &&& 1431655765))) >>> ((Int32.toUInt32 2) &&& Int32.toUInt32 31)).toInt32) &&& 858993459)) + (((Int32.toUInt32 (((v0 - ((((Int32.toUInt32 v0) >>> ((Int32.toUInt32 1) &&& Int32.toUInt32 31)).toInt32) &&& 1431655765)) &&& 858993459) + ((((Int32.toUInt32 (v0 - ((((Int32.toUInt32 v0) >>> ((Int32.toUInt32 1) &&& Int32.toUInt32 31)).toInt32) &&& 1431655765))) >>> ((Int32.toUInt32 2) &&& Int32.toUInt32 31)).toInt32) &&& 858993459))) >>> ((Int32.toUInt32 4) &&& Int32.toUInt32 31)).toInt32)) &&& 252645135)) >>> ((Int32.toUInt32 8) &&& Int32.toUInt32 31)).toInt32))) >>> ((Int32.toUInt32 16) &&& Int32.toUInt32 31)).toInt32)) &&& 63) m
theorem zr_211 {d : Nat} (hd : 0 ≤ d) {v0 : Int32} {Q : Int32 → zf_Me → Prop} {m : zf_Me} (h : wp_211 v0 m Q) : zf_M d 211 [.inl v0] m (zf_I Q) := by
  unfold wp_211 at h
  refine zf_M_of (Nat.le_of_ble_eq_true rfl) zm_211 (L := [some (.inl v0)]) rfl ?_
  refine zf_ld (pc' := 1) (v := .inl v0) dJ6_bitCount_0f7a4_0 rfl (fun _ _ _ => rfl) rfl rfl rfl ?_
  refine zf_ld (pc' := 2) (v := .inl v0) dJ6_bitCount_0f7a4_1 rfl (fun _ _ _ => rfl) rfl rfl rfl ?_
  refine zf_ic (v := 1) (pc' := 3) dJ6_bitCount_0f7a4_2 rfl rfl ?_
  refine zf_in (pc' := 4) (S' := [.inl (((Int32.toUInt32 v0) >>> ((Int32.toUInt32 1) &&& Int32.toUInt32 31)).toInt32), .inl v0]) dJ6_bitCount_0f7a4_3 rfl (fun _ _ _ => rfl) ?_
  refine zf_ldc (ix := 265) (v := 1431655765) (pc' := 7) dJ6_bitCount_0f7a4_4 rfl (fun _ _ _ => rfl) rfl rfl ?_
  refine zf_in (pc' := 8) (S' := [.inl ((((Int32.toUInt32 v0) >>> ((Int32.toUInt32 1) &&& Int32.toUInt32 31)).toInt32) &&& 1431655765), .inl v0]) dJ6_bitCount_0f7a4_7 rfl (fun _ _ _ => rfl) ?_
  refine zf_in (pc' := 9) (S' := [.inl (v0 - ((((Int32.toUInt32 v0) >>> ((Int32.toUInt32 1) &&& Int32.toUInt32 31)).toInt32) &&& 1431655765))]) dJ6_bitCount_0f7a4_8 rfl (fun _ _ _ => rfl) ?_
  refine zf_st (pc' := 10) (L2 := [some (.inl (v0 - ((((Int32.toUInt32 v0) >>> ((Int32.toUInt32 1) &&& Int32.toUInt32 31)).toInt32) &&& 1431655765)))]) dJ6_bitCount_0f7a4_9 rfl (fun _ _ _ => rfl) rfl rfl rfl rfl rfl rfl ?_
  refine zf_ld (pc' := 11) (v := .inl (v0 - ((((Int32.toUInt32 v0) >>> ((Int32.toUInt32 1) &&& Int32.toUInt32 31)).toInt32) &&& 1431655765))) dJ6_bitCount_0f7a4_10 rfl (fun _ _ _ => rfl) rfl rfl rfl ?_
  refine zf_ldc (ix := 266) (v := 858993459) (pc' := 14) dJ6_bitCount_0f7a4_11 rfl (fun _ _ _ => rfl) rfl rfl ?_
  refine zf_in (pc' := 15) (S' := [.inl ((v0 - ((((Int32.toUInt32 v0) >>> ((Int32.toUInt32 1) &&& Int32.toUInt32 31)).toInt32) &&& 1431655765)) &&& 858993459)]) dJ6_bitCount_0f7a4_14 rfl (fun _ _ _ => rfl) ?_
  refine zf_ld (pc' := 16) (v := .inl (v0 - ((((Int32.toUInt32 v0) >>> ((Int32.toUInt32 1) &&& Int32.toUInt32 31)).toInt32) &&& 1431655765))) dJ6_bitCount_0f7a4_15 rfl (fun _ _ _ => rfl) rfl rfl rfl ?_
  refine zf_ic (v := 2) (pc' := 17) dJ6_bitCount_0f7a4_16 rfl rfl ?_
  refine zf_in (pc' := 18) (S' := [.inl (((Int32.toUInt32 (v0 - ((((Int32.toUInt32 v0) >>> ((Int32.toUInt32 1) &&& Int32.toUInt32 31)).toInt32) &&& 1431655765))) >>> ((Int32.toUInt32 2) &&& Int32.toUInt32 31)).toInt32), .inl ((v0 - ((((Int32.toUInt32 v0) >>> ((Int32.toUInt32 1) &&& Int32.toUInt32 31)).toInt32) &&& 1431655765)) &&& 858993459)]) dJ6_bitCount_0f7a4_17 rfl (fun _ _ _ => rfl) ?_
  refine zf_ldc (ix := 266) (v := 858993459) (pc' := 21) dJ6_bitCount_0f7a4_18 rfl (fun _ _ _ => rfl) rfl rfl ?_
  refine zf_in (pc' := 22) (S' := [.inl ((((Int32.toUInt32 (v0 - ((((Int32.toUInt32 v0) >>> ((Int32.toUInt32 1) &&& Int32.toUInt32 31)).toInt32) &&& 1431655765))) >>> ((Int32.toUInt32 2) &&& Int32.toUInt32 31)).toInt32) &&& 858993459), .inl ((v0 - ((((Int32.toUInt32 v0) >>> ((Int32.toUInt32 1) &&& Int32.toUInt32 31)).toInt32) &&& 1431655765)) &&& 858993459)]) dJ6_bitCount_0f7a4_21 rfl (fun _ _ _ => rfl) ?_
  refine zf_in (pc' := 23) (S' := [.inl (((v0 - ((((Int32.toUInt32 v0) >>> ((Int32.toUInt32 1) &&& Int32.toUInt32 31)).toInt32) &&& 1431655765)) &&& 858993459) + ((((Int32.toUInt32 (v0 - ((((Int32.toUInt32 v0) >>> ((Int32.toUInt32 1) &&& Int32.toUInt32 31)).toInt32) &&& 1431655765))) >>> ((Int32.toUInt32 2) &&& Int32.toUInt32 31)).toInt32) &&& 858993459))]) dJ6_bitCount_0f7a4_22 rfl (fun _ _ _ => rfl) ?_
  refine zf_st (pc' := 24) (L2 := [some (.inl (((v0 - ((((Int32.toUInt32 v0) >>> ((Int32.toUInt32 1) &&& Int32.toUInt32 31)).toInt32) &&& 1431655765)) &&& 858993459) + ((((Int32.toUInt32 (v0 - ((((Int32.toUInt32 v0) >>> ((Int32.toUInt32 1) &&& Int32.toUInt32 31)).toInt32) &&& 1431655765))) >>> ((Int32.toUInt32 2) &&& Int32.toUInt32 31)).toInt32) &&& 858993459)))]) dJ6_bitCount_0f7a4_23 rfl (fun _ _ _ => rfl) rfl rfl rfl rfl rfl rfl ?_
  refine zf_ld (pc' := 25) (v := .inl (((v0 - ((((Int32.toUInt32 v0) >>> ((Int32.toUInt32 1) &&& Int32.toUInt32 31)).toInt32) &&& 1431655765)) &&& 858993459) + ((((Int32.toUInt32 (v0 - ((((Int32.toUInt32 v0) >>> ((Int32.toUInt32 1) &&& Int32.toUInt32 31)).toInt32) &&& 1431655765))) >>> ((Int32.toUInt32 2) &&& Int32.toUInt32 31)).toInt32) &&& 858993459))) dJ6_bitCount_0f7a4_24 rfl (fun _ _ _ => rfl) rfl rfl rfl ?_
  refine zf_ld (pc' := 26) (v := .inl (((v0 - ((((Int32.toUInt32 v0) >>> ((Int32.toUInt32 1) &&& Int32.toUInt32 31)).toInt32) &&& 1431655765)) &&& 858993459) + ((((Int32.toUInt32 (v0 - ((((Int32.toUInt32 v0) >>> ((Int32.toUInt32 1) &&& Int32.toUInt32 31)).toInt32) &&& 1431655765))) >>> ((Int32.toUInt32 2) &&& Int32.toUInt32 31)).toInt32) &&& 858993459))) dJ6_bitCount_0f7a4_25 rfl (fun _ _ _ => rfl) rfl rfl rfl ?_
  refine zf_ic (v := 4) (pc' := 27) dJ6_bitCount_0f7a4_26 rfl rfl ?_
  refine zf_in (pc' := 28) (S' := [.inl (((Int32.toUInt32 (((v0 - ((((Int32.toUInt32 v0) >>> ((Int32.toUInt32 1) &&& Int32.toUInt32 31)).toInt32) &&& 1431655765)) &&& 858993459) + ((((Int32.toUInt32 (v0 - ((((Int32.toUInt32 v0) >>> ((Int32.toUInt32 1) &&& Int32.toUInt32 31)).toInt32) &&& 1431655765))) >>> ((Int32.toUInt32 2) &&& Int32.toUInt32 31)).toInt32) &&& 858993459))) >>> ((Int32.toUInt32 4) &&& Int32.toUInt32 31)).toInt32), .inl (((v0 - ((((Int32.toUInt32 v0) >>> ((Int32.toUInt32 1) &&& Int32.toUInt32 31)).toInt32) &&& 1431655765)) &&& 858993459) + ((((Int32.toUInt32 (v0 - ((((Int32.toUInt32 v0) >>> ((Int32.toUInt32 1) &&& Int32.toUInt32 31)).toInt32) &&& 1431655765))) >>> ((Int32.toUInt32 2) &&& Int32.toUInt32 31)).toInt32) &&& 858993459))]) dJ6_bitCount_0f7a4_27 rfl (fun _ _ _ => rfl) ?_
  refine zf_in (pc' := 29) (S' := [.inl ((((v0 - ((((Int32.toUInt32 v0) >>> ((Int32.toUInt32 1) &&& Int32.toUInt32 31)).toInt32) &&& 1431655765)) &&& 858993459) + ((((Int32.toUInt32 (v0 - ((((Int32.toUInt32 v0) >>> ((Int32.toUInt32 1) &&& Int32.toUInt32 31)).toInt32) &&& 1431655765))) >>> ((Int32.toUInt32 2) &&& Int32.toUInt32 31)).toInt32) &&& 858993459)) + (((Int32.toUInt32 (((v0 - ((((Int32.toUInt32 v0) >>> ((Int32.toUInt32 1) &&& Int32.toUInt32 31)).toInt32) &&& 1431655765)) &&& 858993459) + ((((Int32.toUInt32 (v0 - ((((Int32.toUInt32 v0) >>> ((Int32.toUInt32 1) &&& Int32.toUInt32 31)).toInt32) &&& 1431655765))) >>> ((Int32.toUInt32 2) &&& Int32.toUInt32 31)).toInt32) &&& 858993459))) >>> ((Int32.toUInt32 4) &&& Int32.toUInt32 31)).toInt32))]) dJ6_bitCount_0f7a4_28 rfl (fun _ _ _ => rfl) ?_
  refine zf_ldc (ix := 267) (v := 252645135) (pc' := 32) dJ6_bitCount_0f7a4_29 rfl (fun _ _ _ => rfl) rfl rfl ?_
  refine zf_in (pc' := 33) (S' := [.inl (((((v0 - ((((Int32.toUInt32 v0) >>> ((Int32.toUInt32 1) &&& Int32.toUInt32 31)).toInt32) &&& 1431655765)) &&& 858993459) + ((((Int32.toUInt32 (v0 - ((((Int32.toUInt32 v0) >>> ((Int32.toUInt32 1) &&& Int32.toUInt32 31)).toInt32) &&& 1431655765))) >>> ((Int32.toUInt32 2) &&& Int32.toUInt32 31)).toInt32) &&& 858993459)) + (((Int32.toUInt32 (((v0 - ((((Int32.toUInt32 v0) >>> ((Int32.toUInt32 1) &&& Int32.toUInt32 31)).toInt32) &&& 1431655765)) &&& 858993459) + ((((Int32.toUInt32 (v0 - ((((Int32.toUInt32 v0) >>> ((Int32.toUInt32 1) &&& Int32.toUInt32 31)).toInt32) &&& 1431655765))) >>> ((Int32.toUInt32 2) &&& Int32.toUInt32 31)).toInt32) &&& 858993459))) >>> ((Int32.toUInt32 4) &&& Int32.toUInt32 31)).toInt32)) &&& 252645135)]) dJ6_bitCount_0f7a4_32 rfl (fun _ _ _ => rfl) ?_
  refine zf_st (pc' := 34) (L2 := [some (.inl (((((v0 - ((((Int32.toUInt32 v0) >>> ((Int32.toUInt32 1) &&& Int32.toUInt32 31)).toInt32) &&& 1431655765)) &&& 858993459) + ((((Int32.toUInt32 (v0 - ((((Int32.toUInt32 v0) >>> ((Int32.toUInt32 1) &&& Int32.toUInt32 31)).toInt32) &&& 1431655765))) >>> ((Int32.toUInt32 2) &&& Int32.toUInt32 31)).toInt32) &&& 858993459)) + (((Int32.toUInt32 (((v0 - ((((Int32.toUInt32 v0) >>> ((Int32.toUInt32 1) &&& Int32.toUInt32 31)).toInt32) &&& 1431655765)) &&& 858993459) + ((((Int32.toUInt32 (v0 - ((((Int32.toUInt32 v0) >>> ((Int32.toUInt32 1) &&& Int32.toUInt32 31)).toInt32) &&& 1431655765))) >>> ((Int32.toUInt32 2) &&& Int32.toUInt32 31)).toInt32) &&& 858993459))) >>> ((Int32.toUInt32 4) &&& Int32.toUInt32 31)).toInt32)) &&& 252645135))]) dJ6_bitCount_0f7a4_33 rfl (fun _ _ _ => rfl) rfl rfl rfl rfl rfl rfl ?_
  refine zf_ld (pc' := 35) (v := .inl (((((v0 - ((((Int32.toUInt32 v0) >>> ((Int32.toUInt32 1) &&& Int32.toUInt32 31)).toInt32) &&& 1431655765)) &&& 858993459) + ((((Int32.toUInt32 (v0 - ((((Int32.toUInt32 v0) >>> ((Int32.toUInt32 1) &&& Int32.toUInt32 31)).toInt32) &&& 1431655765))) >>> ((Int32.toUInt32 2) &&& Int32.toUInt32 31)).toInt32) &&& 858993459)) + (((Int32.toUInt32 (((v0 - ((((Int32.toUInt32 v0) >>> ((Int32.toUInt32 1) &&& Int32.toUInt32 31)).toInt32) &&& 1431655765)) &&& 858993459) + ((((Int32.toUInt32 (v0 - ((((Int32.toUInt32 v0) >>> ((Int32.toUInt32 1) &&& Int32.toUInt32 31)).toInt32) &&& 1431655765))) >>> ((Int32.toUInt32 2) &&& Int32.toUInt32 31)).toInt32) &&& 858993459))) >>> ((Int32.toUInt32 4) &&& Int32.toUInt32 31)).toInt32)) &&& 252645135)) dJ6_bitCount_0f7a4_34 rfl (fun _ _ _ => rfl) rfl rfl rfl ?_
  refine zf_ld (pc' := 36) (v := .inl (((((v0 - ((((Int32.toUInt32 v0) >>> ((Int32.toUInt32 1) &&& Int32.toUInt32 31)).toInt32) &&& 1431655765)) &&& 858993459) + ((((Int32.toUInt32 (v0 - ((((Int32.toUInt32 v0) >>> ((Int32.toUInt32 1) &&& Int32.toUInt32 31)).toInt32) &&& 1431655765))) >>> ((Int32.toUInt32 2) &&& Int32.toUInt32 31)).toInt32) &&& 858993459)) + (((Int32.toUInt32 (((v0 - ((((Int32.toUInt32 v0) >>> ((Int32.toUInt32 1) &&& Int32.toUInt32 31)).toInt32) &&& 1431655765)) &&& 858993459) + ((((Int32.toUInt32 (v0 - ((((Int32.toUInt32 v0) >>> ((Int32.toUInt32 1) &&& Int32.toUInt32 31)).toInt32) &&& 1431655765))) >>> ((Int32.toUInt32 2) &&& Int32.toUInt32 31)).toInt32) &&& 858993459))) >>> ((Int32.toUInt32 4) &&& Int32.toUInt32 31)).toInt32)) &&& 252645135)) dJ6_bitCount_0f7a4_35 rfl (fun _ _ _ => rfl) rfl rfl rfl ?_
  refine zf_bi (v := 8) (pc' := 38) dJ6_bitCount_0f7a4_36 rfl rfl ?_
  refine zf_in (pc' := 39) (S' := [.inl (((Int32.toUInt32 (((((v0 - ((((Int32.toUInt32 v0) >>> ((Int32.toUInt32 1) &&& Int32.toUInt32 31)).toInt32) &&& 1431655765)) &&& 858993459) + ((((Int32.toUInt32 (v0 - ((((Int32.toUInt32 v0) >>> ((Int32.toUInt32 1) &&& Int32.toUInt32 31)).toInt32) &&& 1431655765))) >>> ((Int32.toUInt32 2) &&& Int32.toUInt32 31)).toInt32) &&& 858993459)) + (((Int32.toUInt32 (((v0 - ((((Int32.toUInt32 v0) >>> ((Int32.toUInt32 1) &&& Int32.toUInt32 31)).toInt32) &&& 1431655765)) &&& 858993459) + ((((Int32.toUInt32 (v0 - ((((Int32.toUInt32 v0) >>> ((Int32.toUInt32 1) &&& Int32.toUInt32 31)).toInt32) &&& 1431655765))) >>> ((Int32.toUInt32 2) &&& Int32.toUInt32 31)).toInt32) &&& 858993459))) >>> ((Int32.toUInt32 4) &&& Int32.toUInt32 31)).toInt32)) &&& 252645135)) >>> ((Int32.toUInt32 8) &&& Int32.toUInt32 31)).toInt32), .inl (((((v0 - ((((Int32.toUInt32 v0) >>> ((Int32.toUInt32 1) &&& Int32.toUInt32 31)).toInt32) &&& 1431655765)) &&& 858993459) + ((((Int32.toUInt32 (v0 - ((((Int32.toUInt32 v0) >>> ((Int32.toUInt32 1) &&& Int32.toUInt32 31)).toInt32) &&& 1431655765))) >>> ((Int32.toUInt32 2) &&& Int32.toUInt32 31)).toInt32) &&& 858993459)) + (((Int32.toUInt32 (((v0 - ((((Int32.toUInt32 v0) >>> ((Int32.toUInt32 1) &&& Int32.toUInt32 31)).toInt32) &&& 1431655765)) &&& 858993459) + ((((Int32.toUInt32 (v0 - ((((Int32.toUInt32 v0) >>> ((Int32.toUInt32 1) &&& Int32.toUInt32 31)).toInt32) &&& 1431655765))) >>> ((Int32.toUInt32 2) &&& Int32.toUInt32 31)).toInt32) &&& 858993459))) >>> ((Int32.toUInt32 4) &&& Int32.toUInt32 31)).toInt32)) &&& 252645135)]) dJ6_bitCount_0f7a4_38 rfl (fun _ _ _ => rfl) ?_
  refine zf_in (pc' := 40) (S' := [.inl ((((((v0 - ((((Int32.toUInt32 v0) >>> ((Int32.toUInt32 1) &&& Int32.toUInt32 31)).toInt32) &&& 1431655765)) &&& 858993459) + ((((Int32.toUInt32 (v0 - ((((Int32.toUInt32 v0) >>> ((Int32.toUInt32 1) &&& Int32.toUInt32 31)).toInt32) &&& 1431655765))) >>> ((Int32.toUInt32 2) &&& Int32.toUInt32 31)).toInt32) &&& 858993459)) + (((Int32.toUInt32 (((v0 - ((((Int32.toUInt32 v0) >>> ((Int32.toUInt32 1) &&& Int32.toUInt32 31)).toInt32) &&& 1431655765)) &&& 858993459) + ((((Int32.toUInt32 (v0 - ((((Int32.toUInt32 v0) >>> ((Int32.toUInt32 1) &&& Int32.toUInt32 31)).toInt32) &&& 1431655765))) >>> ((Int32.toUInt32 2) &&& Int32.toUInt32 31)).toInt32) &&& 858993459))) >>> ((Int32.toUInt32 4) &&& Int32.toUInt32 31)).toInt32)) &&& 252645135) + (((Int32.toUInt32 (((((v0 - ((((Int32.toUInt32 v0) >>> ((Int32.toUInt32 1) &&& Int32.toUInt32 31)).toInt32) &&& 1431655765)) &&& 858993459) + ((((Int32.toUInt32 (v0 - ((((Int32.toUInt32 v0) >>> ((Int32.toUInt32 1) &&& Int32.toUInt32 31)).toInt32) &&& 1431655765))) >>> ((Int32.toUInt32 2) &&& Int32.toUInt32 31)).toInt32) &&& 858993459)) + (((Int32.toUInt32 (((v0 - ((((Int32.toUInt32 v0) >>> ((Int32.toUInt32 1) &&& Int32.toUInt32 31)).toInt32) &&& 1431655765)) &&& 858993459) + ((((Int32.toUInt32 (v0 - ((((Int32.toUInt32 v0) >>> ((Int32.toUInt32 1) &&& Int32.toUInt32 31)).toInt32) &&& 1431655765))) >>> ((Int32.toUInt32 2) &&& Int32.toUInt32 31)).toInt32) &&& 858993459))) >>> ((Int32.toUInt32 4) &&& Int32.toUInt32 31)).toInt32)) &&& 252645135)) >>> ((Int32.toUInt32 8) &&& Int32.toUInt32 31)).toInt32))]) dJ6_bitCount_0f7a4_39 rfl (fun _ _ _ => rfl) ?_
  refine zf_st (pc' := 41) (L2 := [some (.inl ((((((v0 - ((((Int32.toUInt32 v0) >>> ((Int32.toUInt32 1) &&& Int32.toUInt32 31)).toInt32) &&& 1431655765)) &&& 858993459) + ((((Int32.toUInt32 (v0 - ((((Int32.toUInt32 v0) >>> ((Int32.toUInt32 1) &&& Int32.toUInt32 31)).toInt32) &&& 1431655765))) >>> ((Int32.toUInt32 2) &&& Int32.toUInt32 31)).toInt32) &&& 858993459)) + (((Int32.toUInt32 (((v0 - ((((Int32.toUInt32 v0) >>> ((Int32.toUInt32 1) &&& Int32.toUInt32 31)).toInt32) &&& 1431655765)) &&& 858993459) + ((((Int32.toUInt32 (v0 - ((((Int32.toUInt32 v0) >>> ((Int32.toUInt32 1) &&& Int32.toUInt32 31)).toInt32) &&& 1431655765))) >>> ((Int32.toUInt32 2) &&& Int32.toUInt32 31)).toInt32) &&& 858993459))) >>> ((Int32.toUInt32 4) &&& Int32.toUInt32 31)).toInt32)) &&& 252645135) + (((Int32.toUInt32 (((((v0 - ((((Int32.toUInt32 v0) >>> ((Int32.toUInt32 1) &&& Int32.toUInt32 31)).toInt32) &&& 1431655765)) &&& 858993459) + ((((Int32.toUInt32 (v0 - ((((Int32.toUInt32 v0) >>> ((Int32.toUInt32 1) &&& Int32.toUInt32 31)).toInt32) &&& 1431655765))) >>> ((Int32.toUInt32 2) &&& Int32.toUInt32 31)).toInt32) &&& 858993459)) + (((Int32.toUInt32 (((v0 - ((((Int32.toUInt32 v0) >>> ((Int32.toUInt32 1) &&& Int32.toUInt32 31)).toInt32) &&& 1431655765)) &&& 858993459) + ((((Int32.toUInt32 (v0 - ((((Int32.toUInt32 v0) >>> ((Int32.toUInt32 1) &&& Int32.toUInt32 31)).toInt32) &&& 1431655765))) >>> ((Int32.toUInt32 2) &&& Int32.toUInt32 31)).toInt32) &&& 858993459))) >>> ((Int32.toUInt32 4) &&& Int32.toUInt32 31)).toInt32)) &&& 252645135)) >>> ((Int32.toUInt32 8) &&& Int32.toUInt32 31)).toInt32)))]) dJ6_bitCount_0f7a4_40 rfl (fun _ _ _ => rfl) rfl rfl rfl rfl rfl rfl ?_
  refine zf_ld (pc' := 42) (v := .inl ((((((v0 - ((((Int32.toUInt32 v0) >>> ((Int32.toUInt32 1) &&& Int32.toUInt32 31)).toInt32) &&& 1431655765)) &&& 858993459) + ((((Int32.toUInt32 (v0 - ((((Int32.toUInt32 v0) >>> ((Int32.toUInt32 1) &&& Int32.toUInt32 31)).toInt32) &&& 1431655765))) >>> ((Int32.toUInt32 2) &&& Int32.toUInt32 31)).toInt32) &&& 858993459)) + (((Int32.toUInt32 (((v0 - ((((Int32.toUInt32 v0) >>> ((Int32.toUInt32 1) &&& Int32.toUInt32 31)).toInt32) &&& 1431655765)) &&& 858993459) + ((((Int32.toUInt32 (v0 - ((((Int32.toUInt32 v0) >>> ((Int32.toUInt32 1) &&& Int32.toUInt32 31)).toInt32) &&& 1431655765))) >>> ((Int32.toUInt32 2) &&& Int32.toUInt32 31)).toInt32) &&& 858993459))) >>> ((Int32.toUInt32 4) &&& Int32.toUInt32 31)).toInt32)) &&& 252645135) + (((Int32.toUInt32 (((((v0 - ((((Int32.toUInt32 v0) >>> ((Int32.toUInt32 1) &&& Int32.toUInt32 31)).toInt32) &&& 1431655765)) &&& 858993459) + ((((Int32.toUInt32 (v0 - ((((Int32.toUInt32 v0) >>> ((Int32.toUInt32 1) &&& Int32.toUInt32 31)).toInt32) &&& 1431655765))) >>> ((Int32.toUInt32 2) &&& Int32.toUInt32 31)).toInt32) &&& 858993459)) + (((Int32.toUInt32 (((v0 - ((((Int32.toUInt32 v0) >>> ((Int32.toUInt32 1) &&& Int32.toUInt32 31)).toInt32) &&& 1431655765)) &&& 858993459) + ((((Int32.toUInt32 (v0 - ((((Int32.toUInt32 v0) >>> ((Int32.toUInt32 1) &&& Int32.toUInt32 31)).toInt32) &&& 1431655765))) >>> ((Int32.toUInt32 2) &&& Int32.toUInt32 31)).toInt32) &&& 858993459))) >>> ((Int32.toUInt32 4) &&& Int32.toUInt32 31)).toInt32)) &&& 252645135)) >>> ((Int32.toUInt32 8) &&& Int32.toUInt32 31)).toInt32))) dJ6_bitCount_0f7a4_41 rfl (fun _ _ _ => rfl) rfl rfl rfl ?_
  refine zf_ld (pc' := 43) (v := .inl ((((((v0 - ((((Int32.toUInt32 v0) >>> ((Int32.toUInt32 1) &&& Int32.toUInt32 31)).toInt32) &&& 1431655765)) &&& 858993459) + ((((Int32.toUInt32 (v0 - ((((Int32.toUInt32 v0) >>> ((Int32.toUInt32 1) &&& Int32.toUInt32 31)).toInt32) &&& 1431655765))) >>> ((Int32.toUInt32 2) &&& Int32.toUInt32 31)).toInt32) &&& 858993459)) + (((Int32.toUInt32 (((v0 - ((((Int32.toUInt32 v0) >>> ((Int32.toUInt32 1) &&& Int32.toUInt32 31)).toInt32) &&& 1431655765)) &&& 858993459) + ((((Int32.toUInt32 (v0 - ((((Int32.toUInt32 v0) >>> ((Int32.toUInt32 1) &&& Int32.toUInt32 31)).toInt32) &&& 1431655765))) >>> ((Int32.toUInt32 2) &&& Int32.toUInt32 31)).toInt32) &&& 858993459))) >>> ((Int32.toUInt32 4) &&& Int32.toUInt32 31)).toInt32)) &&& 252645135) + (((Int32.toUInt32 (((((v0 - ((((Int32.toUInt32 v0) >>> ((Int32.toUInt32 1) &&& Int32.toUInt32 31)).toInt32) &&& 1431655765)) &&& 858993459) + ((((Int32.toUInt32 (v0 - ((((Int32.toUInt32 v0) >>> ((Int32.toUInt32 1) &&& Int32.toUInt32 31)).toInt32) &&& 1431655765))) >>> ((Int32.toUInt32 2) &&& Int32.toUInt32 31)).toInt32) &&& 858993459)) + (((Int32.toUInt32 (((v0 - ((((Int32.toUInt32 v0) >>> ((Int32.toUInt32 1) &&& Int32.toUInt32 31)).toInt32) &&& 1431655765)) &&& 858993459) + ((((Int32.toUInt32 (v0 - ((((Int32.toUInt32 v0) >>> ((Int32.toUInt32 1) &&& Int32.toUInt32 31)).toInt32) &&& 1431655765))) >>> ((Int32.toUInt32 2) &&& Int32.toUInt32 31)).toInt32) &&& 858993459))) >>> ((Int32.toUInt32 4) &&& Int32.toUInt32 31)).toInt32)) &&& 252645135)) >>> ((Int32.toUInt32 8) &&& Int32.toUInt32 31)).toInt32))) dJ6_bitCount_0f7a4_42 rfl (fun _ _ _ => rfl) rfl rfl rfl ?_
  refine zf_bi (v := 16) (pc' := 45) dJ6_bitCount_0f7a4_43 rfl rfl ?_
  refine zf_in (pc' := 46) (S' := [.inl (((Int32.toUInt32 ((((((v0 - ((((Int32.toUInt32 v0) >>> ((Int32.toUInt32 1) &&& Int32.toUInt32 31)).toInt32) &&& 1431655765)) &&& 858993459) + ((((Int32.toUInt32 (v0 - ((((Int32.toUInt32 v0) >>> ((Int32.toUInt32 1) &&& Int32.toUInt32 31)).toInt32) &&& 1431655765))) >>> ((Int32.toUInt32 2) &&& Int32.toUInt32 31)).toInt32) &&& 858993459)) + (((Int32.toUInt32 (((v0 - ((((Int32.toUInt32 v0) >>> ((Int32.toUInt32 1) &&& Int32.toUInt32 31)).toInt32) &&& 1431655765)) &&& 858993459) + ((((Int32.toUInt32 (v0 - ((((Int32.toUInt32 v0) >>> ((Int32.toUInt32 1) &&& Int32.toUInt32 31)).toInt32) &&& 1431655765))) >>> ((Int32.toUInt32 2) &&& Int32.toUInt32 31)).toInt32) &&& 858993459))) >>> ((Int32.toUInt32 4) &&& Int32.toUInt32 31)).toInt32)) &&& 252645135) + (((Int32.toUInt32 (((((v0 - ((((Int32.toUInt32 v0) >>> ((Int32.toUInt32 1) &&& Int32.toUInt32 31)).toInt32) &&& 1431655765)) &&& 858993459) + ((((Int32.toUInt32 (v0 - ((((Int32.toUInt32 v0) >>> ((Int32.toUInt32 1) &&& Int32.toUInt32 31)).toInt32) &&& 1431655765))) >>> ((Int32.toUInt32 2) &&& Int32.toUInt32 31)).toInt32) &&& 858993459)) + (((Int32.toUInt32 (((v0 - ((((Int32.toUInt32 v0) >>> ((Int32.toUInt32 1) &&& Int32.toUInt32 31)).toInt32) &&& 1431655765)) &&& 858993459) + ((((Int32.toUInt32 (v0 - ((((Int32.toUInt32 v0) >>> ((Int32.toUInt32 1) &&& Int32.toUInt32 31)).toInt32) &&& 1431655765))) >>> ((Int32.toUInt32 2) &&& Int32.toUInt32 31)).toInt32) &&& 858993459))) >>> ((Int32.toUInt32 4) &&& Int32.toUInt32 31)).toInt32)) &&& 252645135)) >>> ((Int32.toUInt32 8) &&& Int32.toUInt32 31)).toInt32))) >>> ((Int32.toUInt32 16) &&& Int32.toUInt32 31)).toInt32), .inl ((((((v0 - ((((Int32.toUInt32 v0) >>> ((Int32.toUInt32 1) &&& Int32.toUInt32 31)).toInt32) &&& 1431655765)) &&& 858993459) + ((((Int32.toUInt32 (v0 - ((((Int32.toUInt32 v0) >>> ((Int32.toUInt32 1) &&& Int32.toUInt32 31)).toInt32) &&& 1431655765))) >>> ((Int32.toUInt32 2) &&& Int32.toUInt32 31)).toInt32) &&& 858993459)) + (((Int32.toUInt32 (((v0 - ((((Int32.toUInt32 v0) >>> ((Int32.toUInt32 1) &&& Int32.toUInt32 31)).toInt32) &&& 1431655765)) &&& 858993459) + ((((Int32.toUInt32 (v0 - ((((Int32.toUInt32 v0) >>> ((Int32.toUInt32 1) &&& Int32.toUInt32 31)).toInt32) &&& 1431655765))) >>> ((Int32.toUInt32 2) &&& Int32.toUInt32 31)).toInt32) &&& 858993459))) >>> ((Int32.toUInt32 4) &&& Int32.toUInt32 31)).toInt32)) &&& 252645135) + (((Int32.toUInt32 (((((v0 - ((((Int32.toUInt32 v0) >>> ((Int32.toUInt32 1) &&& Int32.toUInt32 31)).toInt32) &&& 1431655765)) &&& 858993459) + ((((Int32.toUInt32 (v0 - ((((Int32.toUInt32 v0) >>> ((Int32.toUInt32 1) &&& Int32.toUInt32 31)).toInt32) &&& 1431655765))) >>> ((Int32.toUInt32 2) &&& Int32.toUInt32 31)).toInt32) &&& 858993459)) + (((Int32.toUInt32 (((v0 - ((((Int32.toUInt32 v0) >>> ((Int32.toUInt32 1) &&& Int32.toUInt32 31)).toInt32) &&& 1431655765)) &&& 858993459) + ((((Int32.toUInt32 (v0 - ((((Int32.toUInt32 v0) >>> ((Int32.toUInt32 1) &&& Int32.toUInt32 31)).toInt32) &&& 1431655765))) >>> ((Int32.toUInt32 2) &&& Int32.toUInt32 31)).toInt32) &&& 858993459))) >>> ((Int32.toUInt32 4) &&& Int32.toUInt32 31)).toInt32)) &&& 252645135)) >>> ((Int32.toUInt32 8) &&& Int32.toUInt32 31)).toInt32))]) dJ6_bitCount_0f7a4_45 rfl (fun _ _ _ => rfl) ?_
  refine zf_in (pc' := 47) (S' := [.inl (((((((v0 - ((((Int32.toUInt32 v0) >>> ((Int32.toUInt32 1) &&& Int32.toUInt32 31)).toInt32) &&& 1431655765)) &&& 858993459) + ((((Int32.toUInt32 (v0 - ((((Int32.toUInt32 v0) >>> ((Int32.toUInt32 1) &&& Int32.toUInt32 31)).toInt32) &&& 1431655765))) >>> ((Int32.toUInt32 2) &&& Int32.toUInt32 31)).toInt32) &&& 858993459)) + (((Int32.toUInt32 (((v0 - ((((Int32.toUInt32 v0) >>> ((Int32.toUInt32 1) &&& Int32.toUInt32 31)).toInt32) &&& 1431655765)) &&& 858993459) + ((((Int32.toUInt32 (v0 - ((((Int32.toUInt32 v0) >>> ((Int32.toUInt32 1) &&& Int32.toUInt32 31)).toInt32) &&& 1431655765))) >>> ((Int32.toUInt32 2) &&& Int32.toUInt32 31)).toInt32) &&& 858993459))) >>> ((Int32.toUInt32 4) &&& Int32.toUInt32 31)).toInt32)) &&& 252645135) + (((Int32.toUInt32 (((((v0 - ((((Int32.toUInt32 v0) >>> ((Int32.toUInt32 1) &&& Int32.toUInt32 31)).toInt32) &&& 1431655765)) &&& 858993459) + ((((Int32.toUInt32 (v0 - ((((Int32.toUInt32 v0) >>> ((Int32.toUInt32 1) &&& Int32.toUInt32 31)).toInt32) &&& 1431655765))) >>> ((Int32.toUInt32 2) &&& Int32.toUInt32 31)).toInt32) &&& 858993459)) + (((Int32.toUInt32 (((v0 - ((((Int32.toUInt32 v0) >>> ((Int32.toUInt32 1) &&& Int32.toUInt32 31)).toInt32) &&& 1431655765)) &&& 858993459) + ((((Int32.toUInt32 (v0 - ((((Int32.toUInt32 v0) >>> ((Int32.toUInt32 1) &&& Int32.toUInt32 31)).toInt32) &&& 1431655765))) >>> ((Int32.toUInt32 2) &&& Int32.toUInt32 31)).toInt32) &&& 858993459))) >>> ((Int32.toUInt32 4) &&& Int32.toUInt32 31)).toInt32)) &&& 252645135)) >>> ((Int32.toUInt32 8) &&& Int32.toUInt32 31)).toInt32)) + (((Int32.toUInt32 ((((((v0 - ((((Int32.toUInt32 v0) >>> ((Int32.toUInt32 1) &&& Int32.toUInt32 31)).toInt32) &&& 1431655765)) &&& 858993459) + ((((Int32.toUInt32 (v0 - ((((Int32.toUInt32 v0) >>> ((Int32.toUInt32 1) &&& Int32.toUInt32 31)).toInt32) &&& 1431655765))) >>> ((Int32.toUInt32 2) &&& Int32.toUInt32 31)).toInt32) &&& 858993459)) + (((Int32.toUInt32 (((v0 - ((((Int32.toUInt32 v0) >>> ((Int32.toUInt32 1) &&& Int32.toUInt32 31)).toInt32) &&& 1431655765)) &&& 858993459) + ((((Int32.toUInt32 (v0 - ((((Int32.toUInt32 v0) >>> ((Int32.toUInt32 1) &&& Int32.toUInt32 31)).toInt32) &&& 1431655765))) >>> ((Int32.toUInt32 2) &&& Int32.toUInt32 31)).toInt32) &&& 858993459))) >>> ((Int32.toUInt32 4) &&& Int32.toUInt32 31)).toInt32)) &&& 252645135) + (((Int32.toUInt32 (((((v0 - ((((Int32.toUInt32 v0) >>> ((Int32.toUInt32 1) &&& Int32.toUInt32 31)).toInt32) &&& 1431655765)) &&& 858993459) + ((((Int32.toUInt32 (v0 - ((((Int32.toUInt32 v0) >>> ((Int32.toUInt32 1) &&& Int32.toUInt32 31)).toInt32) &&& 1431655765))) >>> ((Int32.toUInt32 2) &&& Int32.toUInt32 31)).toInt32) &&& 858993459)) + (((Int32.toUInt32 (((v0 - ((((Int32.toUInt32 v0) >>> ((Int32.toUInt32 1) &&& Int32.toUInt32 31)).toInt32) &&& 1431655765)) &&& 858993459) + ((((Int32.toUInt32 (v0 - ((((Int32.toUInt32 v0) >>> ((Int32.toUInt32 1) &&& Int32.toUInt32 31)).toInt32) &&& 1431655765))) >>> ((Int32.toUInt32 2) &&& Int32.toUInt32 31)).toInt32) &&& 858993459))) >>> ((Int32.toUInt32 4) &&& Int32.toUInt32 31)).toInt32)) &&& 252645135)) >>> ((Int32.toUInt32 8) &&& Int32.toUInt32 31)).toInt32))) >>> ((Int32.toUInt32 16) &&& Int32.toUInt32 31)).toInt32))]) dJ6_bitCount_0f7a4_46 rfl (fun _ _ _ => rfl) ?_
  refine zf_st (pc' := 48) (L2 := [some (.inl (((((((v0 - ((((Int32.toUInt32 v0) >>> ((Int32.toUInt32 1) &&& Int32.toUInt32 31)).toInt32) &&& 1431655765)) &&& 858993459) + ((((Int32.toUInt32 (v0 - ((((Int32.toUInt32 v0) >>> ((Int32.toUInt32 1) &&& Int32.toUInt32 31)).toInt32) &&& 1431655765))) >>> ((Int32.toUInt32 2) &&& Int32.toUInt32 31)).toInt32) &&& 858993459)) + (((Int32.toUInt32 (((v0 - ((((Int32.toUInt32 v0) >>> ((Int32.toUInt32 1) &&& Int32.toUInt32 31)).toInt32) &&& 1431655765)) &&& 858993459) + ((((Int32.toUInt32 (v0 - ((((Int32.toUInt32 v0) >>> ((Int32.toUInt32 1) &&& Int32.toUInt32 31)).toInt32) &&& 1431655765))) >>> ((Int32.toUInt32 2) &&& Int32.toUInt32 31)).toInt32) &&& 858993459))) >>> ((Int32.toUInt32 4) &&& Int32.toUInt32 31)).toInt32)) &&& 252645135) + (((Int32.toUInt32 (((((v0 - ((((Int32.toUInt32 v0) >>> ((Int32.toUInt32 1) &&& Int32.toUInt32 31)).toInt32) &&& 1431655765)) &&& 858993459) + ((((Int32.toUInt32 (v0 - ((((Int32.toUInt32 v0) >>> ((Int32.toUInt32 1) &&& Int32.toUInt32 31)).toInt32) &&& 1431655765))) >>> ((Int32.toUInt32 2) &&& Int32.toUInt32 31)).toInt32) &&& 858993459)) + (((Int32.toUInt32 (((v0 - ((((Int32.toUInt32 v0) >>> ((Int32.toUInt32 1) &&& Int32.toUInt32 31)).toInt32) &&& 1431655765)) &&& 858993459) + ((((Int32.toUInt32 (v0 - ((((Int32.toUInt32 v0) >>> ((Int32.toUInt32 1) &&& Int32.toUInt32 31)).toInt32) &&& 1431655765))) >>> ((Int32.toUInt32 2) &&& Int32.toUInt32 31)).toInt32) &&& 858993459))) >>> ((Int32.toUInt32 4) &&& Int32.toUInt32 31)).toInt32)) &&& 252645135)) >>> ((Int32.toUInt32 8) &&& Int32.toUInt32 31)).toInt32)) + (((Int32.toUInt32 ((((((v0 - ((((Int32.toUInt32 v0) >>> ((Int32.toUInt32 1) &&& Int32.toUInt32 31)).toInt32) &&& 1431655765)) &&& 858993459) + ((((Int32.toUInt32 (v0 - ((((Int32.toUInt32 v0) >>> ((Int32.toUInt32 1) &&& Int32.toUInt32 31)).toInt32) &&& 1431655765))) >>> ((Int32.toUInt32 2) &&& Int32.toUInt32 31)).toInt32) &&& 858993459)) + (((Int32.toUInt32 (((v0 - ((((Int32.toUInt32 v0) >>> ((Int32.toUInt32 1) &&& Int32.toUInt32 31)).toInt32) &&& 1431655765)) &&& 858993459) + ((((Int32.toUInt32 (v0 - ((((Int32.toUInt32 v0) >>> ((Int32.toUInt32 1) &&& Int32.toUInt32 31)).toInt32) &&& 1431655765))) >>> ((Int32.toUInt32 2) &&& Int32.toUInt32 31)).toInt32) &&& 858993459))) >>> ((Int32.toUInt32 4) &&& Int32.toUInt32 31)).toInt32)) &&& 252645135) + (((Int32.toUInt32 (((((v0 - ((((Int32.toUInt32 v0) >>> ((Int32.toUInt32 1) &&& Int32.toUInt32 31)).toInt32) &&& 1431655765)) &&& 858993459) + ((((Int32.toUInt32 (v0 - ((((Int32.toUInt32 v0) >>> ((Int32.toUInt32 1) &&& Int32.toUInt32 31)).toInt32) &&& 1431655765))) >>> ((Int32.toUInt32 2) &&& Int32.toUInt32 31)).toInt32) &&& 858993459)) + (((Int32.toUInt32 (((v0 - ((((Int32.toUInt32 v0) >>> ((Int32.toUInt32 1) &&& Int32.toUInt32 31)).toInt32) &&& 1431655765)) &&& 858993459) + ((((Int32.toUInt32 (v0 - ((((Int32.toUInt32 v0) >>> ((Int32.toUInt32 1) &&& Int32.toUInt32 31)).toInt32) &&& 1431655765))) >>> ((Int32.toUInt32 2) &&& Int32.toUInt32 31)).toInt32) &&& 858993459))) >>> ((Int32.toUInt32 4) &&& Int32.toUInt32 31)).toInt32)) &&& 252645135)) >>> ((Int32.toUInt32 8) &&& Int32.toUInt32 31)).toInt32))) >>> ((Int32.toUInt32 16) &&& Int32.toUInt32 31)).toInt32)))]) dJ6_bitCount_0f7a4_47 rfl (fun _ _ _ => rfl) rfl rfl rfl rfl rfl rfl ?_
  refine zf_ld (pc' := 49) (v := .inl (((((((v0 - ((((Int32.toUInt32 v0) >>> ((Int32.toUInt32 1) &&& Int32.toUInt32 31)).toInt32) &&& 1431655765)) &&& 858993459) + ((((Int32.toUInt32 (v0 - ((((Int32.toUInt32 v0) >>> ((Int32.toUInt32 1) &&& Int32.toUInt32 31)).toInt32) &&& 1431655765))) >>> ((Int32.toUInt32 2) &&& Int32.toUInt32 31)).toInt32) &&& 858993459)) + (((Int32.toUInt32 (((v0 - ((((Int32.toUInt32 v0) >>> ((Int32.toUInt32 1) &&& Int32.toUInt32 31)).toInt32) &&& 1431655765)) &&& 858993459) + ((((Int32.toUInt32 (v0 - ((((Int32.toUInt32 v0) >>> ((Int32.toUInt32 1) &&& Int32.toUInt32 31)).toInt32) &&& 1431655765))) >>> ((Int32.toUInt32 2) &&& Int32.toUInt32 31)).toInt32) &&& 858993459))) >>> ((Int32.toUInt32 4) &&& Int32.toUInt32 31)).toInt32)) &&& 252645135) + (((Int32.toUInt32 (((((v0 - ((((Int32.toUInt32 v0) >>> ((Int32.toUInt32 1) &&& Int32.toUInt32 31)).toInt32) &&& 1431655765)) &&& 858993459) + ((((Int32.toUInt32 (v0 - ((((Int32.toUInt32 v0) >>> ((Int32.toUInt32 1) &&& Int32.toUInt32 31)).toInt32) &&& 1431655765))) >>> ((Int32.toUInt32 2) &&& Int32.toUInt32 31)).toInt32) &&& 858993459)) + (((Int32.toUInt32 (((v0 - ((((Int32.toUInt32 v0) >>> ((Int32.toUInt32 1) &&& Int32.toUInt32 31)).toInt32) &&& 1431655765)) &&& 858993459) + ((((Int32.toUInt32 (v0 - ((((Int32.toUInt32 v0) >>> ((Int32.toUInt32 1) &&& Int32.toUInt32 31)).toInt32) &&& 1431655765))) >>> ((Int32.toUInt32 2) &&& Int32.toUInt32 31)).toInt32) &&& 858993459))) >>> ((Int32.toUInt32 4) &&& Int32.toUInt32 31)).toInt32)) &&& 252645135)) >>> ((Int32.toUInt32 8) &&& Int32.toUInt32 31)).toInt32)) + (((Int32.toUInt32 ((((((v0 - ((((Int32.toUInt32 v0) >>> ((Int32.toUInt32 1) &&& Int32.toUInt32 31)).toInt32) &&& 1431655765)) &&& 858993459) + ((((Int32.toUInt32 (v0 - ((((Int32.toUInt32 v0) >>> ((Int32.toUInt32 1) &&& Int32.toUInt32 31)).toInt32) &&& 1431655765))) >>> ((Int32.toUInt32 2) &&& Int32.toUInt32 31)).toInt32) &&& 858993459)) + (((Int32.toUInt32 (((v0 - ((((Int32.toUInt32 v0) >>> ((Int32.toUInt32 1) &&& Int32.toUInt32 31)).toInt32) &&& 1431655765)) &&& 858993459) + ((((Int32.toUInt32 (v0 - ((((Int32.toUInt32 v0) >>> ((Int32.toUInt32 1) &&& Int32.toUInt32 31)).toInt32) &&& 1431655765))) >>> ((Int32.toUInt32 2) &&& Int32.toUInt32 31)).toInt32) &&& 858993459))) >>> ((Int32.toUInt32 4) &&& Int32.toUInt32 31)).toInt32)) &&& 252645135) + (((Int32.toUInt32 (((((v0 - ((((Int32.toUInt32 v0) >>> ((Int32.toUInt32 1) &&& Int32.toUInt32 31)).toInt32) &&& 1431655765)) &&& 858993459) + ((((Int32.toUInt32 (v0 - ((((Int32.toUInt32 v0) >>> ((Int32.toUInt32 1) &&& Int32.toUInt32 31)).toInt32) &&& 1431655765))) >>> ((Int32.toUInt32 2) &&& Int32.toUInt32 31)).toInt32) &&& 858993459)) + (((Int32.toUInt32 (((v0 - ((((Int32.toUInt32 v0) >>> ((Int32.toUInt32 1) &&& Int32.toUInt32 31)).toInt32) &&& 1431655765)) &&& 858993459) + ((((Int32.toUInt32 (v0 - ((((Int32.toUInt32 v0) >>> ((Int32.toUInt32 1) &&& Int32.toUInt32 31)).toInt32) &&& 1431655765))) >>> ((Int32.toUInt32 2) &&& Int32.toUInt32 31)).toInt32) &&& 858993459))) >>> ((Int32.toUInt32 4) &&& Int32.toUInt32 31)).toInt32)) &&& 252645135)) >>> ((Int32.toUInt32 8) &&& Int32.toUInt32 31)).toInt32))) >>> ((Int32.toUInt32 16) &&& Int32.toUInt32 31)).toInt32))) dJ6_bitCount_0f7a4_48 rfl (fun _ _ _ => rfl) rfl rfl rfl ?_
  refine zf_bi (v := 63) (pc' := 51) dJ6_bitCount_0f7a4_49 rfl rfl ?_
  refine zf_in (pc' := 52) (S' := [.inl ((((((((v0 - ((((Int32.toUInt32 v0) >>> ((Int32.toUInt32 1) &&& Int32.toUInt32 31)).toInt32) &&& 1431655765)) &&& 858993459) + ((((Int32.toUInt32 (v0 - ((((Int32.toUInt32 v0) >>> ((Int32.toUInt32 1) &&& Int32.toUInt32 31)).toInt32) &&& 1431655765))) >>> ((Int32.toUInt32 2) &&& Int32.toUInt32 31)).toInt32) &&& 858993459)) + (((Int32.toUInt32 (((v0 - ((((Int32.toUInt32 v0) >>> ((Int32.toUInt32 1) &&& Int32.toUInt32 31)).toInt32) &&& 1431655765)) &&& 858993459) + ((((Int32.toUInt32 (v0 - ((((Int32.toUInt32 v0) >>> ((Int32.toUInt32 1) &&& Int32.toUInt32 31)).toInt32) &&& 1431655765))) >>> ((Int32.toUInt32 2) &&& Int32.toUInt32 31)).toInt32) &&& 858993459))) >>> ((Int32.toUInt32 4) &&& Int32.toUInt32 31)).toInt32)) &&& 252645135) + (((Int32.toUInt32 (((((v0 - ((((Int32.toUInt32 v0) >>> ((Int32.toUInt32 1) &&& Int32.toUInt32 31)).toInt32) &&& 1431655765)) &&& 858993459) + ((((Int32.toUInt32 (v0 - ((((Int32.toUInt32 v0) >>> ((Int32.toUInt32 1) &&& Int32.toUInt32 31)).toInt32) &&& 1431655765))) >>> ((Int32.toUInt32 2) &&& Int32.toUInt32 31)).toInt32) &&& 858993459)) + (((Int32.toUInt32 (((v0 - ((((Int32.toUInt32 v0) >>> ((Int32.toUInt32 1) &&& Int32.toUInt32 31)).toInt32) &&& 1431655765)) &&& 858993459) + ((((Int32.toUInt32 (v0 - ((((Int32.toUInt32 v0) >>> ((Int32.toUInt32 1) &&& Int32.toUInt32 31)).toInt32) &&& 1431655765))) >>> ((Int32.toUInt32 2) &&& Int32.toUInt32 31)).toInt32) &&& 858993459))) >>> ((Int32.toUInt32 4) &&& Int32.toUInt32 31)).toInt32)) &&& 252645135)) >>> ((Int32.toUInt32 8) &&& Int32.toUInt32 31)).toInt32)) + (((Int32.toUInt32 ((((((v0 - ((((Int32.toUInt32 v0) >>> ((Int32.toUInt32 1) &&& Int32.toUInt32 31)).toInt32) &&& 1431655765)) &&& 858993459) + ((((Int32.toUInt32 (v0 - ((((Int32.toUInt32 v0) >>> ((Int32.toUInt32 1) &&& Int32.toUInt32 31)).toInt32) &&& 1431655765))) >>> ((Int32.toUInt32 2) &&& Int32.toUInt32 31)).toInt32) &&& 858993459)) + (((Int32.toUInt32 (((v0 - ((((Int32.toUInt32 v0) >>> ((Int32.toUInt32 1) &&& Int32.toUInt32 31)).toInt32) &&& 1431655765)) &&& 858993459) + ((((Int32.toUInt32 (v0 - ((((Int32.toUInt32 v0) >>> ((Int32.toUInt32 1) &&& Int32.toUInt32 31)).toInt32) &&& 1431655765))) >>> ((Int32.toUInt32 2) &&& Int32.toUInt32 31)).toInt32) &&& 858993459))) >>> ((Int32.toUInt32 4) &&& Int32.toUInt32 31)).toInt32)) &&& 252645135) + (((Int32.toUInt32 (((((v0 - ((((Int32.toUInt32 v0) >>> ((Int32.toUInt32 1) &&& Int32.toUInt32 31)).toInt32) &&& 1431655765)) &&& 858993459) + ((((Int32.toUInt32 (v0 - ((((Int32.toUInt32 v0) >>> ((Int32.toUInt32 1) &&& Int32.toUInt32 31)).toInt32) &&& 1431655765))) >>> ((Int32.toUInt32 2) &&& Int32.toUInt32 31)).toInt32) &&& 858993459)) + (((Int32.toUInt32 (((v0 - ((((Int32.toUInt32 v0) >>> ((Int32.toUInt32 1) &&& Int32.toUInt32 31)).toInt32) &&& 1431655765)) &&& 858993459) + ((((Int32.toUInt32 (v0 - ((((Int32.toUInt32 v0) >>> ((Int32.toUInt32 1) &&& Int32.toUInt32 31)).toInt32) &&& 1431655765))) >>> ((Int32.toUInt32 2) &&& Int32.toUInt32 31)).toInt32) &&& 858993459))) >>> ((Int32.toUInt32 4) &&& Int32.toUInt32 31)).toInt32)) &&& 252645135)) >>> ((Int32.toUInt32 8) &&& Int32.toUInt32 31)).toInt32))) >>> ((Int32.toUInt32 16) &&& Int32.toUInt32 31)).toInt32)) &&& 63)]) dJ6_bitCount_0f7a4_51 rfl (fun _ _ _ => rfl) ?_
  exact zf_ri dJ6_bitCount_0f7a4_52 rfl h
def zt_120 : zx_MT := (7, yX7_nthBit, cX7_nthBit, 4, (some FieldType.int), 2, 1)
theorem zm_120 : zx_m 120 = zt_120 := rfl
theorem dX7_nthBit_r0 : zdcP cX7_nthBit 0 [(.iload_n 1, 1), (.istore_n 2, 1), (.iconst 0, 1), (.istore_n 3, 1), (.iload_n 3, 1), (.bipush 10, 2), (.if_icmp .ge 26, 3), (.iload_n 0, 1), (.iload_n 3, 1), (.ishr, 1), (.iconst 1, 1), (.iand, 1), (.ifCond .eq 12, 3), (.iload_n 2, 1), (.ifCond .ne 5, 3), (.iload_n 3, 1)] := zdcA_ok (by decide +kernel)
theorem dX7_nthBit_0 : decode cX7_nthBit 0 = .ok (.iload_n 1, 1) := dX7_nthBit_r0.1
theorem dX7_nthBit_1 : decode cX7_nthBit 1 = .ok (.istore_n 2, 1) := dX7_nthBit_r0.2.1
theorem dX7_nthBit_2 : decode cX7_nthBit 2 = .ok (.iconst 0, 1) := dX7_nthBit_r0.2.2.1
theorem dX7_nthBit_3 : decode cX7_nthBit 3 = .ok (.istore_n 3, 1) := dX7_nthBit_r0.2.2.2.1
theorem dX7_nthBit_4 : decode cX7_nthBit 4 = .ok (.iload_n 3, 1) := dX7_nthBit_r0.2.2.2.2.1
theorem dX7_nthBit_5 : decode cX7_nthBit 5 = .ok (.bipush 10, 2) := dX7_nthBit_r0.2.2.2.2.2.1
theorem dX7_nthBit_7 : decode cX7_nthBit 7 = .ok (.if_icmp .ge 26, 3) := dX7_nthBit_r0.2.2.2.2.2.2.1
theorem dX7_nthBit_10 : decode cX7_nthBit 10 = .ok (.iload_n 0, 1) := dX7_nthBit_r0.2.2.2.2.2.2.2.1
theorem dX7_nthBit_11 : decode cX7_nthBit 11 = .ok (.iload_n 3, 1) := dX7_nthBit_r0.2.2.2.2.2.2.2.2.1
theorem dX7_nthBit_12 : decode cX7_nthBit 12 = .ok (.ishr, 1) := dX7_nthBit_r0.2.2.2.2.2.2.2.2.2.1
theorem dX7_nthBit_13 : decode cX7_nthBit 13 = .ok (.iconst 1, 1) := dX7_nthBit_r0.2.2.2.2.2.2.2.2.2.2.1
theorem dX7_nthBit_14 : decode cX7_nthBit 14 = .ok (.iand, 1) := dX7_nthBit_r0.2.2.2.2.2.2.2.2.2.2.2.1
theorem dX7_nthBit_15 : decode cX7_nthBit 15 = .ok (.ifCond .eq 12, 3) := dX7_nthBit_r0.2.2.2.2.2.2.2.2.2.2.2.2.1
theorem dX7_nthBit_18 : decode cX7_nthBit 18 = .ok (.iload_n 2, 1) := dX7_nthBit_r0.2.2.2.2.2.2.2.2.2.2.2.2.2.1
theorem dX7_nthBit_19 : decode cX7_nthBit 19 = .ok (.ifCond .ne 5, 3) := dX7_nthBit_r0.2.2.2.2.2.2.2.2.2.2.2.2.2.2.1
theorem dX7_nthBit_22 : decode cX7_nthBit 22 = .ok (.iload_n 3, 1) := dX7_nthBit_r0.2.2.2.2.2.2.2.2.2.2.2.2.2.2.2.1
theorem dX7_nthBit_r23 : zdcP cX7_nthBit 23 [(.ireturn, 1), (.iinc 2 (-1), 3), (.iinc 3 1, 3), (.goto (-26), 3), (.iconst (-1), 1), (.ireturn, 1)] := zdcA_ok (by decide +kernel)
theorem dX7_nthBit_23 : decode cX7_nthBit 23 = .ok (.ireturn, 1) := dX7_nthBit_r23.1
theorem dX7_nthBit_24 : decode cX7_nthBit 24 = .ok (.iinc 2 (-1), 3) := dX7_nthBit_r23.2.1
theorem dX7_nthBit_27 : decode cX7_nthBit 27 = .ok (.iinc 3 1, 3) := dX7_nthBit_r23.2.2.1
theorem dX7_nthBit_30 : decode cX7_nthBit 30 = .ok (.goto (-26), 3) := dX7_nthBit_r23.2.2.2.1
theorem dX7_nthBit_33 : decode cX7_nthBit 33 = .ok (.iconst (-1), 1) := dX7_nthBit_r23.2.2.2.2.1
theorem dX7_nthBit_34 : decode cX7_nthBit 34 = .ok (.ireturn, 1) := dX7_nthBit_r23.2.2.2.2.2.1
def wq_120_4 (v0 : Int32) (v1 : Int32) (Q : Int32 → zf_Me → Prop) : Nat → Int32 → Int32 → zf_Me → Prop
  | 0, _, _, _ => False
  | n + 1, v2, v3, m => ((v3.toInt ≥ 10 → Q (-1) m) ∧ (v3.toInt < 10 → (((((v0 >>> (v3 &&& 31)) &&& 1)).toInt = 0 → wq_120_4 v0 v1 Q n v2 (v3 + 1) m) ∧ (¬ (((v0 >>> (v3 &&& 31)) &&& 1)).toInt = 0 → ((¬ v2.toInt = 0 → wq_120_4 v0 v1 Q n (v2 + (-1)) (v3 + 1) m) ∧ (v2.toInt = 0 → Q v3 m))))))
theorem zq_120_4 {d : Nat} (hd : 0 ≤ d) {v0 : Int32} {v1 : Int32} {Q : Int32 → zf_Me → Prop} : ∀ (n : Nat) (v2 : Int32) (v3 : Int32) (m : zf_Me), wq_120_4 v0 v1 Q n v2 v3 m → zf_W none 0 0 d zt_120 4 [some (.inl v0), none, some (.inl v2), some (.inl v3)] [] m (zf_I Q) := by
  intro n
  induction n with
  | zero =>
    intro v2 v3 m h
    exact h.elim
  | succ n ih =>
    intro v2 v3 m h
    unfold wq_120_4 at h
    refine zf_ld (pc' := 5) (v := .inl v3) dX7_nthBit_4 rfl (fun _ _ _ => rfl) rfl rfl rfl ?_
    refine zf_bi (v := 10) (pc' := 7) dX7_nthBit_5 rfl rfl ?_
    refine zf_icmp_ge (tgt := 33) (pc' := 10) dX7_nthBit_7 rfl rfl (fun g => ?_) (fun g => ?_)
    · replace h := h.1 g
      refine zf_ic (v := (-1)) (pc' := 34) dX7_nthBit_33 rfl rfl ?_
      exact zf_ri dX7_nthBit_34 rfl h
    · replace h := h.2 g
      refine zf_ld (pc' := 11) (v := .inl v0) dX7_nthBit_10 rfl (fun _ _ _ => rfl) rfl rfl rfl ?_
      refine zf_ld (pc' := 12) (v := .inl v3) dX7_nthBit_11 rfl (fun _ _ _ => rfl) rfl rfl rfl ?_
      refine zf_in (pc' := 13) (S' := [.inl (v0 >>> (v3 &&& 31))]) dX7_nthBit_12 rfl (fun _ _ _ => rfl) ?_
      refine zf_ic (v := 1) (pc' := 14) dX7_nthBit_13 rfl rfl ?_
      refine zf_in (pc' := 15) (S' := [.inl ((v0 >>> (v3 &&& 31)) &&& 1)]) dX7_nthBit_14 rfl (fun _ _ _ => rfl) ?_
      refine zf_if_eq (tgt := 27) (pc' := 18) dX7_nthBit_15 rfl rfl (fun g => ?_) (fun g => ?_)
      · replace h := h.1 g
        refine zf_ii (y := (v3 + 1)) (L2 := [some (.inl v0), none, some (.inl v2), some (.inl (v3 + 1))]) (pc' := 30) dX7_nthBit_27 rfl rfl rfl rfl rfl ?_
        refine zf_goto (tgt := 4) dX7_nthBit_30 rfl ?_
        exact zf_lo (ih _ _ _ h) ⟨rfl, rfl, rfl, trivial⟩
      · replace h := h.2 g
        refine zf_ld (pc' := 19) (v := .inl v2) dX7_nthBit_18 rfl (fun _ _ _ => rfl) rfl rfl rfl ?_
        refine zf_if_ne (tgt := 24) (pc' := 22) dX7_nthBit_19 rfl rfl (fun g => ?_) (fun g => ?_)
        · replace h := h.1 g
          refine zf_ii (y := (v2 + (-1))) (L2 := [some (.inl v0), none, some (.inl (v2 + (-1))), some (.inl v3)]) (pc' := 27) dX7_nthBit_24 rfl rfl rfl rfl rfl ?_
          refine zf_ii (y := (v3 + 1)) (L2 := [some (.inl v0), none, some (.inl (v2 + (-1))), some (.inl (v3 + 1))]) (pc' := 30) dX7_nthBit_27 rfl rfl rfl rfl rfl ?_
          refine zf_goto (tgt := 4) dX7_nthBit_30 rfl ?_
          exact zf_lo (ih _ _ _ h) ⟨rfl, rfl, rfl, trivial⟩
        · replace h := h.2 g
          refine zf_ld (pc' := 23) (v := .inl v3) dX7_nthBit_22 rfl (fun _ _ _ => rfl) rfl rfl rfl ?_
          exact zf_ri dX7_nthBit_23 rfl h
def wp_120 (v0 : Int32) (v1 : Int32) (m : zf_Me) (Q : Int32 → zf_Me → Prop) : Prop := (∃ n4, wq_120_4 v0 v1 Q n4 v1 0 m)
theorem zr_120 {d : Nat} (hd : 0 ≤ d) {v0 : Int32} {v1 : Int32} {Q : Int32 → zf_Me → Prop} {m : zf_Me} (h : wp_120 v0 v1 m Q) : zf_M d 120 [.inl v0, .inl v1] m (zf_I Q) := by
  unfold wp_120 at h
  refine zf_M_of (Nat.le_of_ble_eq_true rfl) zm_120 (L := [some (.inl v0), some (.inl v1), none, none]) rfl ?_
  refine zf_ld (pc' := 1) (v := .inl v1) dX7_nthBit_0 rfl (fun _ _ _ => rfl) rfl rfl rfl ?_
  refine zf_st (pc' := 2) (L2 := [some (.inl v0), some (.inl v1), some (.inl v1), none]) dX7_nthBit_1 rfl (fun _ _ _ => rfl) rfl rfl rfl rfl rfl rfl ?_
  refine zf_ic (v := 0) (pc' := 3) dX7_nthBit_2 rfl rfl ?_
  refine zf_st (pc' := 4) (L2 := [some (.inl v0), some (.inl v1), some (.inl v1), some (.inl 0)]) dX7_nthBit_3 rfl (fun _ _ _ => rfl) rfl rfl rfl rfl rfl rfl ?_
  obtain ⟨n4, h⟩ := h
  exact zf_lo (zq_120_4 (by omega) n4 _ _ _ h) ⟨rfl, rfl, rfl, trivial⟩
def zt_101 : zx_MT := (7, yX7_summer, cX7_summer, 5, (some FieldType.int), 1, 0)
theorem zm_101 : zx_m 101 = zt_101 := rfl
theorem dX7_summer_r0 : zdcP cX7_summer 0 [(.iload_n 1, 1), (.iconst 1, 1), (.if_icmp .lt 9, 3), (.iload_n 1, 1), (.bipush 60, 2), (.if_icmp .le 10, 3), (.aload_n 0, 1), (.bipush 6, 2), (.invokevirtual 82, 3), (.ireturn, 1), (.aload_n 0, 1), (.getfield 23, 3), (.getfield 221, 3), (.istore_n 2, 1), (.iconst 0, 1), (.istore_n 3, 1)] := zdcA_ok (by decide +kernel)
theorem dX7_summer_0 : decode cX7_summer 0 = .ok (.iload_n 1, 1) := dX7_summer_r0.1
theorem dX7_summer_1 : decode cX7_summer 1 = .ok (.iconst 1, 1) := dX7_summer_r0.2.1
theorem dX7_summer_2 : decode cX7_summer 2 = .ok (.if_icmp .lt 9, 3) := dX7_summer_r0.2.2.1
theorem dX7_summer_5 : decode cX7_summer 5 = .ok (.iload_n 1, 1) := dX7_summer_r0.2.2.2.1
theorem dX7_summer_6 : decode cX7_summer 6 = .ok (.bipush 60, 2) := dX7_summer_r0.2.2.2.2.1
theorem dX7_summer_8 : decode cX7_summer 8 = .ok (.if_icmp .le 10, 3) := dX7_summer_r0.2.2.2.2.2.1
theorem dX7_summer_11 : decode cX7_summer 11 = .ok (.aload_n 0, 1) := dX7_summer_r0.2.2.2.2.2.2.1
theorem dX7_summer_12 : decode cX7_summer 12 = .ok (.bipush 6, 2) := dX7_summer_r0.2.2.2.2.2.2.2.1
theorem dX7_summer_14 : decode cX7_summer 14 = .ok (.invokevirtual 82, 3) := dX7_summer_r0.2.2.2.2.2.2.2.2.1
theorem dX7_summer_17 : decode cX7_summer 17 = .ok (.ireturn, 1) := dX7_summer_r0.2.2.2.2.2.2.2.2.2.1
theorem dX7_summer_18 : decode cX7_summer 18 = .ok (.aload_n 0, 1) := dX7_summer_r0.2.2.2.2.2.2.2.2.2.2.1
theorem dX7_summer_19 : decode cX7_summer 19 = .ok (.getfield 23, 3) := dX7_summer_r0.2.2.2.2.2.2.2.2.2.2.2.1
theorem dX7_summer_22 : decode cX7_summer 22 = .ok (.getfield 221, 3) := dX7_summer_r0.2.2.2.2.2.2.2.2.2.2.2.2.1
theorem dX7_summer_25 : decode cX7_summer 25 = .ok (.istore_n 2, 1) := dX7_summer_r0.2.2.2.2.2.2.2.2.2.2.2.2.2.1
theorem dX7_summer_26 : decode cX7_summer 26 = .ok (.iconst 0, 1) := dX7_summer_r0.2.2.2.2.2.2.2.2.2.2.2.2.2.2.1
theorem dX7_summer_27 : decode cX7_summer 27 = .ok (.istore_n 3, 1) := dX7_summer_r0.2.2.2.2.2.2.2.2.2.2.2.2.2.2.2.1
theorem dX7_summer_r28 : zdcP cX7_summer 28 [(.iload_n 3, 1), (.iload_n 1, 1), (.if_icmp .ge 44, 3), (.aload_n 0, 1), (.invokevirtual 290, 3), (.istore 4, 2), (.iload 4, 2), (.ifCond .eq 27, 3), (.aload_n 0, 1), (.getfield 23, 3), (.iload 4, 2), (.aload_n 0, 1), (.getfield 23, 3), (.iload 4, 2), (.invokestatic 293, 3), (.invokevirtual 298, 3)] := zdcA_ok (by decide +kernel)
theorem dX7_summer_28 : decode cX7_summer 28 = .ok (.iload_n 3, 1) := dX7_summer_r28.1
theorem dX7_summer_29 : decode cX7_summer 29 = .ok (.iload_n 1, 1) := dX7_summer_r28.2.1
theorem dX7_summer_30 : decode cX7_summer 30 = .ok (.if_icmp .ge 44, 3) := dX7_summer_r28.2.2.1
theorem dX7_summer_33 : decode cX7_summer 33 = .ok (.aload_n 0, 1) := dX7_summer_r28.2.2.2.1
theorem dX7_summer_34 : decode cX7_summer 34 = .ok (.invokevirtual 290, 3) := dX7_summer_r28.2.2.2.2.1
theorem dX7_summer_37 : decode cX7_summer 37 = .ok (.istore 4, 2) := dX7_summer_r28.2.2.2.2.2.1
theorem dX7_summer_39 : decode cX7_summer 39 = .ok (.iload 4, 2) := dX7_summer_r28.2.2.2.2.2.2.1
theorem dX7_summer_41 : decode cX7_summer 41 = .ok (.ifCond .eq 27, 3) := dX7_summer_r28.2.2.2.2.2.2.2.1
theorem dX7_summer_44 : decode cX7_summer 44 = .ok (.aload_n 0, 1) := dX7_summer_r28.2.2.2.2.2.2.2.2.1
theorem dX7_summer_45 : decode cX7_summer 45 = .ok (.getfield 23, 3) := dX7_summer_r28.2.2.2.2.2.2.2.2.2.1
theorem dX7_summer_48 : decode cX7_summer 48 = .ok (.iload 4, 2) := dX7_summer_r28.2.2.2.2.2.2.2.2.2.2.1
theorem dX7_summer_50 : decode cX7_summer 50 = .ok (.aload_n 0, 1) := dX7_summer_r28.2.2.2.2.2.2.2.2.2.2.2.1
theorem dX7_summer_51 : decode cX7_summer 51 = .ok (.getfield 23, 3) := dX7_summer_r28.2.2.2.2.2.2.2.2.2.2.2.2.1
theorem dX7_summer_54 : decode cX7_summer 54 = .ok (.iload 4, 2) := dX7_summer_r28.2.2.2.2.2.2.2.2.2.2.2.2.2.1
theorem dX7_summer_56 : decode cX7_summer 56 = .ok (.invokestatic 293, 3) := dX7_summer_r28.2.2.2.2.2.2.2.2.2.2.2.2.2.2.1
theorem dX7_summer_59 : decode cX7_summer 59 = .ok (.invokevirtual 298, 3) := dX7_summer_r28.2.2.2.2.2.2.2.2.2.2.2.2.2.2.2.1
theorem dX7_summer_r62 : zdcP cX7_summer 62 [(.invokestatic 301, 3), (.invokevirtual 264, 3), (.iinc 3 1, 3), (.goto (-43), 3), (.aload_n 0, 1), (.getfield 23, 3), (.getfield 221, 3), (.iload_n 2, 1), (.isub, 1), (.ireturn, 1)] := zdcA_ok (by decide +kernel)
theorem dX7_summer_62 : decode cX7_summer 62 = .ok (.invokestatic 301, 3) := dX7_summer_r62.1
theorem dX7_summer_65 : decode cX7_summer 65 = .ok (.invokevirtual 264, 3) := dX7_summer_r62.2.1
theorem dX7_summer_68 : decode cX7_summer 68 = .ok (.iinc 3 1, 3) := dX7_summer_r62.2.2.1
theorem dX7_summer_71 : decode cX7_summer 71 = .ok (.goto (-43), 3) := dX7_summer_r62.2.2.2.1
theorem dX7_summer_74 : decode cX7_summer 74 = .ok (.aload_n 0, 1) := dX7_summer_r62.2.2.2.2.1
theorem dX7_summer_75 : decode cX7_summer 75 = .ok (.getfield 23, 3) := dX7_summer_r62.2.2.2.2.2.1
theorem dX7_summer_78 : decode cX7_summer 78 = .ok (.getfield 221, 3) := dX7_summer_r62.2.2.2.2.2.2.1
theorem dX7_summer_81 : decode cX7_summer 81 = .ok (.iload_n 2, 1) := dX7_summer_r62.2.2.2.2.2.2.2.1
theorem dX7_summer_82 : decode cX7_summer 82 = .ok (.isub, 1) := dX7_summer_r62.2.2.2.2.2.2.2.2.1
theorem dX7_summer_83 : decode cX7_summer 83 = .ok (.ireturn, 1) := dX7_summer_r62.2.2.2.2.2.2.2.2.2.1
def wq_101_28 (v1 : Int32) (Q : Int32 → zf_Me → Prop) : Nat → Int32 → Int32 → zf_Me → Prop
  | 0, _, _, _ => False
  | n + 1, v2, v3, m => ((v3.toInt ≥ v1.toInt → Q ((m.1 2 10) - v2) m) ∧ (v3.toInt < v1.toInt → wp_86 m (fun x3 m4 => ((x3.toInt = 0 → wq_101_28 v1 Q n v2 (v3 + 1) m4) ∧ (¬ x3.toInt = 0 → wp_211 x3 m4 (fun x5 m6 => wp_61 2 3 8 x5 m6 (fun x7 m8 => wp_120 x3 x7 m8 (fun x9 m10 => wp_56 2 3 8 x9 m10 (fun m12 => wq_101_28 v1 Q n v2 (v3 + 1) m12)))))))))
theorem zq_101_28 {d : Nat} (hd : 4 ≤ d) {v1 : Int32} {Q : Int32 → zf_Me → Prop} : ∀ (n : Nat) (v2 : Int32) (v3 : Int32) (m : zf_Me), wq_101_28 v1 Q n v2 v3 m → zf_W none 0 0 d zt_101 28 [some (.inr (.inr (1, 0))), some (.inl v1), some (.inl v2), some (.inl v3), none] [] m (zf_I Q) := by
  obtain ⟨e, rfl⟩ : ∃ z, d = z + 1 := ⟨d - 1, by omega⟩
  intro n
  induction n with
  | zero =>
    intro v2 v3 m h
    exact h.elim
  | succ n ih =>
    intro v2 v3 m h
    unfold wq_101_28 at h
    refine zf_ld (pc' := 29) (v := .inl v3) dX7_summer_28 rfl (fun _ _ _ => rfl) rfl rfl rfl ?_
    refine zf_ld (pc' := 30) (v := .inl v1) dX7_summer_29 rfl (fun _ _ _ => rfl) rfl rfl rfl ?_
    refine zf_icmp_ge (tgt := 74) (pc' := 33) dX7_summer_30 rfl rfl (fun g => ?_) (fun g => ?_)
    · replace h := h.1 g
      refine zf_ld (pc' := 75) (v := .inr (.inr (1, 0))) dX7_summer_74 rfl (fun _ _ _ => rfl) rfl rfl rfl ?_
      refine zf_gfr (pc' := 78) (b := 2) dX7_summer_75 rfl rfl (by decide) rfl rfl ?_
      refine zf_gfi (pc' := 81) dX7_summer_78 rfl rfl zf_walk2.1 zf_walk2.2.1 rfl ?_
      refine zf_ld (pc' := 82) (v := .inl v2) dX7_summer_81 rfl (fun _ _ _ => rfl) rfl rfl rfl ?_
      refine zf_in (pc' := 83) (S' := [.inl ((m.1 2 10) - v2)]) dX7_summer_82 rfl (fun _ _ _ => rfl) ?_
      exact zf_ri dX7_summer_83 rfl h
    · replace h := h.2 g
      refine zf_ld (pc' := 34) (v := .inr (.inr (1, 0))) dX7_summer_33 rfl (fun _ _ _ => rfl) rfl rfl rfl ?_
      refine zf_iv (k := 86) (pc' := 37) (r := []) dX7_summer_34 rfl rfl rfl rfl (by decide) rfl rfl rfl (zr_86 (by omega) h) (zf_kI (fun x3 m4 h => ?_))
      refine zf_st (pc' := 39) (L2 := [some (.inr (.inr (1, 0))), some (.inl v1), some (.inl v2), some (.inl v3), some (.inl x3)]) dX7_summer_37 rfl (fun _ _ _ => rfl) rfl rfl rfl rfl rfl rfl ?_
      refine zf_ld (pc' := 41) (v := .inl x3) dX7_summer_39 rfl (fun _ _ _ => rfl) rfl rfl rfl ?_
      refine zf_if_eq (tgt := 68) (pc' := 44) dX7_summer_41 rfl rfl (fun g => ?_) (fun g => ?_)
      · replace h := h.1 g
        refine zf_ii (y := (v3 + 1)) (L2 := [some (.inr (.inr (1, 0))), some (.inl v1), some (.inl v2), some (.inl (v3 + 1)), some (.inl x3)]) (pc' := 71) dX7_summer_68 rfl rfl rfl rfl rfl ?_
        refine zf_goto (tgt := 28) dX7_summer_71 rfl ?_
        exact zf_lo (ih _ _ _ h) ⟨rfl, rfl, rfl, rfl, trivial⟩
      · replace h := h.2 g
        refine zf_ld (pc' := 45) (v := .inr (.inr (1, 0))) dX7_summer_44 rfl (fun _ _ _ => rfl) rfl rfl rfl ?_
        refine zf_gfr (pc' := 48) (b := 2) dX7_summer_45 rfl rfl (by decide) rfl rfl ?_
        refine zf_ld (pc' := 50) (v := .inl x3) dX7_summer_48 rfl (fun _ _ _ => rfl) rfl rfl rfl ?_
        refine zf_ld (pc' := 51) (v := .inr (.inr (1, 0))) dX7_summer_50 rfl (fun _ _ _ => rfl) rfl rfl rfl ?_
        refine zf_gfr (pc' := 54) (b := 2) dX7_summer_51 rfl rfl (by decide) rfl rfl ?_
        refine zf_ld (pc' := 56) (v := .inl x3) dX7_summer_54 rfl (fun _ _ _ => rfl) rfl rfl rfl ?_
        refine zf_is (k := 211) (pc' := 59) (r := [.inr (.inr (1, 2)), .inl x3, .inr (.inr (1, 2))]) dX7_summer_56 rfl rfl rfl rfl rfl (zr_211 (by omega) h) (zf_kI (fun x5 m6 h => ?_))
        refine zf_iv (k := 61) (pc' := 62) (r := [.inl x3, .inr (.inr (1, 2))]) dX7_summer_59 rfl rfl rfl rfl zf_walk2.1 zf_walk2.2.1 rfl rfl (zr_61 (by omega) zf_walk2 h) (zf_kI (fun x7 m8 h => ?_))
        refine zf_is (k := 120) (pc' := 65) (r := [.inr (.inr (1, 2))]) dX7_summer_62 rfl rfl rfl rfl rfl (zr_120 (by omega) h) (zf_kI (fun x9 m10 h => ?_))
        refine zf_iv (k := 56) (pc' := 68) (r := []) dX7_summer_65 rfl rfl rfl rfl zf_walk2.1 zf_walk2.2.1 rfl rfl (zr_56 (by omega) zf_walk2 h) (zf_kO (fun m12 h => ?_))
        refine zf_ii (y := (v3 + 1)) (L2 := [some (.inr (.inr (1, 0))), some (.inl v1), some (.inl v2), some (.inl (v3 + 1)), some (.inl x3)]) (pc' := 71) dX7_summer_68 rfl rfl rfl rfl rfl ?_
        refine zf_goto (tgt := 28) dX7_summer_71 rfl ?_
        exact zf_lo (ih _ _ _ h) ⟨rfl, rfl, rfl, rfl, trivial⟩
def wp_101 (v1 : Int32) (m : zf_Me) (Q : Int32 → zf_Me → Prop) : Prop := ((v1.toInt < 1 → wp_109 6 m (fun x1 m2 => Q x1 m2)) ∧ (v1.toInt ≥ 1 → ((v1.toInt ≤ 60 → (∃ n28, wq_101_28 v1 Q n28 (m.1 2 10) 0 m)) ∧ (v1.toInt > 60 → wp_109 6 m (fun x13 m14 => Q x13 m14)))))
theorem zr_101 {d : Nat} (hd : 4 ≤ d) {v1 : Int32} {Q : Int32 → zf_Me → Prop} {m : zf_Me} (h : wp_101 v1 m Q) : zf_M d 101 [.inr (.inr (1, 0)), .inl v1] m (zf_I Q) := by
  obtain ⟨e, rfl⟩ : ∃ z, d = z + 1 := ⟨d - 1, by omega⟩
  unfold wp_101 at h
  refine zf_M_of (Nat.le_of_ble_eq_true rfl) zm_101 (L := [some (.inr (.inr (1, 0))), some (.inl v1), none, none, none]) rfl ?_
  refine zf_ld (pc' := 1) (v := .inl v1) dX7_summer_0 rfl (fun _ _ _ => rfl) rfl rfl rfl ?_
  refine zf_ic (v := 1) (pc' := 2) dX7_summer_1 rfl rfl ?_
  refine zf_icmp_lt (tgt := 11) (pc' := 5) dX7_summer_2 rfl rfl (fun g => ?_) (fun g => ?_)
  · replace h := h.1 g
    refine zf_ld (pc' := 12) (v := .inr (.inr (1, 0))) dX7_summer_11 rfl (fun _ _ _ => rfl) rfl rfl rfl ?_
    refine zf_bi (v := 6) (pc' := 14) dX7_summer_12 rfl rfl ?_
    refine zf_iv (k := 109) (pc' := 17) (r := []) dX7_summer_14 rfl rfl rfl rfl (by decide) rfl rfl rfl (zr_109 (by omega) h) (zf_kI (fun x1 m2 h => ?_))
    exact zf_ri dX7_summer_17 rfl h
  · replace h := h.2 g
    refine zf_ld (pc' := 6) (v := .inl v1) dX7_summer_5 rfl (fun _ _ _ => rfl) rfl rfl rfl ?_
    refine zf_bi (v := 60) (pc' := 8) dX7_summer_6 rfl rfl ?_
    refine zf_icmp_le (tgt := 18) (pc' := 11) dX7_summer_8 rfl rfl (fun g => ?_) (fun g => ?_)
    · replace h := h.1 g
      refine zf_ld (pc' := 19) (v := .inr (.inr (1, 0))) dX7_summer_18 rfl (fun _ _ _ => rfl) rfl rfl rfl ?_
      refine zf_gfr (pc' := 22) (b := 2) dX7_summer_19 rfl rfl (by decide) rfl rfl ?_
      refine zf_gfi (pc' := 25) dX7_summer_22 rfl rfl zf_walk2.1 zf_walk2.2.1 rfl ?_
      refine zf_st (pc' := 26) (L2 := [some (.inr (.inr (1, 0))), some (.inl v1), some (.inl (m.1 2 10)), none, none]) dX7_summer_25 rfl (fun _ _ _ => rfl) rfl rfl rfl rfl rfl rfl ?_
      refine zf_ic (v := 0) (pc' := 27) dX7_summer_26 rfl rfl ?_
      refine zf_st (pc' := 28) (L2 := [some (.inr (.inr (1, 0))), some (.inl v1), some (.inl (m.1 2 10)), some (.inl 0), none]) dX7_summer_27 rfl (fun _ _ _ => rfl) rfl rfl rfl rfl rfl rfl ?_
      obtain ⟨n28, h⟩ := h
      exact zf_lo (zq_101_28 (by omega) n28 _ _ _ h) ⟨rfl, rfl, rfl, rfl, trivial⟩
    · replace h := h.2 g
      refine zf_ld (pc' := 12) (v := .inr (.inr (1, 0))) dX7_summer_11 rfl (fun _ _ _ => rfl) rfl rfl rfl ?_
      refine zf_bi (v := 6) (pc' := 14) dX7_summer_12 rfl rfl ?_
      refine zf_iv (k := 109) (pc' := 17) (r := []) dX7_summer_14 rfl rfl rfl rfl (by decide) rfl rfl rfl (zr_109 (by omega) h) (zf_kI (fun x13 m14 h => ?_))
      exact zf_ri dX7_summer_17 rfl h
