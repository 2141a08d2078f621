section
/-! part 33: methods 95..: laid by wip/flat/dec.py -/
def zt_95 : zx_MT := (7, yX7_behind, cX7_behind, 5, (some FieldType.int), 3, 0)
theorem zm_95 : zx_m 95 = zt_95 := rfl
theorem dX7_behind_r0 : zdcP cX7_behind 0 [(.aload_n 0, 1), (.iload_n 1, 1), (.iload_n 2, 1), (.invokevirtual 267, 3), (.istore 4, 2), (.iload 4, 2), (.ifCond .eq 10, 3), (.iload 4, 2), (.bipush 6, 2), (.if_icmp .ne 15, 3), (.iload_n 3, 1), (.ifCond .lt 8, 3), (.iload_n 3, 1), (.iconst 3, 1), (.if_icmp .le 6, 3), (.iconst 5, 1)] := zdcA_ok (by decide +kernel)
theorem dX7_behind_0 : decode cX7_behind 0 = .ok (.aload_n 0, 1) := dX7_behind_r0.1
theorem dX7_behind_1 : decode cX7_behind 1 = .ok (.iload_n 1, 1) := dX7_behind_r0.2.1
theorem dX7_behind_2 : decode cX7_behind 2 = .ok (.iload_n 2, 1) := dX7_behind_r0.2.2.1
theorem dX7_behind_3 : decode cX7_behind 3 = .ok (.invokevirtual 267, 3) := dX7_behind_r0.2.2.2.1
theorem dX7_behind_6 : decode cX7_behind 6 = .ok (.istore 4, 2) := dX7_behind_r0.2.2.2.2.1
theorem dX7_behind_8 : decode cX7_behind 8 = .ok (.iload 4, 2) := dX7_behind_r0.2.2.2.2.2.1
theorem dX7_behind_10 : decode cX7_behind 10 = .ok (.ifCond .eq 10, 3) := dX7_behind_r0.2.2.2.2.2.2.1
theorem dX7_behind_13 : decode cX7_behind 13 = .ok (.iload 4, 2) := dX7_behind_r0.2.2.2.2.2.2.2.1
theorem dX7_behind_15 : decode cX7_behind 15 = .ok (.bipush 6, 2) := dX7_behind_r0.2.2.2.2.2.2.2.2.1
theorem dX7_behind_17 : decode cX7_behind 17 = .ok (.if_icmp .ne 15, 3) := dX7_behind_r0.2.2.2.2.2.2.2.2.2.1
theorem dX7_behind_20 : decode cX7_behind 20 = .ok (.iload_n 3, 1) := dX7_behind_r0.2.2.2.2.2.2.2.2.2.2.1
theorem dX7_behind_21 : decode cX7_behind 21 = .ok (.ifCond .lt 8, 3) := dX7_behind_r0.2.2.2.2.2.2.2.2.2.2.2.1
theorem dX7_behind_24 : decode cX7_behind 24 = .ok (.iload_n 3, 1) := dX7_behind_r0.2.2.2.2.2.2.2.2.2.2.2.2.1
theorem dX7_behind_25 : decode cX7_behind 25 = .ok (.iconst 3, 1) := dX7_behind_r0.2.2.2.2.2.2.2.2.2.2.2.2.2.1
theorem dX7_behind_26 : decode cX7_behind 26 = .ok (.if_icmp .le 6, 3) := dX7_behind_r0.2.2.2.2.2.2.2.2.2.2.2.2.2.2.1
theorem dX7_behind_29 : decode cX7_behind 29 = .ok (.iconst 5, 1) := dX7_behind_r0.2.2.2.2.2.2.2.2.2.2.2.2.2.2.2.1
theorem dX7_behind_r30 : zdcP cX7_behind 30 [(.istore 4, 2), (.iload 4, 2), (.ifCond .ne 22, 3), (.aload_n 0, 1), (.aload_n 0, 1), (.getfield 11, 3), (.iload_n 1, 1), (.aaload, 1), (.iload_n 2, 1), (.invokevirtual 270, 3), (.iconst (-1), 1), (.if_icmp .eq 7, 3), (.bipush 6, 2), (.istore 4, 2), (.iload 4, 2), (.ifCond .eq 10, 3)] := zdcA_ok (by decide +kernel)
theorem dX7_behind_30 : decode cX7_behind 30 = .ok (.istore 4, 2) := dX7_behind_r30.1
theorem dX7_behind_32 : decode cX7_behind 32 = .ok (.iload 4, 2) := dX7_behind_r30.2.1
theorem dX7_behind_34 : decode cX7_behind 34 = .ok (.ifCond .ne 22, 3) := dX7_behind_r30.2.2.1
theorem dX7_behind_37 : decode cX7_behind 37 = .ok (.aload_n 0, 1) := dX7_behind_r30.2.2.2.1
theorem dX7_behind_38 : decode cX7_behind 38 = .ok (.aload_n 0, 1) := dX7_behind_r30.2.2.2.2.1
theorem dX7_behind_39 : decode cX7_behind 39 = .ok (.getfield 11, 3) := dX7_behind_r30.2.2.2.2.2.1
theorem dX7_behind_42 : decode cX7_behind 42 = .ok (.iload_n 1, 1) := dX7_behind_r30.2.2.2.2.2.2.1
theorem dX7_behind_43 : decode cX7_behind 43 = .ok (.aaload, 1) := dX7_behind_r30.2.2.2.2.2.2.2.1
theorem dX7_behind_44 : decode cX7_behind 44 = .ok (.iload_n 2, 1) := dX7_behind_r30.2.2.2.2.2.2.2.2.1
theorem dX7_behind_45 : decode cX7_behind 45 = .ok (.invokevirtual 270, 3) := dX7_behind_r30.2.2.2.2.2.2.2.2.2.1
theorem dX7_behind_48 : decode cX7_behind 48 = .ok (.iconst (-1), 1) := dX7_behind_r30.2.2.2.2.2.2.2.2.2.2.1
theorem dX7_behind_49 : decode cX7_behind 49 = .ok (.if_icmp .eq 7, 3) := dX7_behind_r30.2.2.2.2.2.2.2.2.2.2.2.1
theorem dX7_behind_52 : decode cX7_behind 52 = .ok (.bipush 6, 2) := dX7_behind_r30.2.2.2.2.2.2.2.2.2.2.2.2.1
theorem dX7_behind_54 : decode cX7_behind 54 = .ok (.istore 4, 2) := dX7_behind_r30.2.2.2.2.2.2.2.2.2.2.2.2.2.1
theorem dX7_behind_56 : decode cX7_behind 56 = .ok (.iload 4, 2) := dX7_behind_r30.2.2.2.2.2.2.2.2.2.2.2.2.2.2.1
theorem dX7_behind_58 : decode cX7_behind 58 = .ok (.ifCond .eq 10, 3) := dX7_behind_r30.2.2.2.2.2.2.2.2.2.2.2.2.2.2.2.1
theorem dX7_behind_r61 : zdcP cX7_behind 61 [(.aload_n 0, 1), (.iload 4, 2), (.invokevirtual 82, 3), (.ireturn, 1), (.iload_n 3, 1)] := zdcA_ok (by decide +kernel)
theorem dX7_behind_61 : decode cX7_behind 61 = .ok (.aload_n 0, 1) := dX7_behind_r61.1
theorem dX7_behind_62 : decode cX7_behind 62 = .ok (.iload 4, 2) := dX7_behind_r61.2.1
theorem dX7_behind_64 : decode cX7_behind 64 = .ok (.invokevirtual 82, 3) := dX7_behind_r61.2.2.1
theorem dX7_behind_67 : decode cX7_behind 67 = .ok (.ireturn, 1) := dX7_behind_r61.2.2.2.1
theorem dX7_behind_68 : decode cX7_behind 68 = .ok (.iload_n 3, 1) := dX7_behind_r61.2.2.2.2.1
theorem dX7_behind_69 : decode cX7_behind 69 = .ok (.tableswitch 51 0 2 #[27, 35, 43], 27) := by decide +kernel
theorem dX7_behind_r96 : zdcP cX7_behind 96 [(.aload_n 0, 1), (.getfield 34, 3), (.getfield 221, 3), (.ireturn, 1), (.aload_n 0, 1), (.getfield 34, 3), (.getfield 230, 3), (.ireturn, 1), (.aload_n 0, 1), (.getfield 34, 3), (.invokevirtual 274, 3), (.ireturn, 1), (.aload_n 0, 1), (.getfield 34, 3), (.getfield 277, 3), (.ireturn, 1)] := zdcA_ok (by decide +kernel)
theorem dX7_behind_96 : decode cX7_behind 96 = .ok (.aload_n 0, 1) := dX7_behind_r96.1
theorem dX7_behind_97 : decode cX7_behind 97 = .ok (.getfield 34, 3) := dX7_behind_r96.2.1
theorem dX7_behind_100 : decode cX7_behind 100 = .ok (.getfield 221, 3) := dX7_behind_r96.2.2.1
theorem dX7_behind_103 : decode cX7_behind 103 = .ok (.ireturn, 1) := dX7_behind_r96.2.2.2.1
theorem dX7_behind_104 : decode cX7_behind 104 = .ok (.aload_n 0, 1) := dX7_behind_r96.2.2.2.2.1
theorem dX7_behind_105 : decode cX7_behind 105 = .ok (.getfield 34, 3) := dX7_behind_r96.2.2.2.2.2.1
theorem dX7_behind_108 : decode cX7_behind 108 = .ok (.getfield 230, 3) := dX7_behind_r96.2.2.2.2.2.2.1
theorem dX7_behind_111 : decode cX7_behind 111 = .ok (.ireturn, 1) := dX7_behind_r96.2.2.2.2.2.2.2.1
theorem dX7_behind_112 : decode cX7_behind 112 = .ok (.aload_n 0, 1) := dX7_behind_r96.2.2.2.2.2.2.2.2.1
theorem dX7_behind_113 : decode cX7_behind 113 = .ok (.getfield 34, 3) := dX7_behind_r96.2.2.2.2.2.2.2.2.2.1
theorem dX7_behind_116 : decode cX7_behind 116 = .ok (.invokevirtual 274, 3) := dX7_behind_r96.2.2.2.2.2.2.2.2.2.2.1
theorem dX7_behind_119 : decode cX7_behind 119 = .ok (.ireturn, 1) := dX7_behind_r96.2.2.2.2.2.2.2.2.2.2.2.1
theorem dX7_behind_120 : decode cX7_behind 120 = .ok (.aload_n 0, 1) := dX7_behind_r96.2.2.2.2.2.2.2.2.2.2.2.2.1
theorem dX7_behind_121 : decode cX7_behind 121 = .ok (.getfield 34, 3) := dX7_behind_r96.2.2.2.2.2.2.2.2.2.2.2.2.2.1
theorem dX7_behind_124 : decode cX7_behind 124 = .ok (.getfield 277, 3) := dX7_behind_r96.2.2.2.2.2.2.2.2.2.2.2.2.2.2.1
theorem dX7_behind_127 : decode cX7_behind 127 = .ok (.ireturn, 1) := dX7_behind_r96.2.2.2.2.2.2.2.2.2.2.2.2.2.2.2.1
def wq_95_56 (v1 : Int32) (v2 : Int32) (v3 : Int32) (v4 : Int32) (m : zf_Me) (Q : Int32 → zf_Me → Prop) : Prop := ((v4.toInt = 0 → (((v3.toInt < 0 ∨ v3.toInt > 2) → Q (m.1 16 4) m) ∧ (v3.toInt = 0 → Q (m.1 16 10) m) ∧ (v3.toInt = 1 → Q (m.1 16 11) m) ∧ (v3.toInt = 2 → wp_49 16 3 17 m (fun x3 m4 => Q x3 m4)))) ∧ (¬ v4.toInt = 0 → wp_109 v4 m (fun x5 m6 => Q x5 m6)))
theorem zq_95_56 {d : Nat} (hd : 5 ≤ d) {v1 : Int32} {v2 : Int32} {v3 : Int32} {Q : Int32 → zf_Me → Prop} {v4 : Int32} {m : zf_Me} (h : wq_95_56 v1 v2 v3 v4 m Q) : zf_W none 0 0 d zt_95 56 [some (.inr (.inr (1, 0))), none, none, some (.inl v3), some (.inl v4)] [] m (zf_I Q) := by
  obtain ⟨e, rfl⟩ : ∃ z, d = z + 1 := ⟨d - 1, by omega⟩
  unfold wq_95_56 at h
  refine zf_ld (pc' := 58) (v := .inl v4) dX7_behind_56 rfl (fun _ _ _ => rfl) rfl rfl rfl ?_
  refine zf_if_eq (tgt := 68) (pc' := 61) dX7_behind_58 rfl rfl (fun g => ?_) (fun g => ?_)
  · replace h := h.1 g
    refine zf_ld (pc' := 69) (v := .inl v3) dX7_behind_68 rfl (fun _ _ _ => rfl) rfl rfl rfl ?_
    refine zf_tsc (tgd := 120) dX7_behind_69 rfl [96, 104, 112] (by decide) (by decide) (fun g => ?_) (zl_cons (fun g => ?_) (zl_cons (fun g => ?_) (zl_cons (fun g => ?_) (zl_nil))))
    · replace h := h.1 (by omega)
      refine zf_ld (pc' := 121) (v := .inr (.inr (1, 0))) dX7_behind_120 rfl (fun _ _ _ => rfl) rfl rfl rfl ?_
      refine zf_gfr (pc' := 124) (b := 16) dX7_behind_121 rfl rfl (by decide) rfl rfl ?_
      refine zf_gfi (pc' := 127) dX7_behind_124 rfl rfl zf_walk16.1 zf_walk16.2.1 rfl ?_
      exact zf_ri dX7_behind_127 rfl h
    · replace h := h.2.1 (by omega)
      refine zf_ld (pc' := 97) (v := .inr (.inr (1, 0))) dX7_behind_96 rfl (fun _ _ _ => rfl) rfl rfl rfl ?_
      refine zf_gfr (pc' := 100) (b := 16) dX7_behind_97 rfl rfl (by decide) rfl rfl ?_
      refine zf_gfi (pc' := 103) dX7_behind_100 rfl rfl zf_walk16.1 zf_walk16.2.1 rfl ?_
      exact zf_ri dX7_behind_103 rfl h
    · replace h := h.2.2.1 (by omega)
      refine zf_ld (pc' := 105) (v := .inr (.inr (1, 0))) dX7_behind_104 rfl (fun _ _ _ => rfl) rfl rfl rfl ?_
      refine zf_gfr (pc' := 108) (b := 16) dX7_behind_105 rfl rfl (by decide) rfl rfl ?_
      refine zf_gfi (pc' := 111) dX7_behind_108 rfl rfl zf_walk16.1 zf_walk16.2.1 rfl ?_
      exact zf_ri dX7_behind_111 rfl h
    · replace h := h.2.2.2 (by omega)
      refine zf_ld (pc' := 113) (v := .inr (.inr (1, 0))) dX7_behind_112 rfl (fun _ _ _ => rfl) rfl rfl rfl ?_
      refine zf_gfr (pc' := 116) (b := 16) dX7_behind_113 rfl rfl (by decide) rfl rfl ?_
      refine zf_iv (k := 49) (pc' := 119) (r := []) dX7_behind_116 rfl rfl rfl rfl zf_walk16.1 zf_walk16.2.1 rfl rfl (zr_49 (by omega) zf_walk16 h) (zf_kI (fun x3 m4 h => ?_))
      exact zf_ri dX7_behind_119 rfl h
  · replace h := h.2 g
    refine zf_ld (pc' := 62) (v := .inr (.inr (1, 0))) dX7_behind_61 rfl (fun _ _ _ => rfl) rfl rfl rfl ?_
    refine zf_ld (pc' := 64) (v := .inl v4) dX7_behind_62 rfl (fun _ _ _ => rfl) rfl rfl rfl ?_
    refine zf_iv (k := 109) (pc' := 67) (r := []) dX7_behind_64 rfl rfl rfl rfl (by decide) rfl rfl rfl (zr_109 (by omega) h) (zf_kI (fun x5 m6 h => ?_))
    exact zf_ri dX7_behind_67 rfl h
def wq_95_32 (v1 : Int32) (v2 : Int32) (v3 : Int32) (v4 : Int32) (m : zf_Me) (Q : Int32 → zf_Me → Prop) : Prop := ((¬ v4.toInt = 0 → wq_95_56 v1 v2 v3 v4 m Q) ∧ (v4.toInt = 0 → ((0 ≤ (Int32.toInt v1) ∧ (Int32.toInt v1) < 8) ∧ wp_121 (47 + 2 * (Int32.toInt v1).toNat) (48 + 2 * (Int32.toInt v1).toNat) v2 m (fun x9 m10 => ((x9.toInt = (-1) → wq_95_56 v1 v2 v3 v4 m10 Q) ∧ (¬ x9.toInt = (-1) → wq_95_56 v1 v2 v3 6 m10 Q))))))
theorem zq_95_32 {d : Nat} (hd : 5 ≤ d) {v1 : Int32} {v2 : Int32} {v3 : Int32} {Q : Int32 → zf_Me → Prop} {v4 : Int32} {m : zf_Me} (h : wq_95_32 v1 v2 v3 v4 m Q) : zf_W none 0 0 d zt_95 32 [some (.inr (.inr (1, 0))), some (.inl v1), some (.inl v2), some (.inl v3), some (.inl v4)] [] m (zf_I Q) := by
  obtain ⟨e, rfl⟩ : ∃ z, d = z + 1 := ⟨d - 1, by omega⟩
  unfold wq_95_32 at h
  refine zf_ld (pc' := 34) (v := .inl v4) dX7_behind_32 rfl (fun _ _ _ => rfl) rfl rfl rfl ?_
  refine zf_if_ne (tgt := 56) (pc' := 37) dX7_behind_34 rfl rfl (fun g => ?_) (fun g => ?_)
  · replace h := h.1 g
    exact zf_lo (zq_95_56 (by omega) h) ⟨rfl, rfl, rfl, trivial⟩
  · replace h := h.2 g
    refine zf_ld (pc' := 38) (v := .inr (.inr (1, 0))) dX7_behind_37 rfl (fun _ _ _ => rfl) rfl rfl rfl ?_
    refine zf_ld (pc' := 39) (v := .inr (.inr (1, 0))) dX7_behind_38 rfl (fun _ _ _ => rfl) rfl rfl rfl ?_
    refine zf_gfr (pc' := 42) (b := 1) dX7_behind_39 rfl rfl (by decide) rfl rfl ?_
    refine zf_ld (pc' := 43) (v := .inl v1) dX7_behind_42 rfl (fun _ _ _ => rfl) rfl rfl rfl ?_
    refine zf_aal (b := 47) (n := 8) (pc' := 44) dX7_behind_43 rfl (by decide) rfl (by decide) rfl h.1 zf_row1 ?_
    have hb7 := h.1
    replace h := h.2
    have hx8 : zf_shelf (47 + 2 * (Int32.toInt v1).toNat) (48 + 2 * (Int32.toInt v1).toNat) := zf_shelves (by omega)
    refine zf_ld (pc' := 45) (v := .inl v2) dX7_behind_44 rfl (fun _ _ _ => rfl) rfl rfl rfl ?_
    refine zf_iv (k := 121) (pc' := 48) (r := []) dX7_behind_45 rfl rfl rfl rfl (by decide) rfl rfl rfl (zr_121 (by omega) hx8 h) (zf_kI (fun x9 m10 h => ?_))
    refine zf_ic (v := (-1)) (pc' := 49) dX7_behind_48 rfl rfl ?_
    refine zf_icmp_eq (tgt := 56) (pc' := 52) dX7_behind_49 rfl rfl (fun g => ?_) (fun g => ?_)
    · replace h := h.1 g
      exact zf_lo (zq_95_56 (by omega) h) ⟨rfl, rfl, rfl, trivial⟩
    · replace h := h.2 g
      refine zf_bi (v := 6) (pc' := 54) dX7_behind_52 rfl rfl ?_
      refine zf_st (pc' := 56) (L2 := [some (.inr (.inr (1, 0))), some (.inl v1), some (.inl v2), some (.inl v3), some (.inl 6)]) dX7_behind_54 rfl (fun _ _ _ => rfl) rfl rfl rfl rfl rfl rfl ?_
      exact zf_lo (zq_95_56 (by omega) h) ⟨rfl, rfl, rfl, trivial⟩
def wq_95_29 (v1 : Int32) (v2 : Int32) (v3 : Int32) (m : zf_Me) (Q : Int32 → zf_Me → Prop) : Prop := wq_95_32 v1 v2 v3 5 m Q
theorem zq_95_29 {d : Nat} (hd : 5 ≤ d) {v1 : Int32} {v2 : Int32} {v3 : Int32} {Q : Int32 → zf_Me → Prop} {m : zf_Me} (h : wq_95_29 v1 v2 v3 m Q) : zf_W none 0 0 d zt_95 29 [some (.inr (.inr (1, 0))), some (.inl v1), some (.inl v2), some (.inl v3), none] [] m (zf_I Q) := by
  unfold wq_95_29 at h
  refine zf_ic (v := 5) (pc' := 30) dX7_behind_29 rfl rfl ?_
  refine zf_st (pc' := 32) (L2 := [some (.inr (.inr (1, 0))), some (.inl v1), some (.inl v2), some (.inl v3), some (.inl 5)]) dX7_behind_30 rfl (fun _ _ _ => rfl) rfl rfl rfl rfl rfl rfl ?_
  exact zf_lo (zq_95_32 (by omega) h) ⟨rfl, rfl, rfl, rfl, rfl, trivial⟩
def wq_95_20 (v1 : Int32) (v2 : Int32) (v3 : Int32) (v4 : Int32) (m : zf_Me) (Q : Int32 → zf_Me → Prop) : Prop := ((v3.toInt < 0 → wq_95_29 v1 v2 v3 m Q) ∧ (v3.toInt ≥ 0 → ((v3.toInt ≤ 3 → wq_95_32 v1 v2 v3 v4 m Q) ∧ (v3.toInt > 3 → wq_95_29 v1 v2 v3 m Q))))
theorem zq_95_20 {d : Nat} (hd : 5 ≤ d) {v1 : Int32} {v2 : Int32} {v3 : Int32} {Q : Int32 → zf_Me → Prop} {v4 : Int32} {m : zf_Me} (h : wq_95_20 v1 v2 v3 v4 m Q) : zf_W none 0 0 d zt_95 20 [some (.inr (.inr (1, 0))), some (.inl v1), some (.inl v2), some (.inl v3), some (.inl v4)] [] m (zf_I Q) := by
  unfold wq_95_20 at h
  refine zf_ld (pc' := 21) (v := .inl v3) dX7_behind_20 rfl (fun _ _ _ => rfl) rfl rfl rfl ?_
  refine zf_if_lt (tgt := 29) (pc' := 24) dX7_behind_21 rfl rfl (fun g => ?_) (fun g => ?_)
  · replace h := h.1 g
    exact zf_lo (zq_95_29 (by omega) h) ⟨rfl, rfl, rfl, rfl, trivial⟩
  · replace h := h.2 g
    refine zf_ld (pc' := 25) (v := .inl v3) dX7_behind_24 rfl (fun _ _ _ => rfl) rfl rfl rfl ?_
    refine zf_ic (v := 3) (pc' := 26) dX7_behind_25 rfl rfl ?_
    refine zf_icmp_le (tgt := 32) (pc' := 29) dX7_behind_26 rfl rfl (fun g => ?_) (fun g => ?_)
    · replace h := h.1 g
      exact zf_lo (zq_95_32 (by omega) h) ⟨rfl, rfl, rfl, rfl, rfl, trivial⟩
    · replace h := h.2 g
      exact zf_lo (zq_95_29 (by omega) h) ⟨rfl, rfl, rfl, rfl, trivial⟩
def wp_95 (v1 : Int32) (v2 : Int32) (v3 : Int32) (m : zf_Me) (Q : Int32 → zf_Me → Prop) : Prop := wp_113 v1 v2 m (fun x1 m2 => ((x1.toInt = 0 → wq_95_20 v1 v2 v3 x1 m2 Q) ∧ (¬ x1.toInt = 0 → ((¬ x1.toInt = 6 → wq_95_32 v1 v2 v3 x1 m2 Q) ∧ (x1.toInt = 6 → wq_95_20 v1 v2 v3 x1 m2 Q)))))
theorem zr_95 {d : Nat} (hd : 5 ≤ d) {v1 : Int32} {v2 : Int32} {v3 : Int32} {Q : Int32 → zf_Me → Prop} {m : zf_Me} (h : wp_95 v1 v2 v3 m Q) : zf_M d 95 [.inr (.inr (1, 0)), .inl v1, .inl v2, .inl v3] m (zf_I Q) := by
  obtain ⟨e, rfl⟩ : ∃ z, d = z + 1 := ⟨d - 1, by omega⟩
  unfold wp_95 at h
  refine zf_M_of (Nat.le_of_ble_eq_true rfl) zm_95 (L := [some (.inr (.inr (1, 0))), some (.inl v1), some (.inl v2), some (.inl v3), none]) rfl ?_
  refine zf_ld (pc' := 1) (v := .inr (.inr (1, 0))) dX7_behind_0 rfl (fun _ _ _ => rfl) rfl rfl rfl ?_
  refine zf_ld (pc' := 2) (v := .inl v1) dX7_behind_1 rfl (fun _ _ _ => rfl) rfl rfl rfl ?_
  refine zf_ld (pc' := 3) (v := .inl v2) dX7_behind_2 rfl (fun _ _ _ => rfl) rfl rfl rfl ?_
  refine zf_iv (k := 113) (pc' := 6) (r := []) dX7_behind_3 rfl rfl rfl rfl (by decide) rfl rfl rfl (zr_113 (by omega) h) (zf_kI (fun x1 m2 h => ?_))
  refine zf_st (pc' := 8) (L2 := [some (.inr (.inr (1, 0))), some (.inl v1), some (.inl v2), some (.inl v3), some (.inl x1)]) dX7_behind_6 rfl (fun _ _ _ => rfl) rfl rfl rfl rfl rfl rfl ?_
  refine zf_ld (pc' := 10) (v := .inl x1) dX7_behind_8 rfl (fun _ _ _ => rfl) rfl rfl rfl ?_
  refine zf_if_eq (tgt := 20) (pc' := 13) dX7_behind_10 rfl rfl (fun g => ?_) (fun g => ?_)
  · replace h := h.1 g
    exact zf_lo (zq_95_20 (by omega) h) ⟨rfl, rfl, rfl, rfl, rfl, trivial⟩
  · replace h := h.2 g
    refine zf_ld (pc' := 15) (v := .inl x1) dX7_behind_13 rfl (fun _ _ _ => rfl) rfl rfl rfl ?_
    refine zf_bi (v := 6) (pc' := 17) dX7_behind_15 rfl rfl ?_
    refine zf_icmp_ne (tgt := 32) (pc' := 20) dX7_behind_17 rfl rfl (fun g => ?_) (fun g => ?_)
    · replace h := h.1 g
      exact zf_lo (zq_95_32 (by omega) h) ⟨rfl, rfl, rfl, rfl, rfl, trivial⟩
    · replace h := h.2 g
      exact zf_lo (zq_95_20 (by omega) h) ⟨rfl, rfl, rfl, rfl, rfl, trivial⟩
def zt_96 : zx_MT := (7, yX7_done, cX7_done, 4, (some FieldType.int), 2, 0)
theorem zm_96 : zx_m 96 = zt_96 := rfl
theorem dX7_done_r0 : zdcP cX7_done 0 [(.aload_n 0, 1), (.iload_n 1, 1), (.iload_n 2, 1), (.invokevirtual 267, 3), (.istore_n 3, 1), (.iload_n 3, 1), (.ifCond .ne 21, 3), (.aload_n 0, 1), (.aload_n 0, 1), (.getfield 11, 3), (.iload_n 1, 1), (.aaload, 1), (.iload_n 2, 1), (.invokevirtual 270, 3), (.iconst (-1), 1), (.if_icmp .eq 6, 3)] := zdcA_ok (by decide +kernel)
theorem dX7_done_0 : decode cX7_done 0 = .ok (.aload_n 0, 1) := dX7_done_r0.1
theorem dX7_done_1 : decode cX7_done 1 = .ok (.iload_n 1, 1) := dX7_done_r0.2.1
theorem dX7_done_2 : decode cX7_done 2 = .ok (.iload_n 2, 1) := dX7_done_r0.2.2.1
theorem dX7_done_3 : decode cX7_done 3 = .ok (.invokevirtual 267, 3) := dX7_done_r0.2.2.2.1
theorem dX7_done_6 : decode cX7_done 6 = .ok (.istore_n 3, 1) := dX7_done_r0.2.2.2.2.1
theorem dX7_done_7 : decode cX7_done 7 = .ok (.iload_n 3, 1) := dX7_done_r0.2.2.2.2.2.1
theorem dX7_done_8 : decode cX7_done 8 = .ok (.ifCond .ne 21, 3) := dX7_done_r0.2.2.2.2.2.2.1
theorem dX7_done_11 : decode cX7_done 11 = .ok (.aload_n 0, 1) := dX7_done_r0.2.2.2.2.2.2.2.1
theorem dX7_done_12 : decode cX7_done 12 = .ok (.aload_n 0, 1) := dX7_done_r0.2.2.2.2.2.2.2.2.1
theorem dX7_done_13 : decode cX7_done 13 = .ok (.getfield 11, 3) := dX7_done_r0.2.2.2.2.2.2.2.2.2.1
theorem dX7_done_16 : decode cX7_done 16 = .ok (.iload_n 1, 1) := dX7_done_r0.2.2.2.2.2.2.2.2.2.2.1
theorem dX7_done_17 : decode cX7_done 17 = .ok (.aaload, 1) := dX7_done_r0.2.2.2.2.2.2.2.2.2.2.2.1
theorem dX7_done_18 : decode cX7_done 18 = .ok (.iload_n 2, 1) := dX7_done_r0.2.2.2.2.2.2.2.2.2.2.2.2.1
theorem dX7_done_19 : decode cX7_done 19 = .ok (.invokevirtual 270, 3) := dX7_done_r0.2.2.2.2.2.2.2.2.2.2.2.2.2.1
theorem dX7_done_22 : decode cX7_done 22 = .ok (.iconst (-1), 1) := dX7_done_r0.2.2.2.2.2.2.2.2.2.2.2.2.2.2.1
theorem dX7_done_23 : decode cX7_done 23 = .ok (.if_icmp .eq 6, 3) := dX7_done_r0.2.2.2.2.2.2.2.2.2.2.2.2.2.2.2.1
theorem dX7_done_r26 : zdcP cX7_done 26 [(.bipush 6, 2), (.istore_n 3, 1), (.iload_n 3, 1), (.ifCond .eq 9, 3), (.aload_n 0, 1), (.iload_n 3, 1), (.invokevirtual 82, 3), (.ireturn, 1), (.aload_n 0, 1), (.getfield 23, 3), (.aload_n 0, 1), (.getfield 34, 3), (.invokevirtual 202, 3), (.aload_n 0, 1), (.getfield 23, 3), (.getfield 221, 3)] := zdcA_ok (by decide +kernel)
theorem dX7_done_26 : decode cX7_done 26 = .ok (.bipush 6, 2) := dX7_done_r26.1
theorem dX7_done_28 : decode cX7_done 28 = .ok (.istore_n 3, 1) := dX7_done_r26.2.1
theorem dX7_done_29 : decode cX7_done 29 = .ok (.iload_n 3, 1) := dX7_done_r26.2.2.1
theorem dX7_done_30 : decode cX7_done 30 = .ok (.ifCond .eq 9, 3) := dX7_done_r26.2.2.2.1
theorem dX7_done_33 : decode cX7_done 33 = .ok (.aload_n 0, 1) := dX7_done_r26.2.2.2.2.1
theorem dX7_done_34 : decode cX7_done 34 = .ok (.iload_n 3, 1) := dX7_done_r26.2.2.2.2.2.1
theorem dX7_done_35 : decode cX7_done 35 = .ok (.invokevirtual 82, 3) := dX7_done_r26.2.2.2.2.2.2.1
theorem dX7_done_38 : decode cX7_done 38 = .ok (.ireturn, 1) := dX7_done_r26.2.2.2.2.2.2.2.1
theorem dX7_done_39 : decode cX7_done 39 = .ok (.aload_n 0, 1) := dX7_done_r26.2.2.2.2.2.2.2.2.1
theorem dX7_done_40 : decode cX7_done 40 = .ok (.getfield 23, 3) := dX7_done_r26.2.2.2.2.2.2.2.2.2.1
theorem dX7_done_43 : decode cX7_done 43 = .ok (.aload_n 0, 1) := dX7_done_r26.2.2.2.2.2.2.2.2.2.2.1
theorem dX7_done_44 : decode cX7_done 44 = .ok (.getfield 34, 3) := dX7_done_r26.2.2.2.2.2.2.2.2.2.2.2.1
theorem dX7_done_47 : decode cX7_done 47 = .ok (.invokevirtual 202, 3) := dX7_done_r26.2.2.2.2.2.2.2.2.2.2.2.2.1
theorem dX7_done_50 : decode cX7_done 50 = .ok (.aload_n 0, 1) := dX7_done_r26.2.2.2.2.2.2.2.2.2.2.2.2.2.1
theorem dX7_done_51 : decode cX7_done 51 = .ok (.getfield 23, 3) := dX7_done_r26.2.2.2.2.2.2.2.2.2.2.2.2.2.2.1
theorem dX7_done_54 : decode cX7_done 54 = .ok (.getfield 221, 3) := dX7_done_r26.2.2.2.2.2.2.2.2.2.2.2.2.2.2.2.1
theorem dX7_done_57 : decode cX7_done 57 = .ok (.ireturn, 1) := zdc_ok (by decide +kernel)
def wq_96_29 (v1 : Int32) (v2 : Int32) (v3 : Int32) (m : zf_Me) (Q : Int32 → zf_Me → Prop) : Prop := ((v3.toInt = 0 → wp_43 2 3 8 16 3 17 m (fun m4 => Q (m4.1 2 10) m4)) ∧ (¬ v3.toInt = 0 → wp_109 v3 m (fun x5 m6 => Q x5 m6)))
theorem zq_96_29 {d : Nat} (hd : 5 ≤ d) {v1 : Int32} {v2 : Int32} {Q : Int32 → zf_Me → Prop} {v3 : Int32} {m : zf_Me} (h : wq_96_29 v1 v2 v3 m Q) : zf_W none 0 0 d zt_96 29 [some (.inr (.inr (1, 0))), none, none, some (.inl v3)] [] m (zf_I Q) := by
  obtain ⟨e, rfl⟩ : ∃ z, d = z + 1 := ⟨d - 1, by omega⟩
  unfold wq_96_29 at h
  refine zf_ld (pc' := 30) (v := .inl v3) dX7_done_29 rfl (fun _ _ _ => rfl) rfl rfl rfl ?_
  refine zf_if_eq (tgt := 39) (pc' := 33) dX7_done_30 rfl rfl (fun g => ?_) (fun g => ?_)
  · replace h := h.1 g
    refine zf_ld (pc' := 40) (v := .inr (.inr (1, 0))) dX7_done_39 rfl (fun _ _ _ => rfl) rfl rfl rfl ?_
    refine zf_gfr (pc' := 43) (b := 2) dX7_done_40 rfl rfl (by decide) rfl rfl ?_
    refine zf_ld (pc' := 44) (v := .inr (.inr (1, 0))) dX7_done_43 rfl (fun _ _ _ => rfl) rfl rfl rfl ?_
    refine zf_gfr (pc' := 47) (b := 16) dX7_done_44 rfl rfl (by decide) rfl rfl ?_
    refine zf_iv (k := 43) (pc' := 50) (r := []) dX7_done_47 rfl rfl rfl rfl zf_walk2.1 zf_walk2.2.1 rfl rfl (zr_43 (by omega) zf_walk2 zf_walk16 h) (zf_kO (fun m4 h => ?_))
    refine zf_ld (pc' := 51) (v := .inr (.inr (1, 0))) dX7_done_50 rfl (fun _ _ _ => rfl) rfl rfl rfl ?_
    refine zf_gfr (pc' := 54) (b := 2) dX7_done_51 rfl rfl (by decide) rfl rfl ?_
    refine zf_gfi (pc' := 57) dX7_done_54 rfl rfl zf_walk2.1 zf_walk2.2.1 rfl ?_
    exact zf_ri dX7_done_57 rfl h
  · replace h := h.2 g
    refine zf_ld (pc' := 34) (v := .inr (.inr (1, 0))) dX7_done_33 rfl (fun _ _ _ => rfl) rfl rfl rfl ?_
    refine zf_ld (pc' := 35) (v := .inl v3) dX7_done_34 rfl (fun _ _ _ => rfl) rfl rfl rfl ?_
    refine zf_iv (k := 109) (pc' := 38) (r := []) dX7_done_35 rfl rfl rfl rfl (by decide) rfl rfl rfl (zr_109 (by omega) h) (zf_kI (fun x5 m6 h => ?_))
    exact zf_ri dX7_done_38 rfl h
def wp_96 (v1 : Int32) (v2 : Int32) (m : zf_Me) (Q : Int32 → zf_Me → Prop) : Prop := wp_113 v1 v2 m (fun x1 m2 => ((¬ x1.toInt = 0 → wq_96_29 v1 v2 x1 m2 Q) ∧ (x1.toInt = 0 → ((0 ≤ (Int32.toInt v1) ∧ (Int32.toInt v1) < 8) ∧ wp_121 (47 + 2 * (Int32.toInt v1).toNat) (48 + 2 * (Int32.toInt v1).toNat) v2 m2 (fun x9 m10 => ((x9.toInt = (-1) → wq_96_29 v1 v2 x1 m10 Q) ∧ (¬ x9.toInt = (-1) → wq_96_29 v1 v2 6 m10 Q)))))))
theorem zr_96 {d : Nat} (hd : 5 ≤ d) {v1 : Int32} {v2 : Int32} {Q : Int32 → zf_Me → Prop} {m : zf_Me} (h : wp_96 v1 v2 m Q) : zf_M d 96 [.inr (.inr (1, 0)), .inl v1, .inl v2] m (zf_I Q) := by
  obtain ⟨e, rfl⟩ : ∃ z, d = z + 1 := ⟨d - 1, by omega⟩
  unfold wp_96 at h
  refine zf_M_of (Nat.le_of_ble_eq_true rfl) zm_96 (L := [some (.inr (.inr (1, 0))), some (.inl v1), some (.inl v2), none]) rfl ?_
  refine zf_ld (pc' := 1) (v := .inr (.inr (1, 0))) dX7_done_0 rfl (fun _ _ _ => rfl) rfl rfl rfl ?_
  refine zf_ld (pc' := 2) (v := .inl v1) dX7_done_1 rfl (fun _ _ _ => rfl) rfl rfl rfl ?_
  refine zf_ld (pc' := 3) (v := .inl v2) dX7_done_2 rfl (fun _ _ _ => rfl) rfl rfl rfl ?_
  refine zf_iv (k := 113) (pc' := 6) (r := []) dX7_done_3 rfl rfl rfl rfl (by decide) rfl rfl rfl (zr_113 (by omega) h) (zf_kI (fun x1 m2 h => ?_))
  refine zf_st (pc' := 7) (L2 := [some (.inr (.inr (1, 0))), some (.inl v1), some (.inl v2), some (.inl x1)]) dX7_done_6 rfl (fun _ _ _ => rfl) rfl rfl rfl rfl rfl rfl ?_
  refine zf_ld (pc' := 8) (v := .inl x1) dX7_done_7 rfl (fun _ _ _ => rfl) rfl rfl rfl ?_
  refine zf_if_ne (tgt := 29) (pc' := 11) dX7_done_8 rfl rfl (fun g => ?_) (fun g => ?_)
  · replace h := h.1 g
    exact zf_lo (zq_96_29 (by omega) h) ⟨rfl, rfl, trivial⟩
  · replace h := h.2 g
    refine zf_ld (pc' := 12) (v := .inr (.inr (1, 0))) dX7_done_11 rfl (fun _ _ _ => rfl) rfl rfl rfl ?_
    refine zf_ld (pc' := 13) (v := .inr (.inr (1, 0))) dX7_done_12 rfl (fun _ _ _ => rfl) rfl rfl rfl ?_
    refine zf_gfr (pc' := 16) (b := 1) dX7_done_13 rfl rfl (by decide) rfl rfl ?_
    refine zf_ld (pc' := 17) (v := .inl v1) dX7_done_16 rfl (fun _ _ _ => rfl) rfl rfl rfl ?_
    refine zf_aal (b := 47) (n := 8) (pc' := 18) dX7_done_17 rfl (by decide) rfl (by decide) rfl h.1 zf_row1 ?_
    have hb7 := h.1
    replace h := h.2
    have hx8 : zf_shelf (47 + 2 * (Int32.toInt v1).toNat) (48 + 2 * (Int32.toInt v1).toNat) := zf_shelves (by omega)
    refine zf_ld (pc' := 19) (v := .inl v2) dX7_done_18 rfl (fun _ _ _ => rfl) rfl rfl rfl ?_
    refine zf_iv (k := 121) (pc' := 22) (r := []) dX7_done_19 rfl rfl rfl rfl (by decide) rfl rfl rfl (zr_121 (by omega) hx8 h) (zf_kI (fun x9 m10 h => ?_))
    refine zf_ic (v := (-1)) (pc' := 23) dX7_done_22 rfl rfl ?_
    refine zf_icmp_eq (tgt := 29) (pc' := 26) dX7_done_23 rfl rfl (fun g => ?_) (fun g => ?_)
    · replace h := h.1 g
      exact zf_lo (zq_96_29 (by omega) h) ⟨rfl, rfl, trivial⟩
    · replace h := h.2 g
      refine zf_bi (v := 6) (pc' := 28) dX7_done_26 rfl rfl ?_
      refine zf_st (pc' := 29) (L2 := [some (.inr (.inr (1, 0))), some (.inl v1), some (.inl v2), some (.inl 6)]) dX7_done_28 rfl (fun _ _ _ => rfl) rfl rfl rfl rfl rfl rfl ?_
      exact zf_lo (zq_96_29 (by omega) h) ⟨rfl, rfl, trivial⟩
def zt_122 : zx_MT := (7, yX7_areSoTired, cX7_areSoTired, 3, (some FieldType.boolean), 2, 1)
theorem zm_122 : zx_m 122 = zt_122 := rfl
theorem dX7_areSoTired_r0 : zdcP cX7_areSoTired 0 [(.iconst 0, 1), (.istore_n 2, 1), (.iload_n 2, 1), (.aload_n 0, 1), (.getfield 30, 3), (.getfield 153, 3), (.if_icmp .ge 25, 3), (.aload_n 0, 1), (.getfield 143, 3), (.iload_n 2, 1), (.iaload, 1), (.aload_n 1, 1), (.iload_n 2, 1), (.invokevirtual 332, 3), (.if_icmp .eq 5, 3), (.iconst 0, 1)] := zdcA_ok (by decide +kernel)
theorem dX7_areSoTired_0 : decode cX7_areSoTired 0 = .ok (.iconst 0, 1) := dX7_areSoTired_r0.1
theorem dX7_areSoTired_1 : decode cX7_areSoTired 1 = .ok (.istore_n 2, 1) := dX7_areSoTired_r0.2.1
theorem dX7_areSoTired_2 : decode cX7_areSoTired 2 = .ok (.iload_n 2, 1) := dX7_areSoTired_r0.2.2.1
theorem dX7_areSoTired_3 : decode cX7_areSoTired 3 = .ok (.aload_n 0, 1) := dX7_areSoTired_r0.2.2.2.1
theorem dX7_areSoTired_4 : decode cX7_areSoTired 4 = .ok (.getfield 30, 3) := dX7_areSoTired_r0.2.2.2.2.1
theorem dX7_areSoTired_7 : decode cX7_areSoTired 7 = .ok (.getfield 153, 3) := dX7_areSoTired_r0.2.2.2.2.2.1
theorem dX7_areSoTired_10 : decode cX7_areSoTired 10 = .ok (.if_icmp .ge 25, 3) := dX7_areSoTired_r0.2.2.2.2.2.2.1
theorem dX7_areSoTired_13 : decode cX7_areSoTired 13 = .ok (.aload_n 0, 1) := dX7_areSoTired_r0.2.2.2.2.2.2.2.1
theorem dX7_areSoTired_14 : decode cX7_areSoTired 14 = .ok (.getfield 143, 3) := dX7_areSoTired_r0.2.2.2.2.2.2.2.2.1
theorem dX7_areSoTired_17 : decode cX7_areSoTired 17 = .ok (.iload_n 2, 1) := dX7_areSoTired_r0.2.2.2.2.2.2.2.2.2.1
theorem dX7_areSoTired_18 : decode cX7_areSoTired 18 = .ok (.iaload, 1) := dX7_areSoTired_r0.2.2.2.2.2.2.2.2.2.2.1
theorem dX7_areSoTired_19 : decode cX7_areSoTired 19 = .ok (.aload_n 1, 1) := dX7_areSoTired_r0.2.2.2.2.2.2.2.2.2.2.2.1
theorem dX7_areSoTired_20 : decode cX7_areSoTired 20 = .ok (.iload_n 2, 1) := dX7_areSoTired_r0.2.2.2.2.2.2.2.2.2.2.2.2.1
theorem dX7_areSoTired_21 : decode cX7_areSoTired 21 = .ok (.invokevirtual 332, 3) := dX7_areSoTired_r0.2.2.2.2.2.2.2.2.2.2.2.2.2.1
theorem dX7_areSoTired_24 : decode cX7_areSoTired 24 = .ok (.if_icmp .eq 5, 3) := dX7_areSoTired_r0.2.2.2.2.2.2.2.2.2.2.2.2.2.2.1
theorem dX7_areSoTired_27 : decode cX7_areSoTired 27 = .ok (.iconst 0, 1) := dX7_areSoTired_r0.2.2.2.2.2.2.2.2.2.2.2.2.2.2.2.1
theorem dX7_areSoTired_r28 : zdcP cX7_areSoTired 28 [(.ireturn, 1), (.iinc 2 1, 3), (.goto (-30), 3), (.iconst 1, 1), (.ireturn, 1)] := zdcA_ok (by decide +kernel)
theorem dX7_areSoTired_28 : decode cX7_areSoTired 28 = .ok (.ireturn, 1) := dX7_areSoTired_r28.1
theorem dX7_areSoTired_29 : decode cX7_areSoTired 29 = .ok (.iinc 2 1, 3) := dX7_areSoTired_r28.2.1
theorem dX7_areSoTired_32 : decode cX7_areSoTired 32 = .ok (.goto (-30), 3) := dX7_areSoTired_r28.2.2.1
theorem dX7_areSoTired_35 : decode cX7_areSoTired 35 = .ok (.iconst 1, 1) := dX7_areSoTired_r28.2.2.2.1
theorem dX7_areSoTired_36 : decode cX7_areSoTired 36 = .ok (.ireturn, 1) := dX7_areSoTired_r28.2.2.2.2.1
def wq_122_2 (w0 : Nat) (y0 : Nat) (r0 : Nat) (c1 : Nat) (r1 : Nat) (Q : Bool → zf_Me → Prop) : Nat → Int32 → zf_Me → Prop
  | 0, _, _ => False
  | n + 1, v2, m => ((v2.toInt ≥ ((m.1 y0 5)).toInt → Q true m) ∧ (v2.toInt < ((m.1 y0 5)).toInt → ((0 ≤ (Int32.toInt v2) ∧ (Int32.toInt v2) < (6 : Int)) ∧ wp_24 c1 r1 v2 m (fun x1 m2 => ((((m.1 r0 (Int32.toInt v2).toNat)).toInt = x1.toInt → wq_122_2 w0 y0 r0 c1 r1 Q n (v2 + 1) m2) ∧ (¬ ((m.1 r0 (Int32.toInt v2).toNat)).toInt = x1.toInt → Q false m2))))))
theorem zq_122_2 {d : Nat} (hd : 1 ≤ d) {w0 : Nat} {y0 : Nat} {r0 : Nat} {c1 : Nat} {r1 : Nat} (hp0 : zf_walk w0 y0 r0) (hp1 : zf_shelf c1 r1) {Q : Bool → zf_Me → Prop} : ∀ (n : Nat) (v2 : Int32) (m : zf_Me), wq_122_2 w0 y0 r0 c1 r1 Q n v2 m → zf_W none 0 0 d zt_122 2 [some (.inr (.inr (1, w0))), some (.inr (.inr (1, c1))), some (.inl v2)] [] m (zf_B Q) := by
  obtain ⟨e, rfl⟩ : ∃ z, d = z + 1 := ⟨d - 1, by omega⟩
  intro n
  induction n with
  | zero =>
    intro v2 m h
    exact h.elim
  | succ n ih =>
    intro v2 m h
    unfold wq_122_2 at h
    refine zf_ld (pc' := 3) (v := .inl v2) dX7_areSoTired_2 rfl (fun _ _ _ => rfl) rfl rfl rfl ?_
    refine zf_ld (pc' := 4) (v := .inr (.inr (1, w0))) dX7_areSoTired_3 rfl (fun _ _ _ => rfl) rfl rfl rfl ?_
    refine zf_gfr (pc' := 7) (b := y0) dX7_areSoTired_4 rfl rfl hp0.1 hp0.2.1 rfl ?_
    refine zf_gfi (pc' := 10) dX7_areSoTired_7 rfl rfl hp0.2.2.1.1 hp0.2.2.1.2.1 rfl ?_
    refine zf_icmp_ge (tgt := 35) (pc' := 13) dX7_areSoTired_10 rfl rfl (fun g => ?_) (fun g => ?_)
    · replace h := h.1 g
      refine zf_ic (v := 1) (pc' := 36) dX7_areSoTired_35 rfl rfl ?_
      exact zf_rb (b := true) dX7_areSoTired_36 rfl h
    · replace h := h.2 g
      refine zf_ld (pc' := 14) (v := .inr (.inr (1, w0))) dX7_areSoTired_13 rfl (fun _ _ _ => rfl) rfl rfl rfl ?_
      refine zf_gfr (pc' := 17) (b := r0) dX7_areSoTired_14 rfl rfl hp0.1 hp0.2.1 rfl ?_
      refine zf_ld (pc' := 18) (v := .inl v2) dX7_areSoTired_17 rfl (fun _ _ _ => rfl) rfl rfl rfl ?_
      refine zf_ial (pc' := 19) dX7_areSoTired_18 rfl hp0.2.2.2.1 hp0.2.2.2.2 h.1 rfl ?_
      replace h := h.2
      refine zf_ld (pc' := 20) (v := .inr (.inr (1, c1))) dX7_areSoTired_19 rfl (fun _ _ _ => rfl) rfl rfl rfl ?_
      refine zf_ld (pc' := 21) (v := .inl v2) dX7_areSoTired_20 rfl (fun _ _ _ => rfl) rfl rfl rfl ?_
      refine zf_iv (k := 24) (pc' := 24) (r := [.inl (m.1 r0 (Int32.toInt v2).toNat)]) dX7_areSoTired_21 rfl rfl rfl rfl hp1.1 hp1.2.1 rfl rfl (zr_24 (by omega) hp1 h) (zf_kI (fun x1 m2 h => ?_))
      refine zf_icmp_eq (tgt := 29) (pc' := 27) dX7_areSoTired_24 rfl rfl (fun g => ?_) (fun g => ?_)
      · replace h := h.1 g
        refine zf_ii (y := (v2 + 1)) (L2 := [some (.inr (.inr (1, w0))), some (.inr (.inr (1, c1))), some (.inl (v2 + 1))]) (pc' := 32) dX7_areSoTired_29 rfl rfl rfl rfl rfl ?_
        refine zf_goto (tgt := 2) dX7_areSoTired_32 rfl ?_
        exact zf_lo (ih _ _ h) ⟨rfl, rfl, rfl, trivial⟩
      · replace h := h.2 g
        refine zf_ic (v := 0) (pc' := 28) dX7_areSoTired_27 rfl rfl ?_
        exact zf_rb (b := false) dX7_areSoTired_28 rfl h
def wp_122 (w0 : Nat) (y0 : Nat) (r0 : Nat) (c1 : Nat) (r1 : Nat) (m : zf_Me) (Q : Bool → zf_Me → Prop) : Prop := (∃ n2, wq_122_2 w0 y0 r0 c1 r1 Q n2 0 m)
theorem zr_122 {d : Nat} (hd : 1 ≤ d) {w0 : Nat} {y0 : Nat} {r0 : Nat} {c1 : Nat} {r1 : Nat} (hp0 : zf_walk w0 y0 r0) (hp1 : zf_shelf c1 r1) {Q : Bool → zf_Me → Prop} {m : zf_Me} (h : wp_122 w0 y0 r0 c1 r1 m Q) : zf_M d 122 [.inr (.inr (1, w0)), .inr (.inr (1, c1))] m (zf_B Q) := by
  unfold wp_122 at h
  refine zf_M_of (Nat.le_of_ble_eq_true rfl) zm_122 (L := [some (.inr (.inr (1, w0))), some (.inr (.inr (1, c1))), none]) rfl ?_
  refine zf_ic (v := 0) (pc' := 1) dX7_areSoTired_0 rfl rfl ?_
  refine zf_st (pc' := 2) (L2 := [some (.inr (.inr (1, w0))), some (.inr (.inr (1, c1))), some (.inl 0)]) dX7_areSoTired_1 rfl (fun _ _ _ => rfl) rfl rfl rfl rfl rfl rfl ?_
  obtain ⟨n2, h⟩ := h
  exact zf_lo (zq_122_2 (by omega) hp0 hp1 n2 _ _ h) ⟨rfl, rfl, rfl, trivial⟩
def zt_97 : zx_MT := (7, yX7_fits, cX7_fits, 5, (some FieldType.int), 1, 0)
theorem zm_97 : zx_m 97 = zt_97 := rfl
theorem dX7_fits_r0 : zdcP cX7_fits 0 [(.aload_n 0, 1), (.iload_n 1, 1), (.invokevirtual 90, 3), (.istore_n 2, 1), (.iload_n 2, 1), (.ifCond .eq 9, 3), (.aload_n 0, 1), (.iload_n 2, 1), (.invokevirtual 82, 3), (.ireturn, 1), (.aload_n 0, 1), (.getfield 11, 3), (.iload_n 1, 1), (.aaload, 1), (.getfield 280, 3), (.aload_n 0, 1)] := zdcA_ok (by decide +kernel)
theorem dX7_fits_0 : decode cX7_fits 0 = .ok (.aload_n 0, 1) := dX7_fits_r0.1
theorem dX7_fits_1 : decode cX7_fits 1 = .ok (.iload_n 1, 1) := dX7_fits_r0.2.1
theorem dX7_fits_2 : decode cX7_fits 2 = .ok (.invokevirtual 90, 3) := dX7_fits_r0.2.2.1
theorem dX7_fits_5 : decode cX7_fits 5 = .ok (.istore_n 2, 1) := dX7_fits_r0.2.2.2.1
theorem dX7_fits_6 : decode cX7_fits 6 = .ok (.iload_n 2, 1) := dX7_fits_r0.2.2.2.2.1
theorem dX7_fits_7 : decode cX7_fits 7 = .ok (.ifCond .eq 9, 3) := dX7_fits_r0.2.2.2.2.2.1
theorem dX7_fits_10 : decode cX7_fits 10 = .ok (.aload_n 0, 1) := dX7_fits_r0.2.2.2.2.2.2.1
theorem dX7_fits_11 : decode cX7_fits 11 = .ok (.iload_n 2, 1) := dX7_fits_r0.2.2.2.2.2.2.2.1
theorem dX7_fits_12 : decode cX7_fits 12 = .ok (.invokevirtual 82, 3) := dX7_fits_r0.2.2.2.2.2.2.2.2.1
theorem dX7_fits_15 : decode cX7_fits 15 = .ok (.ireturn, 1) := dX7_fits_r0.2.2.2.2.2.2.2.2.2.1
theorem dX7_fits_16 : decode cX7_fits 16 = .ok (.aload_n 0, 1) := dX7_fits_r0.2.2.2.2.2.2.2.2.2.2.1
theorem dX7_fits_17 : decode cX7_fits 17 = .ok (.getfield 11, 3) := dX7_fits_r0.2.2.2.2.2.2.2.2.2.2.2.1
theorem dX7_fits_20 : decode cX7_fits 20 = .ok (.iload_n 1, 1) := dX7_fits_r0.2.2.2.2.2.2.2.2.2.2.2.2.1
theorem dX7_fits_21 : decode cX7_fits 21 = .ok (.aaload, 1) := dX7_fits_r0.2.2.2.2.2.2.2.2.2.2.2.2.2.1
theorem dX7_fits_22 : decode cX7_fits 22 = .ok (.getfield 280, 3) := dX7_fits_r0.2.2.2.2.2.2.2.2.2.2.2.2.2.2.1
theorem dX7_fits_25 : decode cX7_fits 25 = .ok (.aload_n 0, 1) := dX7_fits_r0.2.2.2.2.2.2.2.2.2.2.2.2.2.2.2.1
theorem dX7_fits_r26 : zdcP cX7_fits 26 [(.getfield 23, 3), (.getfield 30, 3), (.getfield 153, 3), (.if_icmp .ge 9, 3), (.aload_n 0, 1), (.iconst 5, 1), (.invokevirtual 82, 3), (.ireturn, 1), (.iconst 0, 1), (.istore_n 3, 1), (.iconst 0, 1), (.istore 4, 2), (.iload 4, 2), (.iconst 4, 1), (.if_icmp .ge 55, 3), (.aload_n 0, 1)] := zdcA_ok (by decide +kernel)
theorem dX7_fits_26 : decode cX7_fits 26 = .ok (.getfield 23, 3) := dX7_fits_r26.1
theorem dX7_fits_29 : decode cX7_fits 29 = .ok (.getfield 30, 3) := dX7_fits_r26.2.1
theorem dX7_fits_32 : decode cX7_fits 32 = .ok (.getfield 153, 3) := dX7_fits_r26.2.2.1
theorem dX7_fits_35 : decode cX7_fits 35 = .ok (.if_icmp .ge 9, 3) := dX7_fits_r26.2.2.2.1
theorem dX7_fits_38 : decode cX7_fits 38 = .ok (.aload_n 0, 1) := dX7_fits_r26.2.2.2.2.1
theorem dX7_fits_39 : decode cX7_fits 39 = .ok (.iconst 5, 1) := dX7_fits_r26.2.2.2.2.2.1
theorem dX7_fits_40 : decode cX7_fits 40 = .ok (.invokevirtual 82, 3) := dX7_fits_r26.2.2.2.2.2.2.1
theorem dX7_fits_43 : decode cX7_fits 43 = .ok (.ireturn, 1) := dX7_fits_r26.2.2.2.2.2.2.2.1
theorem dX7_fits_44 : decode cX7_fits 44 = .ok (.iconst 0, 1) := dX7_fits_r26.2.2.2.2.2.2.2.2.1
theorem dX7_fits_45 : decode cX7_fits 45 = .ok (.istore_n 3, 1) := dX7_fits_r26.2.2.2.2.2.2.2.2.2.1
theorem dX7_fits_46 : decode cX7_fits 46 = .ok (.iconst 0, 1) := dX7_fits_r26.2.2.2.2.2.2.2.2.2.2.1
theorem dX7_fits_47 : decode cX7_fits 47 = .ok (.istore 4, 2) := dX7_fits_r26.2.2.2.2.2.2.2.2.2.2.2.1
theorem dX7_fits_49 : decode cX7_fits 49 = .ok (.iload 4, 2) := dX7_fits_r26.2.2.2.2.2.2.2.2.2.2.2.2.1
theorem dX7_fits_51 : decode cX7_fits 51 = .ok (.iconst 4, 1) := dX7_fits_r26.2.2.2.2.2.2.2.2.2.2.2.2.2.1
theorem dX7_fits_52 : decode cX7_fits 52 = .ok (.if_icmp .ge 55, 3) := dX7_fits_r26.2.2.2.2.2.2.2.2.2.2.2.2.2.2.1
theorem dX7_fits_55 : decode cX7_fits 55 = .ok (.aload_n 0, 1) := dX7_fits_r26.2.2.2.2.2.2.2.2.2.2.2.2.2.2.2.1
theorem dX7_fits_r56 : zdcP cX7_fits 56 [(.getfield 40, 3), (.aload_n 0, 1), (.getfield 23, 3), (.invokevirtual 239, 3), (.aload_n 0, 1), (.getfield 40, 3), (.iload 4, 2), (.invokevirtual 242, 3), (.aload_n 0, 1), (.getfield 40, 3), (.getfield 246, 3), (.aload_n 0, 1), (.getfield 11, 3), (.iload_n 1, 1), (.aaload, 1), (.invokestatic 283, 3)] := zdcA_ok (by decide +kernel)
theorem dX7_fits_56 : decode cX7_fits 56 = .ok (.getfield 40, 3) := dX7_fits_r56.1
theorem dX7_fits_59 : decode cX7_fits 59 = .ok (.aload_n 0, 1) := dX7_fits_r56.2.1
theorem dX7_fits_60 : decode cX7_fits 60 = .ok (.getfield 23, 3) := dX7_fits_r56.2.2.1
theorem dX7_fits_63 : decode cX7_fits 63 = .ok (.invokevirtual 239, 3) := dX7_fits_r56.2.2.2.1
theorem dX7_fits_66 : decode cX7_fits 66 = .ok (.aload_n 0, 1) := dX7_fits_r56.2.2.2.2.1
theorem dX7_fits_67 : decode cX7_fits 67 = .ok (.getfield 40, 3) := dX7_fits_r56.2.2.2.2.2.1
theorem dX7_fits_70 : decode cX7_fits 70 = .ok (.iload 4, 2) := dX7_fits_r56.2.2.2.2.2.2.1
theorem dX7_fits_72 : decode cX7_fits 72 = .ok (.invokevirtual 242, 3) := dX7_fits_r56.2.2.2.2.2.2.2.1
theorem dX7_fits_75 : decode cX7_fits 75 = .ok (.aload_n 0, 1) := dX7_fits_r56.2.2.2.2.2.2.2.2.1
theorem dX7_fits_76 : decode cX7_fits 76 = .ok (.getfield 40, 3) := dX7_fits_r56.2.2.2.2.2.2.2.2.2.1
theorem dX7_fits_79 : decode cX7_fits 79 = .ok (.getfield 246, 3) := dX7_fits_r56.2.2.2.2.2.2.2.2.2.2.1
theorem dX7_fits_82 : decode cX7_fits 82 = .ok (.aload_n 0, 1) := dX7_fits_r56.2.2.2.2.2.2.2.2.2.2.2.1
theorem dX7_fits_83 : decode cX7_fits 83 = .ok (.getfield 11, 3) := dX7_fits_r56.2.2.2.2.2.2.2.2.2.2.2.2.1
theorem dX7_fits_86 : decode cX7_fits 86 = .ok (.iload_n 1, 1) := dX7_fits_r56.2.2.2.2.2.2.2.2.2.2.2.2.2.1
theorem dX7_fits_87 : decode cX7_fits 87 = .ok (.aaload, 1) := dX7_fits_r56.2.2.2.2.2.2.2.2.2.2.2.2.2.2.1
theorem dX7_fits_88 : decode cX7_fits 88 = .ok (.invokestatic 283, 3) := dX7_fits_r56.2.2.2.2.2.2.2.2.2.2.2.2.2.2.2.1
theorem dX7_fits_r91 : zdcP cX7_fits 91 [(.ifCond .eq 10, 3), (.iload_n 3, 1), (.iconst 1, 1), (.iload 4, 2), (.ishl, 1), (.ior, 1), (.istore_n 3, 1), (.iinc 4 1, 3), (.goto (-55), 3), (.iload_n 3, 1), (.ireturn, 1)] := zdcA_ok (by decide +kernel)
theorem dX7_fits_91 : decode cX7_fits 91 = .ok (.ifCond .eq 10, 3) := dX7_fits_r91.1
theorem dX7_fits_94 : decode cX7_fits 94 = .ok (.iload_n 3, 1) := dX7_fits_r91.2.1
theorem dX7_fits_95 : decode cX7_fits 95 = .ok (.iconst 1, 1) := dX7_fits_r91.2.2.1
theorem dX7_fits_96 : decode cX7_fits 96 = .ok (.iload 4, 2) := dX7_fits_r91.2.2.2.1
theorem dX7_fits_98 : decode cX7_fits 98 = .ok (.ishl, 1) := dX7_fits_r91.2.2.2.2.1
theorem dX7_fits_99 : decode cX7_fits 99 = .ok (.ior, 1) := dX7_fits_r91.2.2.2.2.2.1
theorem dX7_fits_100 : decode cX7_fits 100 = .ok (.istore_n 3, 1) := dX7_fits_r91.2.2.2.2.2.2.1
theorem dX7_fits_101 : decode cX7_fits 101 = .ok (.iinc 4 1, 3) := dX7_fits_r91.2.2.2.2.2.2.2.1
theorem dX7_fits_104 : decode cX7_fits 104 = .ok (.goto (-55), 3) := dX7_fits_r91.2.2.2.2.2.2.2.2.1
theorem dX7_fits_107 : decode cX7_fits 107 = .ok (.iload_n 3, 1) := dX7_fits_r91.2.2.2.2.2.2.2.2.2.1
theorem dX7_fits_108 : decode cX7_fits 108 = .ok (.ireturn, 1) := dX7_fits_r91.2.2.2.2.2.2.2.2.2.2.1
def wq_97_49 (v1 : Int32) (Q : Int32 → zf_Me → Prop) : Nat → Int32 → Int32 → zf_Me → Prop
  | 0, _, _, _ => False
  | n + 1, v3, v4, m => ((v4.toInt ≥ 4 → Q v3 m) ∧ (v4.toInt < 4 → wp_7 2 3 8 m (fun m6 => wp_8 v4 m6 (fun m8 => ((0 ≤ (Int32.toInt v1) ∧ (Int32.toInt v1) < 8) ∧ wp_122 19 3 20 (47 + 2 * (Int32.toInt v1).toNat) (48 + 2 * (Int32.toInt v1).toNat) m8 (fun b11 m12 => ((b11 = false → wq_97_49 v1 Q n v3 (v4 + 1) m12) ∧ (b11 = true → wq_97_49 v1 Q n (v3 ||| (1 <<< (v4 &&& 31))) (v4 + 1) m12))))))))
theorem zq_97_49 {d : Nat} (hd : 6 ≤ d) {v1 : Int32} {Q : Int32 → zf_Me → Prop} : ∀ (n : Nat) (v3 : Int32) (v4 : Int32) (m : zf_Me), wq_97_49 v1 Q n v3 v4 m → zf_W none 0 0 d zt_97 49 [some (.inr (.inr (1, 0))), some (.inl v1), none, some (.inl v3), some (.inl v4)] [] m (zf_I Q) := by
  obtain ⟨e, rfl⟩ : ∃ z, d = z + 1 := ⟨d - 1, by omega⟩
  intro n
  induction n with
  | zero =>
    intro v3 v4 m h
    exact h.elim
  | succ n ih =>
    intro v3 v4 m h
    unfold wq_97_49 at h
    refine zf_ld (pc' := 51) (v := .inl v4) dX7_fits_49 rfl (fun _ _ _ => rfl) rfl rfl rfl ?_
    refine zf_ic (v := 4) (pc' := 52) dX7_fits_51 rfl rfl ?_
    refine zf_icmp_ge (tgt := 107) (pc' := 55) dX7_fits_52 rfl rfl (fun g => ?_) (fun g => ?_)
    · replace h := h.1 g
      refine zf_ld (pc' := 108) (v := .inl v3) dX7_fits_107 rfl (fun _ _ _ => rfl) rfl rfl rfl ?_
      exact zf_ri dX7_fits_108 rfl h
    · replace h := h.2 g
      refine zf_ld (pc' := 56) (v := .inr (.inr (1, 0))) dX7_fits_55 rfl (fun _ _ _ => rfl) rfl rfl rfl ?_
      refine zf_gfr (pc' := 59) (b := 18) dX7_fits_56 rfl rfl (by decide) rfl rfl ?_
      refine zf_ld (pc' := 60) (v := .inr (.inr (1, 0))) dX7_fits_59 rfl (fun _ _ _ => rfl) rfl rfl rfl ?_
      refine zf_gfr (pc' := 63) (b := 2) dX7_fits_60 rfl rfl (by decide) rfl rfl ?_
      refine zf_iv (k := 7) (pc' := 66) (r := []) dX7_fits_63 rfl rfl rfl rfl (by decide) rfl rfl rfl (zr_7 (by omega) zf_walk2 h) (zf_kO (fun m6 h => ?_))
      refine zf_ld (pc' := 67) (v := .inr (.inr (1, 0))) dX7_fits_66 rfl (fun _ _ _ => rfl) rfl rfl rfl ?_
      refine zf_gfr (pc' := 70) (b := 18) dX7_fits_67 rfl rfl (by decide) rfl rfl ?_
      refine zf_ld (pc' := 72) (v := .inl v4) dX7_fits_70 rfl (fun _ _ _ => rfl) rfl rfl rfl ?_
      refine zf_iv (k := 8) (pc' := 75) (r := []) dX7_fits_72 rfl rfl rfl rfl (by decide) rfl rfl rfl (zr_8 (by omega) h) (zf_kO (fun m8 h => ?_))
      refine zf_ld (pc' := 76) (v := .inr (.inr (1, 0))) dX7_fits_75 rfl (fun _ _ _ => rfl) rfl rfl rfl ?_
      refine zf_gfr (pc' := 79) (b := 18) dX7_fits_76 rfl rfl (by decide) rfl rfl ?_
      refine zf_gfr (pc' := 82) (b := 19) dX7_fits_79 rfl rfl (by decide) rfl rfl ?_
      refine zf_ld (pc' := 83) (v := .inr (.inr (1, 0))) dX7_fits_82 rfl (fun _ _ _ => rfl) rfl rfl rfl ?_
      refine zf_gfr (pc' := 86) (b := 1) dX7_fits_83 rfl rfl (by decide) rfl rfl ?_
      refine zf_ld (pc' := 87) (v := .inl v1) dX7_fits_86 rfl (fun _ _ _ => rfl) rfl rfl rfl ?_
      refine zf_aal (b := 47) (n := 8) (pc' := 88) dX7_fits_87 rfl (by decide) rfl (by decide) rfl h.1 zf_row1 ?_
      have hb9 := h.1
      replace h := h.2
      have hx10 : zf_shelf (47 + 2 * (Int32.toInt v1).toNat) (48 + 2 * (Int32.toInt v1).toNat) := zf_shelves (by omega)
      refine zf_is (k := 122) (pc' := 91) (r := []) dX7_fits_88 rfl rfl rfl rfl rfl (zr_122 (by omega) zf_walk19 hx10 h) (zf_kB (fun b11 m12 h => ?_))
      refine zf_ib_eq (tgt := 101) (pc' := 94) dX7_fits_91 rfl rfl (fun g => ?_) (fun g => ?_)
      · replace h := h.1 g
        refine zf_ii (y := (v4 + 1)) (L2 := [some (.inr (.inr (1, 0))), some (.inl v1), none, some (.inl v3), some (.inl (v4 + 1))]) (pc' := 104) dX7_fits_101 rfl rfl rfl rfl rfl ?_
        refine zf_goto (tgt := 49) dX7_fits_104 rfl ?_
        exact zf_lo (ih _ _ _ h) ⟨rfl, rfl, rfl, rfl, trivial⟩
      · replace h := h.2 g
        refine zf_ld (pc' := 95) (v := .inl v3) dX7_fits_94 rfl (fun _ _ _ => rfl) rfl rfl rfl ?_
        refine zf_ic (v := 1) (pc' := 96) dX7_fits_95 rfl rfl ?_
        refine zf_ld (pc' := 98) (v := .inl v4) dX7_fits_96 rfl (fun _ _ _ => rfl) rfl rfl rfl ?_
        refine zf_in (pc' := 99) (S' := [.inl (1 <<< (v4 &&& 31)), .inl v3]) dX7_fits_98 rfl (fun _ _ _ => rfl) ?_
        refine zf_in (pc' := 100) (S' := [.inl (v3 ||| (1 <<< (v4 &&& 31)))]) dX7_fits_99 rfl (fun _ _ _ => rfl) ?_
        refine zf_st (pc' := 101) (L2 := [some (.inr (.inr (1, 0))), some (.inl v1), none, some (.inl (v3 ||| (1 <<< (v4 &&& 31)))), some (.inl v4)]) dX7_fits_100 rfl (fun _ _ _ => rfl) rfl rfl rfl rfl rfl rfl ?_
        refine zf_ii (y := (v4 + 1)) (L2 := [some (.inr (.inr (1, 0))), some (.inl v1), none, some (.inl (v3 ||| (1 <<< (v4 &&& 31)))), some (.inl (v4 + 1))]) (pc' := 104) dX7_fits_101 rfl rfl rfl rfl rfl ?_
        refine zf_goto (tgt := 49) dX7_fits_104 rfl ?_
        exact zf_lo (ih _ _ _ h) ⟨rfl, rfl, rfl, rfl, trivial⟩
def wp_97 (v1 : Int32) (m : zf_Me) (Q : Int32 → zf_Me → Prop) : Prop := wp_111 v1 m (fun x1 m2 => ((x1.toInt = 0 → ((0 ≤ (Int32.toInt v1) ∧ (Int32.toInt v1) < 8) ∧ ((((m2.1 (47 + 2 * (Int32.toInt v1).toNat) 2)).toInt ≥ ((m2.1 3 5)).toInt → (∃ n49, wq_97_49 v1 Q n49 0 0 m2)) ∧ (((m2.1 (47 + 2 * (Int32.toInt v1).toNat) 2)).toInt < ((m2.1 3 5)).toInt → wp_109 5 m2 (fun x13 m14 => Q x13 m14))))) ∧ (¬ x1.toInt = 0 → wp_109 x1 m2 (fun x15 m16 => Q x15 m16))))
theorem zr_97 {d : Nat} (hd : 6 ≤ d) {v1 : Int32} {Q : Int32 → zf_Me → Prop} {m : zf_Me} (h : wp_97 v1 m Q) : zf_M d 97 [.inr (.inr (1, 0)), .inl v1] m (zf_I Q) := by
  obtain ⟨e, rfl⟩ : ∃ z, d = z + 1 := ⟨d - 1, by omega⟩
  unfold wp_97 at h
  refine zf_M_of (Nat.le_of_ble_eq_true rfl) zm_97 (L := [some (.inr (.inr (1, 0))), some (.inl v1), none, none, none]) rfl ?_
  refine zf_ld (pc' := 1) (v := .inr (.inr (1, 0))) dX7_fits_0 rfl (fun _ _ _ => rfl) rfl rfl rfl ?_
  refine zf_ld (pc' := 2) (v := .inl v1) dX7_fits_1 rfl (fun _ _ _ => rfl) rfl rfl rfl ?_
  refine zf_iv (k := 111) (pc' := 5) (r := []) dX7_fits_2 rfl rfl rfl rfl (by decide) rfl rfl rfl (zr_111 (by omega) h) (zf_kI (fun x1 m2 h => ?_))
  refine zf_st (pc' := 6) (L2 := [some (.inr (.inr (1, 0))), some (.inl v1), some (.inl x1), none, none]) dX7_fits_5 rfl (fun _ _ _ => rfl) rfl rfl rfl rfl rfl rfl ?_
  refine zf_ld (pc' := 7) (v := .inl x1) dX7_fits_6 rfl (fun _ _ _ => rfl) rfl rfl rfl ?_
  refine zf_if_eq (tgt := 16) (pc' := 10) dX7_fits_7 rfl rfl (fun g => ?_) (fun g => ?_)
  · replace h := h.1 g
    refine zf_ld (pc' := 17) (v := .inr (.inr (1, 0))) dX7_fits_16 rfl (fun _ _ _ => rfl) rfl rfl rfl ?_
    refine zf_gfr (pc' := 20) (b := 1) dX7_fits_17 rfl rfl (by decide) rfl rfl ?_
    refine zf_ld (pc' := 21) (v := .inl v1) dX7_fits_20 rfl (fun _ _ _ => rfl) rfl rfl rfl ?_
    refine zf_aal (b := 47) (n := 8) (pc' := 22) dX7_fits_21 rfl (by decide) rfl (by decide) rfl h.1 zf_row1 ?_
    have hb3 := h.1
    replace h := h.2
    have hx4 : zf_shelf (47 + 2 * (Int32.toInt v1).toNat) (48 + 2 * (Int32.toInt v1).toNat) := zf_shelves (by omega)
    refine zf_gfi (pc' := 25) dX7_fits_22 rfl rfl hx4.1 hx4.2.1 rfl ?_
    refine zf_ld (pc' := 26) (v := .inr (.inr (1, 0))) dX7_fits_25 rfl (fun _ _ _ => rfl) rfl rfl rfl ?_
    refine zf_gfr (pc' := 29) (b := 2) dX7_fits_26 rfl rfl (by decide) rfl rfl ?_
    refine zf_gfr (pc' := 32) (b := 3) dX7_fits_29 rfl rfl zf_walk2.1 zf_walk2.2.1 rfl ?_
    refine zf_gfi (pc' := 35) dX7_fits_32 rfl rfl zf_walk2.2.2.1.1 zf_walk2.2.2.1.2.1 rfl ?_
    refine zf_icmp_ge (tgt := 44) (pc' := 38) dX7_fits_35 rfl rfl (fun g => ?_) (fun g => ?_)
    · replace h := h.1 g
      refine zf_ic (v := 0) (pc' := 45) dX7_fits_44 rfl rfl ?_
      refine zf_st (pc' := 46) (L2 := [some (.inr (.inr (1, 0))), some (.inl v1), some (.inl x1), some (.inl 0), none]) dX7_fits_45 rfl (fun _ _ _ => rfl) rfl rfl rfl rfl rfl rfl ?_
      refine zf_ic (v := 0) (pc' := 47) dX7_fits_46 rfl rfl ?_
      refine zf_st (pc' := 49) (L2 := [some (.inr (.inr (1, 0))), some (.inl v1), some (.inl x1), some (.inl 0), some (.inl 0)]) dX7_fits_47 rfl (fun _ _ _ => rfl) rfl rfl rfl rfl rfl rfl ?_
      obtain ⟨n49, h⟩ := h
      exact zf_lo (zq_97_49 (by omega) n49 _ _ _ h) ⟨rfl, rfl, rfl, rfl, trivial⟩
    · replace h := h.2 g
      refine zf_ld (pc' := 39) (v := .inr (.inr (1, 0))) dX7_fits_38 rfl (fun _ _ _ => rfl) rfl rfl rfl ?_
      refine zf_ic (v := 5) (pc' := 40) dX7_fits_39 rfl rfl ?_
      refine zf_iv (k := 109) (pc' := 43) (r := []) dX7_fits_40 rfl rfl rfl rfl (by decide) rfl rfl rfl (zr_109 (by omega) h) (zf_kI (fun x13 m14 h => ?_))
      exact zf_ri dX7_fits_43 rfl h
  · replace h := h.2 g
    refine zf_ld (pc' := 11) (v := .inr (.inr (1, 0))) dX7_fits_10 rfl (fun _ _ _ => rfl) rfl rfl rfl ?_
    refine zf_ld (pc' := 12) (v := .inl x1) dX7_fits_11 rfl (fun _ _ _ => rfl) rfl rfl rfl ?_
    refine zf_iv (k := 109) (pc' := 15) (r := []) dX7_fits_12 rfl rfl rfl rfl (by decide) rfl rfl rfl (zr_109 (by omega) h) (zf_kI (fun x15 m16 h => ?_))
    exact zf_ri dX7_fits_15 rfl h
def zt_123 : zx_MT := (7, yX7_leastToTheEnd, cX7_leastToTheEnd, 4, (some FieldType.int), 2, 0)
theorem zm_123 : zx_m 123 = zt_123 := rfl
theorem dX7_leastToTheEnd_r0 : zdcP cX7_leastToTheEnd 0 [(.getstatic 177, 3), (.iload_n 2, 1), (.iaload, 1), (.istore_n 3, 1), (.iload_n 3, 1), (.getstatic 180, 3), (.iload_n 2, 1), (.iaload, 1), (.if_icmp .gt 55, 3), (.aload_n 0, 1), (.getfield 40, 3), (.aload_n 0, 1), (.getfield 23, 3), (.invokevirtual 239, 3), (.aload_n 0, 1), (.getfield 40, 3)] := zdcA_ok (by decide +kernel)
theorem dX7_leastToTheEnd_0 : decode cX7_leastToTheEnd 0 = .ok (.getstatic 177, 3) := dX7_leastToTheEnd_r0.1
theorem dX7_leastToTheEnd_3 : decode cX7_leastToTheEnd 3 = .ok (.iload_n 2, 1) := dX7_leastToTheEnd_r0.2.1
theorem dX7_leastToTheEnd_4 : decode cX7_leastToTheEnd 4 = .ok (.iaload, 1) := dX7_leastToTheEnd_r0.2.2.1
theorem dX7_leastToTheEnd_5 : decode cX7_leastToTheEnd 5 = .ok (.istore_n 3, 1) := dX7_leastToTheEnd_r0.2.2.2.1
theorem dX7_leastToTheEnd_6 : decode cX7_leastToTheEnd 6 = .ok (.iload_n 3, 1) := dX7_leastToTheEnd_r0.2.2.2.2.1
theorem dX7_leastToTheEnd_7 : decode cX7_leastToTheEnd 7 = .ok (.getstatic 180, 3) := dX7_leastToTheEnd_r0.2.2.2.2.2.1
theorem dX7_leastToTheEnd_10 : decode cX7_leastToTheEnd 10 = .ok (.iload_n 2, 1) := dX7_leastToTheEnd_r0.2.2.2.2.2.2.1
theorem dX7_leastToTheEnd_11 : decode cX7_leastToTheEnd 11 = .ok (.iaload, 1) := dX7_leastToTheEnd_r0.2.2.2.2.2.2.2.1
theorem dX7_leastToTheEnd_12 : decode cX7_leastToTheEnd 12 = .ok (.if_icmp .gt 55, 3) := dX7_leastToTheEnd_r0.2.2.2.2.2.2.2.2.1
theorem dX7_leastToTheEnd_15 : decode cX7_leastToTheEnd 15 = .ok (.aload_n 0, 1) := dX7_leastToTheEnd_r0.2.2.2.2.2.2.2.2.2.1
theorem dX7_leastToTheEnd_16 : decode cX7_leastToTheEnd 16 = .ok (.getfield 40, 3) := dX7_leastToTheEnd_r0.2.2.2.2.2.2.2.2.2.2.1
theorem dX7_leastToTheEnd_19 : decode cX7_leastToTheEnd 19 = .ok (.aload_n 0, 1) := dX7_leastToTheEnd_r0.2.2.2.2.2.2.2.2.2.2.2.1
theorem dX7_leastToTheEnd_20 : decode cX7_leastToTheEnd 20 = .ok (.getfield 23, 3) := dX7_leastToTheEnd_r0.2.2.2.2.2.2.2.2.2.2.2.2.1
theorem dX7_leastToTheEnd_23 : decode cX7_leastToTheEnd 23 = .ok (.invokevirtual 239, 3) := dX7_leastToTheEnd_r0.2.2.2.2.2.2.2.2.2.2.2.2.2.1
theorem dX7_leastToTheEnd_26 : decode cX7_leastToTheEnd 26 = .ok (.aload_n 0, 1) := dX7_leastToTheEnd_r0.2.2.2.2.2.2.2.2.2.2.2.2.2.2.1
theorem dX7_leastToTheEnd_27 : decode cX7_leastToTheEnd 27 = .ok (.getfield 40, 3) := dX7_leastToTheEnd_r0.2.2.2.2.2.2.2.2.2.2.2.2.2.2.2.1
theorem dX7_leastToTheEnd_r30 : zdcP cX7_leastToTheEnd 30 [(.getfield 246, 3), (.iload_n 2, 1), (.iload_n 3, 1), (.invokevirtual 186, 3), (.aload_n 0, 1), (.getfield 40, 3), (.iload_n 1, 1), (.invokevirtual 242, 3), (.aload_n 0, 1), (.getfield 40, 3), (.getfield 246, 3), (.invokevirtual 335, 3), (.ifCond .eq 5, 3), (.iload_n 3, 1), (.ireturn, 1), (.iinc 3 1, 3)] := zdcA_ok (by decide +kernel)
theorem dX7_leastToTheEnd_30 : decode cX7_leastToTheEnd 30 = .ok (.getfield 246, 3) := dX7_leastToTheEnd_r30.1
theorem dX7_leastToTheEnd_33 : decode cX7_leastToTheEnd 33 = .ok (.iload_n 2, 1) := dX7_leastToTheEnd_r30.2.1
theorem dX7_leastToTheEnd_34 : decode cX7_leastToTheEnd 34 = .ok (.iload_n 3, 1) := dX7_leastToTheEnd_r30.2.2.1
theorem dX7_leastToTheEnd_35 : decode cX7_leastToTheEnd 35 = .ok (.invokevirtual 186, 3) := dX7_leastToTheEnd_r30.2.2.2.1
theorem dX7_leastToTheEnd_38 : decode cX7_leastToTheEnd 38 = .ok (.aload_n 0, 1) := dX7_leastToTheEnd_r30.2.2.2.2.1
theorem dX7_leastToTheEnd_39 : decode cX7_leastToTheEnd 39 = .ok (.getfield 40, 3) := dX7_leastToTheEnd_r30.2.2.2.2.2.1
theorem dX7_leastToTheEnd_42 : decode cX7_leastToTheEnd 42 = .ok (.iload_n 1, 1) := dX7_leastToTheEnd_r30.2.2.2.2.2.2.1
theorem dX7_leastToTheEnd_43 : decode cX7_leastToTheEnd 43 = .ok (.invokevirtual 242, 3) := dX7_leastToTheEnd_r30.2.2.2.2.2.2.2.1
theorem dX7_leastToTheEnd_46 : decode cX7_leastToTheEnd 46 = .ok (.aload_n 0, 1) := dX7_leastToTheEnd_r30.2.2.2.2.2.2.2.2.1
theorem dX7_leastToTheEnd_47 : decode cX7_leastToTheEnd 47 = .ok (.getfield 40, 3) := dX7_leastToTheEnd_r30.2.2.2.2.2.2.2.2.2.1
theorem dX7_leastToTheEnd_50 : decode cX7_leastToTheEnd 50 = .ok (.getfield 246, 3) := dX7_leastToTheEnd_r30.2.2.2.2.2.2.2.2.2.2.1
theorem dX7_leastToTheEnd_53 : decode cX7_leastToTheEnd 53 = .ok (.invokevirtual 335, 3) := dX7_leastToTheEnd_r30.2.2.2.2.2.2.2.2.2.2.2.1
theorem dX7_leastToTheEnd_56 : decode cX7_leastToTheEnd 56 = .ok (.ifCond .eq 5, 3) := dX7_leastToTheEnd_r30.2.2.2.2.2.2.2.2.2.2.2.2.1
theorem dX7_leastToTheEnd_59 : decode cX7_leastToTheEnd 59 = .ok (.iload_n 3, 1) := dX7_leastToTheEnd_r30.2.2.2.2.2.2.2.2.2.2.2.2.2.1
theorem dX7_leastToTheEnd_60 : decode cX7_leastToTheEnd 60 = .ok (.ireturn, 1) := dX7_leastToTheEnd_r30.2.2.2.2.2.2.2.2.2.2.2.2.2.2.1
theorem dX7_leastToTheEnd_61 : decode cX7_leastToTheEnd 61 = .ok (.iinc 3 1, 3) := dX7_leastToTheEnd_r30.2.2.2.2.2.2.2.2.2.2.2.2.2.2.2.1
theorem dX7_leastToTheEnd_r64 : zdcP cX7_leastToTheEnd 64 [(.goto (-58), 3), (.iconst (-1), 1), (.ireturn, 1)] := zdcA_ok (by decide +kernel)
theorem dX7_leastToTheEnd_64 : decode cX7_leastToTheEnd 64 = .ok (.goto (-58), 3) := dX7_leastToTheEnd_r64.1
theorem dX7_leastToTheEnd_67 : decode cX7_leastToTheEnd 67 = .ok (.iconst (-1), 1) := dX7_leastToTheEnd_r64.2.1
theorem dX7_leastToTheEnd_68 : decode cX7_leastToTheEnd 68 = .ok (.ireturn, 1) := dX7_leastToTheEnd_r64.2.2.1
def wq_123_6 (v1 : Int32) (v2 : Int32) (Q : Int32 → zf_Me → Prop) : Nat → Int32 → zf_Me → Prop
  | 0, _, _ => False
  | n + 1, v3, m => ((0 ≤ (v2).toInt ∧ (v2).toInt < 5) ∧ ((v3.toInt > (((zx_sa.getD 3 []).getD (Int32.toInt v2).toNat 0)).toInt → Q (-1) m) ∧ (v3.toInt ≤ (((zx_sa.getD 3 []).getD (Int32.toInt v2).toNat 0)).toInt → wp_7 2 3 8 m (fun m2 => wp_46 19 3 20 v2 v3 m2 (fun m4 => wp_8 v1 m4 (fun m6 => wp_47 19 3 20 m6 (fun b7 m8 => ((b7 = false → wq_123_6 v1 v2 Q n (v3 + 1) m8) ∧ (b7 = true → Q v3 m8)))))))))
theorem zq_123_6 {d : Nat} (hd : 6 ≤ d) {v1 : Int32} {v2 : Int32} {Q : Int32 → zf_Me → Prop} : ∀ (n : Nat) (v3 : Int32) (m : zf_Me), wq_123_6 v1 v2 Q n v3 m → zf_W none 0 0 d zt_123 6 [some (.inr (.inr (1, 0))), some (.inl v1), some (.inl v2), some (.inl v3)] [] m (zf_I Q) := by
  obtain ⟨e, rfl⟩ : ∃ z, d = z + 1 := ⟨d - 1, by omega⟩
  intro n
  induction n with
  | zero =>
    intro v3 m h
    exact h.elim
  | succ n ih =>
    intro v3 m h
    unfold wq_123_6 at h
    refine zf_ld (pc' := 7) (v := .inl v3) dX7_leastToTheEnd_6 rfl (fun _ _ _ => rfl) rfl rfl rfl ?_
    refine zf_gs (g := 3) (pc' := 10) dX7_leastToTheEnd_7 rfl rfl rfl ?_
    refine zf_ld (pc' := 11) (v := .inl v2) dX7_leastToTheEnd_10 rfl (fun _ _ _ => rfl) rfl rfl rfl ?_
    refine zf_ials (pc' := 12) dX7_leastToTheEnd_11 rfl (by decide) (n := 5) rfl h.1 ?_
    replace h := h.2
    refine zf_icmp_gt (tgt := 67) (pc' := 15) dX7_leastToTheEnd_12 rfl rfl (fun g => ?_) (fun g => ?_)
    · replace h := h.1 g
      refine zf_ic (v := (-1)) (pc' := 68) dX7_leastToTheEnd_67 rfl rfl ?_
      exact zf_ri dX7_leastToTheEnd_68 rfl h
    · replace h := h.2 g
      refine zf_ld (pc' := 16) (v := .inr (.inr (1, 0))) dX7_leastToTheEnd_15 rfl (fun _ _ _ => rfl) rfl rfl rfl ?_
      refine zf_gfr (pc' := 19) (b := 18) dX7_leastToTheEnd_16 rfl rfl (by decide) rfl rfl ?_
      refine zf_ld (pc' := 20) (v := .inr (.inr (1, 0))) dX7_leastToTheEnd_19 rfl (fun _ _ _ => rfl) rfl rfl rfl ?_
      refine zf_gfr (pc' := 23) (b := 2) dX7_leastToTheEnd_20 rfl rfl (by decide) rfl rfl ?_
      refine zf_iv (k := 7) (pc' := 26) (r := []) dX7_leastToTheEnd_23 rfl rfl rfl rfl (by decide) rfl rfl rfl (zr_7 (by omega) zf_walk2 h) (zf_kO (fun m2 h => ?_))
      refine zf_ld (pc' := 27) (v := .inr (.inr (1, 0))) dX7_leastToTheEnd_26 rfl (fun _ _ _ => rfl) rfl rfl rfl ?_
      refine zf_gfr (pc' := 30) (b := 18) dX7_leastToTheEnd_27 rfl rfl (by decide) rfl rfl ?_
      refine zf_gfr (pc' := 33) (b := 19) dX7_leastToTheEnd_30 rfl rfl (by decide) rfl rfl ?_
      refine zf_ld (pc' := 34) (v := .inl v2) dX7_leastToTheEnd_33 rfl (fun _ _ _ => rfl) rfl rfl rfl ?_
      refine zf_ld (pc' := 35) (v := .inl v3) dX7_leastToTheEnd_34 rfl (fun _ _ _ => rfl) rfl rfl rfl ?_
      refine zf_iv (k := 46) (pc' := 38) (r := []) dX7_leastToTheEnd_35 rfl rfl rfl rfl zf_walk19.1 zf_walk19.2.1 rfl rfl (zr_46 (by omega) zf_walk19 h) (zf_kO (fun m4 h => ?_))
      refine zf_ld (pc' := 39) (v := .inr (.inr (1, 0))) dX7_leastToTheEnd_38 rfl (fun _ _ _ => rfl) rfl rfl rfl ?_
      refine zf_gfr (pc' := 42) (b := 18) dX7_leastToTheEnd_39 rfl rfl (by decide) rfl rfl ?_
      refine zf_ld (pc' := 43) (v := .inl v1) dX7_leastToTheEnd_42 rfl (fun _ _ _ => rfl) rfl rfl rfl ?_
      refine zf_iv (k := 8) (pc' := 46) (r := []) dX7_leastToTheEnd_43 rfl rfl rfl rfl (by decide) rfl rfl rfl (zr_8 (by omega) h) (zf_kO (fun m6 h => ?_))
      refine zf_ld (pc' := 47) (v := .inr (.inr (1, 0))) dX7_leastToTheEnd_46 rfl (fun _ _ _ => rfl) rfl rfl rfl ?_
      refine zf_gfr (pc' := 50) (b := 18) dX7_leastToTheEnd_47 rfl rfl (by decide) rfl rfl ?_
      refine zf_gfr (pc' := 53) (b := 19) dX7_leastToTheEnd_50 rfl rfl (by decide) rfl rfl ?_
      refine zf_iv (k := 47) (pc' := 56) (r := []) dX7_leastToTheEnd_53 rfl rfl rfl rfl zf_walk19.1 zf_walk19.2.1 rfl rfl (zr_47 (by omega) zf_walk19 h) (zf_kB (fun b7 m8 h => ?_))
      refine zf_ib_eq (tgt := 61) (pc' := 59) dX7_leastToTheEnd_56 rfl rfl (fun g => ?_) (fun g => ?_)
      · replace h := h.1 g
        refine zf_ii (y := (v3 + 1)) (L2 := [some (.inr (.inr (1, 0))), some (.inl v1), some (.inl v2), some (.inl (v3 + 1))]) (pc' := 64) dX7_leastToTheEnd_61 rfl rfl rfl rfl rfl ?_
        refine zf_goto (tgt := 6) dX7_leastToTheEnd_64 rfl ?_
        exact zf_lo (ih _ _ h) ⟨rfl, rfl, rfl, rfl, trivial⟩
      · replace h := h.2 g
        refine zf_ld (pc' := 60) (v := .inl v3) dX7_leastToTheEnd_59 rfl (fun _ _ _ => rfl) rfl rfl rfl ?_
        exact zf_ri dX7_leastToTheEnd_60 rfl h
def wp_123 (v1 : Int32) (v2 : Int32) (m : zf_Me) (Q : Int32 → zf_Me → Prop) : Prop := ((0 ≤ (v2).toInt ∧ (v2).toInt < 5) ∧ (∃ n6, wq_123_6 v1 v2 Q n6 ((zx_sa.getD 2 []).getD (Int32.toInt v2).toNat 0) m))
theorem zr_123 {d : Nat} (hd : 6 ≤ d) {v1 : Int32} {v2 : Int32} {Q : Int32 → zf_Me → Prop} {m : zf_Me} (h : wp_123 v1 v2 m Q) : zf_M d 123 [.inr (.inr (1, 0)), .inl v1, .inl v2] m (zf_I Q) := by
  unfold wp_123 at h
  refine zf_M_of (Nat.le_of_ble_eq_true rfl) zm_123 (L := [some (.inr (.inr (1, 0))), some (.inl v1), some (.inl v2), none]) rfl ?_
  refine zf_gs (g := 2) (pc' := 3) dX7_leastToTheEnd_0 rfl rfl rfl ?_
  refine zf_ld (pc' := 4) (v := .inl v2) dX7_leastToTheEnd_3 rfl (fun _ _ _ => rfl) rfl rfl rfl ?_
  refine zf_ials (pc' := 5) dX7_leastToTheEnd_4 rfl (by decide) (n := 5) rfl h.1 ?_
  replace h := h.2
  refine zf_st (pc' := 6) (L2 := [some (.inr (.inr (1, 0))), some (.inl v1), some (.inl v2), some (.inl ((zx_sa.getD 2 []).getD (Int32.toInt v2).toNat 0))]) dX7_leastToTheEnd_5 rfl (fun _ _ _ => rfl) rfl rfl rfl rfl rfl rfl ?_
  obtain ⟨n6, h⟩ := h
  exact zf_lo (zq_123_6 (by omega) n6 _ _ h) ⟨rfl, rfl, rfl, rfl, trivial⟩
def zt_98 : zx_MT := (7, yX7_enough, cX7_enough, 1, (some FieldType.int), 0, 0)
theorem zm_98 : zx_m 98 = zt_98 := rfl
theorem dX7_enough_r0 : zdcP cX7_enough 0 [(.aload_n 0, 1), (.iconst 3, 1), (.iconst 3, 1), (.invokevirtual 287, 3), (.ireturn, 1)] := zdcA_ok (by decide +kernel)
theorem dX7_enough_0 : decode cX7_enough 0 = .ok (.aload_n 0, 1) := dX7_enough_r0.1
theorem dX7_enough_1 : decode cX7_enough 1 = .ok (.iconst 3, 1) := dX7_enough_r0.2.1
theorem dX7_enough_2 : decode cX7_enough 2 = .ok (.iconst 3, 1) := dX7_enough_r0.2.2.1
theorem dX7_enough_3 : decode cX7_enough 3 = .ok (.invokevirtual 287, 3) := dX7_enough_r0.2.2.2.1
theorem dX7_enough_6 : decode cX7_enough 6 = .ok (.ireturn, 1) := dX7_enough_r0.2.2.2.2.1
def wp_98 (m : zf_Me) (Q : Int32 → zf_Me → Prop) : Prop := wp_123 3 3 m (fun x1 m2 => Q x1 m2)
theorem zr_98 {d : Nat} (hd : 7 ≤ d) {Q : Int32 → zf_Me → Prop} {m : zf_Me} (h : wp_98 m Q) : zf_M d 98 [.inr (.inr (1, 0))] m (zf_I Q) := by
  obtain ⟨e, rfl⟩ : ∃ z, d = z + 1 := ⟨d - 1, by omega⟩
  unfold wp_98 at h
  refine zf_M_of (Nat.le_of_ble_eq_true rfl) zm_98 (L := [some (.inr (.inr (1, 0)))]) rfl ?_
  refine zf_ld (pc' := 1) (v := .inr (.inr (1, 0))) dX7_enough_0 rfl (fun _ _ _ => rfl) rfl rfl rfl ?_
  refine zf_ic (v := 3) (pc' := 2) dX7_enough_1 rfl rfl ?_
  refine zf_ic (v := 3) (pc' := 3) dX7_enough_2 rfl rfl ?_
  refine zf_iv (k := 123) (pc' := 6) (r := []) dX7_enough_3 rfl rfl rfl rfl (by decide) rfl rfl rfl (zr_123 (by omega) h) (zf_kI (fun x1 m2 h => ?_))
  exact zf_ri dX7_enough_6 rfl h
def zt_99 : zx_MT := (7, yX7_leastWorn, cX7_leastWorn, 2, (some FieldType.int), 1, 0)
theorem zm_99 : zx_m 99 = zt_99 := rfl
theorem dX7_leastWorn_r0 : zdcP cX7_leastWorn 0 [(.iload_n 1, 1), (.invokestatic 236, 3), (.ifCond .eq 12, 3), (.aload_n 0, 1), (.iload_n 1, 1), (.iconst 2, 1), (.invokevirtual 287, 3), (.goto 9, 3), (.aload_n 0, 1), (.bipush 6, 2), (.invokevirtual 162, 3), (.ireturn, 1)] := zdcA_ok (by decide +kernel)
theorem dX7_leastWorn_0 : decode cX7_leastWorn 0 = .ok (.iload_n 1, 1) := dX7_leastWorn_r0.1
theorem dX7_leastWorn_1 : decode cX7_leastWorn 1 = .ok (.invokestatic 236, 3) := dX7_leastWorn_r0.2.1
theorem dX7_leastWorn_4 : decode cX7_leastWorn 4 = .ok (.ifCond .eq 12, 3) := dX7_leastWorn_r0.2.2.1
theorem dX7_leastWorn_7 : decode cX7_leastWorn 7 = .ok (.aload_n 0, 1) := dX7_leastWorn_r0.2.2.2.1
theorem dX7_leastWorn_8 : decode cX7_leastWorn 8 = .ok (.iload_n 1, 1) := dX7_leastWorn_r0.2.2.2.2.1
theorem dX7_leastWorn_9 : decode cX7_leastWorn 9 = .ok (.iconst 2, 1) := dX7_leastWorn_r0.2.2.2.2.2.1
theorem dX7_leastWorn_10 : decode cX7_leastWorn 10 = .ok (.invokevirtual 287, 3) := dX7_leastWorn_r0.2.2.2.2.2.2.1
theorem dX7_leastWorn_13 : decode cX7_leastWorn 13 = .ok (.goto 9, 3) := dX7_leastWorn_r0.2.2.2.2.2.2.2.1
theorem dX7_leastWorn_16 : decode cX7_leastWorn 16 = .ok (.aload_n 0, 1) := dX7_leastWorn_r0.2.2.2.2.2.2.2.2.1
theorem dX7_leastWorn_17 : decode cX7_leastWorn 17 = .ok (.bipush 6, 2) := dX7_leastWorn_r0.2.2.2.2.2.2.2.2.2.1
theorem dX7_leastWorn_19 : decode cX7_leastWorn 19 = .ok (.invokevirtual 162, 3) := dX7_leastWorn_r0.2.2.2.2.2.2.2.2.2.2.1
theorem dX7_leastWorn_22 : decode cX7_leastWorn 22 = .ok (.ireturn, 1) := dX7_leastWorn_r0.2.2.2.2.2.2.2.2.2.2.2.1
def wp_99 (v1 : Int32) (m : zf_Me) (Q : Int32 → zf_Me → Prop) : Prop := wp_116 v1 m (fun b1 m2 => ((b1 = false → wp_110 6 m2 (fun x3 m4 => Q x3 m4)) ∧ (b1 = true → wp_123 v1 2 m2 (fun x5 m6 => Q x5 m6))))
theorem zr_99 {d : Nat} (hd : 7 ≤ d) {v1 : Int32} {Q : Int32 → zf_Me → Prop} {m : zf_Me} (h : wp_99 v1 m Q) : zf_M d 99 [.inr (.inr (1, 0)), .inl v1] m (zf_I Q) := by
  obtain ⟨e, rfl⟩ : ∃ z, d = z + 1 := ⟨d - 1, by omega⟩
  unfold wp_99 at h
  refine zf_M_of (Nat.le_of_ble_eq_true rfl) zm_99 (L := [some (.inr (.inr (1, 0))), some (.inl v1)]) rfl ?_
  refine zf_ld (pc' := 1) (v := .inl v1) dX7_leastWorn_0 rfl (fun _ _ _ => rfl) rfl rfl rfl ?_
  refine zf_is (k := 116) (pc' := 4) (r := []) dX7_leastWorn_1 rfl rfl rfl rfl rfl (zr_116 (by omega) h) (zf_kB (fun b1 m2 h => ?_))
  refine zf_ib_eq (tgt := 16) (pc' := 7) dX7_leastWorn_4 rfl rfl (fun g => ?_) (fun g => ?_)
  · replace h := h.1 g
    refine zf_ld (pc' := 17) (v := .inr (.inr (1, 0))) dX7_leastWorn_16 rfl (fun _ _ _ => rfl) rfl rfl rfl ?_
    refine zf_bi (v := 6) (pc' := 19) dX7_leastWorn_17 rfl rfl ?_
    refine zf_iv (k := 110) (pc' := 22) (r := []) dX7_leastWorn_19 rfl rfl rfl rfl (by decide) rfl rfl rfl (zr_110 (by omega) h) (zf_kI (fun x3 m4 h => ?_))
    exact zf_ri dX7_leastWorn_22 rfl h
  · replace h := h.2 g
    refine zf_ld (pc' := 8) (v := .inr (.inr (1, 0))) dX7_leastWorn_7 rfl (fun _ _ _ => rfl) rfl rfl rfl ?_
    refine zf_ld (pc' := 9) (v := .inl v1) dX7_leastWorn_8 rfl (fun _ _ _ => rfl) rfl rfl rfl ?_
    refine zf_ic (v := 2) (pc' := 10) dX7_leastWorn_9 rfl rfl ?_
    refine zf_iv (k := 123) (pc' := 13) (r := []) dX7_leastWorn_10 rfl rfl rfl rfl (by decide) rfl rfl rfl (zr_123 (by omega) h) (zf_kI (fun x5 m6 h => ?_))
    refine zf_goto (tgt := 22) dX7_leastWorn_13 rfl ?_
    exact zf_ri dX7_leastWorn_22 rfl h
def zt_100 : zx_MT := (7, yX7_does, cX7_does, 2, (some FieldType.int), 1, 0)
theorem zm_100 : zx_m 100 = zt_100 := rfl
theorem dX7_does_r0 : zdcP cX7_does 0 [(.aload_n 0, 1), (.getfield 23, 3), (.iload_n 1, 1), (.invokevirtual 208, 3), (.ifCond .ne 10, 3), (.aload_n 0, 1), (.bipush 6, 2), (.invokevirtual 82, 3), (.ireturn, 1), (.aload_n 0, 1), (.getfield 23, 3), (.iload_n 1, 1), (.invokevirtual 264, 3), (.aload_n 0, 1), (.getfield 23, 3), (.getfield 221, 3)] := zdcA_ok (by decide +kernel)
theorem dX7_does_0 : decode cX7_does 0 = .ok (.aload_n 0, 1) := dX7_does_r0.1
theorem dX7_does_1 : decode cX7_does 1 = .ok (.getfield 23, 3) := dX7_does_r0.2.1
theorem dX7_does_4 : decode cX7_does 4 = .ok (.iload_n 1, 1) := dX7_does_r0.2.2.1
theorem dX7_does_5 : decode cX7_does 5 = .ok (.invokevirtual 208, 3) := dX7_does_r0.2.2.2.1
theorem dX7_does_8 : decode cX7_does 8 = .ok (.ifCond .ne 10, 3) := dX7_does_r0.2.2.2.2.1
theorem dX7_does_11 : decode cX7_does 11 = .ok (.aload_n 0, 1) := dX7_does_r0.2.2.2.2.2.1
theorem dX7_does_12 : decode cX7_does 12 = .ok (.bipush 6, 2) := dX7_does_r0.2.2.2.2.2.2.1
theorem dX7_does_14 : decode cX7_does 14 = .ok (.invokevirtual 82, 3) := dX7_does_r0.2.2.2.2.2.2.2.1
theorem dX7_does_17 : decode cX7_does 17 = .ok (.ireturn, 1) := dX7_does_r0.2.2.2.2.2.2.2.2.1
theorem dX7_does_18 : decode cX7_does 18 = .ok (.aload_n 0, 1) := dX7_does_r0.2.2.2.2.2.2.2.2.2.1
theorem dX7_does_19 : decode cX7_does 19 = .ok (.getfield 23, 3) := dX7_does_r0.2.2.2.2.2.2.2.2.2.2.1
theorem dX7_does_22 : decode cX7_does 22 = .ok (.iload_n 1, 1) := dX7_does_r0.2.2.2.2.2.2.2.2.2.2.2.1
theorem dX7_does_23 : decode cX7_does 23 = .ok (.invokevirtual 264, 3) := dX7_does_r0.2.2.2.2.2.2.2.2.2.2.2.2.1
theorem dX7_does_26 : decode cX7_does 26 = .ok (.aload_n 0, 1) := dX7_does_r0.2.2.2.2.2.2.2.2.2.2.2.2.2.1
theorem dX7_does_27 : decode cX7_does 27 = .ok (.getfield 23, 3) := dX7_does_r0.2.2.2.2.2.2.2.2.2.2.2.2.2.2.1
theorem dX7_does_30 : decode cX7_does 30 = .ok (.getfield 221, 3) := dX7_does_r0.2.2.2.2.2.2.2.2.2.2.2.2.2.2.2.1
theorem dX7_does_33 : decode cX7_does 33 = .ok (.ireturn, 1) := zdc_ok (by decide +kernel)
def wp_100 (v1 : Int32) (m : zf_Me) (Q : Int32 → zf_Me → Prop) : Prop := wp_52 2 3 8 v1 m (fun b1 m2 => ((b1 = true → wp_56 2 3 8 v1 m2 (fun m4 => Q (m4.1 2 10) m4)) ∧ (b1 = false → wp_109 6 m2 (fun x5 m6 => Q x5 m6))))
theorem zr_100 {d : Nat} (hd : 4 ≤ d) {v1 : Int32} {Q : Int32 → zf_Me → Prop} {m : zf_Me} (h : wp_100 v1 m Q) : zf_M d 100 [.inr (.inr (1, 0)), .inl v1] m (zf_I Q) := by
  obtain ⟨e, rfl⟩ : ∃ z, d = z + 1 := ⟨d - 1, by omega⟩
  unfold wp_100 at h
  refine zf_M_of (Nat.le_of_ble_eq_true rfl) zm_100 (L := [some (.inr (.inr (1, 0))), some (.inl v1)]) rfl ?_
  refine zf_ld (pc' := 1) (v := .inr (.inr (1, 0))) dX7_does_0 rfl (fun _ _ _ => rfl) rfl rfl rfl ?_
  refine zf_gfr (pc' := 4) (b := 2) dX7_does_1 rfl rfl (by decide) rfl rfl ?_
  refine zf_ld (pc' := 5) (v := .inl v1) dX7_does_4 rfl (fun _ _ _ => rfl) rfl rfl rfl ?_
  refine zf_iv (k := 52) (pc' := 8) (r := []) dX7_does_5 rfl rfl rfl rfl zf_walk2.1 zf_walk2.2.1 rfl rfl (zr_52 (by omega) zf_walk2 h) (zf_kB (fun b1 m2 h => ?_))
  refine zf_ib_ne (tgt := 18) (pc' := 11) dX7_does_8 rfl rfl (fun g => ?_) (fun g => ?_)
  · replace h := h.1 g
    refine zf_ld (pc' := 19) (v := .inr (.inr (1, 0))) dX7_does_18 rfl (fun _ _ _ => rfl) rfl rfl rfl ?_
    refine zf_gfr (pc' := 22) (b := 2) dX7_does_19 rfl rfl (by decide) rfl rfl ?_
    refine zf_ld (pc' := 23) (v := .inl v1) dX7_does_22 rfl (fun _ _ _ => rfl) rfl rfl rfl ?_
    refine zf_iv (k := 56) (pc' := 26) (r := []) dX7_does_23 rfl rfl rfl rfl zf_walk2.1 zf_walk2.2.1 rfl rfl (zr_56 (by omega) zf_walk2 h) (zf_kO (fun m4 h => ?_))
    refine zf_ld (pc' := 27) (v := .inr (.inr (1, 0))) dX7_does_26 rfl (fun _ _ _ => rfl) rfl rfl rfl ?_
    refine zf_gfr (pc' := 30) (b := 2) dX7_does_27 rfl rfl (by decide) rfl rfl ?_
    refine zf_gfi (pc' := 33) dX7_does_30 rfl rfl zf_walk2.1 zf_walk2.2.1 rfl ?_
    exact zf_ri dX7_does_33 rfl h
  · replace h := h.2 g
    refine zf_ld (pc' := 12) (v := .inr (.inr (1, 0))) dX7_does_11 rfl (fun _ _ _ => rfl) rfl rfl rfl ?_
    refine zf_bi (v := 6) (pc' := 14) dX7_does_12 rfl rfl ?_
    refine zf_iv (k := 109) (pc' := 17) (r := []) dX7_does_14 rfl rfl rfl rfl (by decide) rfl rfl rfl (zr_109 (by omega) h) (zf_kI (fun x5 m6 h => ?_))
    exact zf_ri dX7_does_17 rfl h
def zt_211 : zx_MT := (9, yJ6_bitCount_0f7a4, cJ6_bitCount_0f7a4, 1, (some FieldType.int), 1, 1)
theorem zm_211 : zx_m 211 = zt_211 := rfl
theorem dJ6_bitCount_0f7a4_r0 : zdcP cJ6_bitCount_0f7a4 0 [(.iload_n 0, 1), (.iload_n 0, 1), (.iconst 1, 1), (.iushr, 1), (.ldc_w 265, 3), (.iand, 1), (.isub, 1), (.istore_n 0, 1), (.iload_n 0, 1), (.ldc_w 266, 3), (.iand, 1), (.iload_n 0, 1), (.iconst 2, 1), (.iushr, 1), (.ldc_w 266, 3), (.iand, 1)] := zdcA_ok (by decide +kernel)
theorem dJ6_bitCount_0f7a4_0 : decode cJ6_bitCount_0f7a4 0 = .ok (.iload_n 0, 1) := dJ6_bitCount_0f7a4_r0.1
theorem dJ6_bitCount_0f7a4_1 : decode cJ6_bitCount_0f7a4 1 = .ok (.iload_n 0, 1) := dJ6_bitCount_0f7a4_r0.2.1
theorem dJ6_bitCount_0f7a4_2 : decode cJ6_bitCount_0f7a4 2 = .ok (.iconst 1, 1) := dJ6_bitCount_0f7a4_r0.2.2.1
theorem dJ6_bitCount_0f7a4_3 : decode cJ6_bitCount_0f7a4 3 = .ok (.iushr, 1) := dJ6_bitCount_0f7a4_r0.2.2.2.1
theorem dJ6_bitCount_0f7a4_4 : decode cJ6_bitCount_0f7a4 4 = .ok (.ldc_w 265, 3) := dJ6_bitCount_0f7a4_r0.2.2.2.2.1
theorem dJ6_bitCount_0f7a4_7 : decode cJ6_bitCount_0f7a4 7 = .ok (.iand, 1) := dJ6_bitCount_0f7a4_r0.2.2.2.2.2.1
theorem dJ6_bitCount_0f7a4_8 : decode cJ6_bitCount_0f7a4 8 = .ok (.isub, 1) := dJ6_bitCount_0f7a4_r0.2.2.2.2.2.2.1
theorem dJ6_bitCount_0f7a4_9 : decode cJ6_bitCount_0f7a4 9 = .ok (.istore_n 0, 1) := dJ6_bitCount_0f7a4_r0.2.2.2.2.2.2.2.1
theorem dJ6_bitCount_0f7a4_10 : decode cJ6_bitCount_0f7a4 10 = .ok (.iload_n 0, 1) := dJ6_bitCount_0f7a4_r0.2.2.2.2.2.2.2.2.1
theorem dJ6_bitCount_0f7a4_11 : decode cJ6_bitCount_0f7a4 11 = .ok (.ldc_w 266, 3) := dJ6_bitCount_0f7a4_r0.2.2.2.2.2.2.2.2.2.1
theorem dJ6_bitCount_0f7a4_14 : decode cJ6_bitCount_0f7a4 14 = .ok (.iand, 1) := dJ6_bitCount_0f7a4_r0.2.2.2.2.2.2.2.2.2.2.1
theorem dJ6_bitCount_0f7a4_15 : decode cJ6_bitCount_0f7a4 15 = .ok (.iload_n 0, 1) := dJ6_bitCount_0f7a4_r0.2.2.2.2.2.2.2.2.2.2.2.1
theorem dJ6_bitCount_0f7a4_16 : decode cJ6_bitCount_0f7a4 16 = .ok (.iconst 2, 1) := dJ6_bitCount_0f7a4_r0.2.2.2.2.2.2.2.2.2.2.2.2.1
theorem dJ6_bitCount_0f7a4_17 : decode cJ6_bitCount_0f7a4 17 = .ok (.iushr, 1) := dJ6_bitCount_0f7a4_r0.2.2.2.2.2.2.2.2.2.2.2.2.2.1
theorem dJ6_bitCount_0f7a4_18 : decode cJ6_bitCount_0f7a4 18 = .ok (.ldc_w 266, 3) := dJ6_bitCount_0f7a4_r0.2.2.2.2.2.2.2.2.2.2.2.2.2.2.1
theorem dJ6_bitCount_0f7a4_21 : decode cJ6_bitCount_0f7a4 21 = .ok (.iand, 1) := dJ6_bitCount_0f7a4_r0.2.2.2.2.2.2.2.2.2.2.2.2.2.2.2.1
theorem dJ6_bitCount_0f7a4_r22 : zdcP cJ6_bitCount_0f7a4 22 [(.iadd, 1), (.istore_n 0, 1), (.iload_n 0, 1), (.iload_n 0, 1), (.iconst 4, 1), (.iushr, 1), (.iadd, 1), (.ldc_w 267, 3), (.iand, 1), (.istore_n 0, 1), (.iload_n 0, 1), (.iload_n 0, 1), (.bipush 8, 2), (.iushr, 1), (.iadd, 1), (.istore_n 0, 1)] := zdcA_ok (by decide +kernel)
theorem dJ6_bitCount_0f7a4_22 : decode cJ6_bitCount_0f7a4 22 = .ok (.iadd, 1) := dJ6_bitCount_0f7a4_r22.1
theorem dJ6_bitCount_0f7a4_23 : decode cJ6_bitCount_0f7a4 23 = .ok (.istore_n 0, 1) := dJ6_bitCount_0f7a4_r22.2.1
theorem dJ6_bitCount_0f7a4_24 : decode cJ6_bitCount_0f7a4 24 = .ok (.iload_n 0, 1) := dJ6_bitCount_0f7a4_r22.2.2.1
theorem dJ6_bitCount_0f7a4_25 : decode cJ6_bitCount_0f7a4 25 = .ok (.iload_n 0, 1) := dJ6_bitCount_0f7a4_r22.2.2.2.1
theorem dJ6_bitCount_0f7a4_26 : decode cJ6_bitCount_0f7a4 26 = .ok (.iconst 4, 1) := dJ6_bitCount_0f7a4_r22.2.2.2.2.1
theorem dJ6_bitCount_0f7a4_27 : decode cJ6_bitCount_0f7a4 27 = .ok (.iushr, 1) := dJ6_bitCount_0f7a4_r22.2.2.2.2.2.1
theorem dJ6_bitCount_0f7a4_28 : decode cJ6_bitCount_0f7a4 28 = .ok (.iadd, 1) := dJ6_bitCount_0f7a4_r22.2.2.2.2.2.2.1
theorem dJ6_bitCount_0f7a4_29 : decode cJ6_bitCount_0f7a4 29 = .ok (.ldc_w 267, 3) := dJ6_bitCount_0f7a4_r22.2.2.2.2.2.2.2.1
theorem dJ6_bitCount_0f7a4_32 : decode cJ6_bitCount_0f7a4 32 = .ok (.iand, 1) := dJ6_bitCount_0f7a4_r22.2.2.2.2.2.2.2.2.1
theorem dJ6_bitCount_0f7a4_33 : decode cJ6_bitCount_0f7a4 33 = .ok (.istore_n 0, 1) := dJ6_bitCount_0f7a4_r22.2.2.2.2.2.2.2.2.2.1
theorem dJ6_bitCount_0f7a4_34 : decode cJ6_bitCount_0f7a4 34 = .ok (.iload_n 0, 1) := dJ6_bitCount_0f7a4_r22.2.2.2.2.2.2.2.2.2.2.1
theorem dJ6_bitCount_0f7a4_35 : decode cJ6_bitCount_0f7a4 35 = .ok (.iload_n 0, 1) := dJ6_bitCount_0f7a4_r22.2.2.2.2.2.2.2.2.2.2.2.1
theorem dJ6_bitCount_0f7a4_36 : decode cJ6_bitCount_0f7a4 36 = .ok (.bipush 8, 2) := dJ6_bitCount_0f7a4_r22.2.2.2.2.2.2.2.2.2.2.2.2.1
theorem dJ6_bitCount_0f7a4_38 : decode cJ6_bitCount_0f7a4 38 = .ok (.iushr, 1) := dJ6_bitCount_0f7a4_r22.2.2.2.2.2.2.2.2.2.2.2.2.2.1
theorem dJ6_bitCount_0f7a4_39 : decode cJ6_bitCount_0f7a4 39 = .ok (.iadd, 1) := dJ6_bitCount_0f7a4_r22.2.2.2.2.2.2.2.2.2.2.2.2.2.2.1
theorem dJ6_bitCount_0f7a4_40 : decode cJ6_bitCount_0f7a4 40 = .ok (.istore_n 0, 1) := dJ6_bitCount_0f7a4_r22.2.2.2.2.2.2.2.2.2.2.2.2.2.2.2.1
theorem dJ6_bitCount_0f7a4_r41 : zdcP cJ6_bitCount_0f7a4 41 [(.iload_n 0, 1), (.iload_n 0, 1), (.bipush 16, 2), (.iushr, 1), (.iadd, 1), (.istore_n 0, 1), (.iload_n 0, 1), (.bipush 63, 2), (.iand, 1), (.ireturn, 1)] := zdcA_ok (by decide +kernel)
theorem dJ6_bitCount_0f7a4_41 : decode cJ6_bitCount_0f7a4 41 = .ok (.iload_n 0, 1) := dJ6_bitCount_0f7a4_r41.1
theorem dJ6_bitCount_0f7a4_42 : decode cJ6_bitCount_0f7a4 42 = .ok (.iload_n 0, 1) := dJ6_bitCount_0f7a4_r41.2.1
theorem dJ6_bitCount_0f7a4_43 : decode cJ6_bitCount_0f7a4 43 = .ok (.bipush 16, 2) := dJ6_bitCount_0f7a4_r41.2.2.1
theorem dJ6_bitCount_0f7a4_45 : decode cJ6_bitCount_0f7a4 45 = .ok (.iushr, 1) := dJ6_bitCount_0f7a4_r41.2.2.2.1
theorem dJ6_bitCount_0f7a4_46 : decode cJ6_bitCount_0f7a4 46 = .ok (.iadd, 1) := dJ6_bitCount_0f7a4_r41.2.2.2.2.1
theorem dJ6_bitCount_0f7a4_47 : decode cJ6_bitCount_0f7a4 47 = .ok (.istore_n 0, 1) := dJ6_bitCount_0f7a4_r41.2.2.2.2.2.1
theorem dJ6_bitCount_0f7a4_48 : decode cJ6_bitCount_0f7a4 48 = .ok (.iload_n 0, 1) := dJ6_bitCount_0f7a4_r41.2.2.2.2.2.2.1
theorem dJ6_bitCount_0f7a4_49 : decode cJ6_bitCount_0f7a4 49 = .ok (.bipush 63, 2) := dJ6_bitCount_0f7a4_r41.2.2.2.2.2.2.2.1
theorem dJ6_bitCount_0f7a4_51 : decode cJ6_bitCount_0f7a4 51 = .ok (.iand, 1) := dJ6_bitCount_0f7a4_r41.2.2.2.2.2.2.2.2.1
theorem dJ6_bitCount_0f7a4_52 : decode cJ6_bitCount_0f7a4 52 = .ok (.ireturn, 1) := dJ6_bitCount_0f7a4_r41.2.2.2.2.2.2.2.2.2.1
def wp_211 (v0 : Int32) (m : zf_Me) (Q : Int32 → zf_Me → Prop) : Prop := Q ((((((((v0 - ((((Int32.toUInt32 v0) >>> ((Int32.toUInt32 1) &&& Int32.toUInt32 31)).toInt32) &&& 1431655765)) &&& 858993459) + ((((Int32.toUInt32 (v0 - ((((Int32.toUInt32 v0) >>> ((Int32.toUInt32 1) &&& Int32.toUInt32 31)).toInt32) &&& 1431655765))) >>> ((Int32.toUInt32 2) &&& Int32.toUInt32 31)).toInt32) &&& 858993459)) + (((Int32.toUInt32 (((v0 - ((((Int32.toUInt32 v0) >>> ((Int32.toUInt32 1) &&& Int32.toUInt32 31)).toInt32) &&& 1431655765)) &&& 858993459) + ((((Int32.toUInt32 (v0 - ((((Int32.toUInt32 v0) >>> ((Int32.toUInt32 1) &&& Int32.toUInt32 31)).toInt32) &&& 1431655765))) >>> ((Int32.toUInt32 2) &&& Int32.toUInt32 31)).toInt32) &&& 858993459))) >>> ((Int32.toUInt32 4) &&& Int32.toUInt32 31)).toInt32)) &&& 252645135) + (((Int32.toUInt32 (((((v0 - ((((Int32.toUInt32 v0) >>> ((Int32.toUInt32 1) &&& Int32.toUInt32 31)).toInt32) &&& 1431655765)) &&& 858993459) + ((((Int32.toUInt32 (v0 - ((((Int32.toUInt32 v0) >>> ((Int32.toUInt32 1) &&& Int32.toUInt32 31)).toInt32) &&& 1431655765))) >>> ((Int32.toUInt32 2) &&& Int32.toUInt32 31)).toInt32) &&& 858993459)) + (((Int32.toUInt32 (((v0 - ((((Int32.toUInt32 v0) >>> ((Int32.toUInt32 1) &&& Int32.toUInt32 31)).toInt32) &&& 1431655765)) &&& 858993459) + ((((Int32.toUInt32 (v0 - ((((Int32.toUInt32 v0) >>> ((Int32.toUInt32 1) &&& Int32.toUInt32 31)).toInt32) &&& 1431655765))) >>> ((Int32.toUInt32 2) &&& Int32.toUInt32 31)).toInt32) &&& 858993459))) >>> ((Int32.toUInt32 4) &&& Int32.toUInt32 31)).toInt32)) &&& 252645135)) >>> ((Int32.toUInt32 8) &&& Int32.toUInt32 31)).toInt32)) + (((Int32.toUInt32 ((((((v0 - ((((Int32.toUInt32 v0) >>> ((Int32.toUInt32 1) &&& Int32.toUInt32 31)).toInt32) &&& 1431655765)) &&& 858993459) + ((((Int32.toUInt32 (v0 - ((((Int32.toUInt32 v0) >>> ((Int32.toUInt32 1) &&& Int32.toUInt32 31)).toInt32) &&& 1431655765))) >>> ((Int32.toUInt32 2) &&& Int32.toUInt32 31)).toInt32) &&& 858993459)) + (((Int32.toUInt32 (((v0 - ((((Int32.toUInt32 v0) >>> ((Int32.toUInt32 1) &&& Int32.toUInt32 31)).toInt32) &&& 1431655765)) &&& 858993459) + ((((Int32.toUInt32 (v0 - ((((Int32.toUInt32 v0) >>> ((Int32.toUInt32 1) &&& Int32.toUInt32 31)).toInt32) &&& 1431655765))) >>> ((Int32.toUInt32 2) &&& Int32.toUInt32 31)).toInt32) &&& 858993459))) >>> ((Int32.toUInt32 4) &&& Int32.toUInt32 31)).toInt32)) &&& 252645135) + (((Int32.toUInt32 (((((v0 - ((((Int32.toUInt32 v0) >>> ((Int32.toUInt32 1) &&& Int32.toUInt32 31)).toInt32) &&& 1431655765)) &&& 858993459) + ((((Int32.toUInt32 (v0 - ((((Int32.toUInt32 v0) >>> ((Int32.toUInt32 1) &&& Int32.toUInt32 31)).toInt32) &&& 1431655765))) >>> ((Int32.toUInt32 2) &&& Int32.toUInt32 31)).toInt32) &&& 858993459)) + (((Int32.toUInt32 (((v0 - ((((Int32.toUInt32 v0) >>> ((Int32.toUInt32 1) &&& Int32.toUInt32 31)).toInt32) &&& 1431655765)) &&& 858993459) + ((((Int32.toUInt32 (v0 - ((((Int32.toUInt32 v0) >>> ((Int32.toUInt32 1) &&& Int32.toUInt32 31)).toInt32) &&& 1431655765))) >>> ((Int32.toUInt32 2) &&& Int32.toUInt32 31)).toInt32) &&& 858993459))) >>> ((Int32.toUInt32 4) &&& Int32.toUInt32 31)).toInt32)) &&& 252645135)) >>> ((Int32.toUInt32 8) &&& Int32.toUInt32 31)).toInt32))) >>> ((Int32.toUInt32 16) &&& Int32.toUInt32 31)).toInt32)) &&& 63) m
theorem zr_211 {d : Nat} (hd : 0 ≤ d) {v0 : Int32} {Q : Int32 → zf_Me → Prop} {m : zf_Me} (h : wp_211 v0 m Q) : zf_M d 211 [.inl v0] m (zf_I Q) := by
  unfold wp_211 at h
  refine zf_M_of (Nat.le_of_ble_eq_true rfl) zm_211 (L := [some (.inl v0)]) rfl ?_
  refine zf_ld (pc' := 1) (v := .inl v0) dJ6_bitCount_0f7a4_0 rfl (fun _ _ _ => rfl) rfl rfl rfl ?_
  refine zf_ld (pc' := 2) (v := .inl v0) dJ6_bitCount_0f7a4_1 rfl (fun _ _ _ => rfl) rfl rfl rfl ?_
  refine zf_ic (v := 1) (pc' := 3) dJ6_bitCount_0f7a4_2 rfl rfl ?_
  refine zf_in (pc' := 4) (S' := [.inl (((Int32.toUInt32 v0) >>> ((Int32.toUInt32 1) &&& Int32.toUInt32 31)).toInt32), .inl v0]) dJ6_bitCount_0f7a4_3 rfl (fun _ _ _ => rfl) ?_
  refine zf_ldc (ix := 265) (v := 1431655765) (pc' := 7) dJ6_bitCount_0f7a4_4 rfl (fun _ _ _ => rfl) rfl rfl ?_
  refine zf_in (pc' := 8) (S' := [.inl ((((Int32.toUInt32 v0) >>> ((Int32.toUInt32 1) &&& Int32.toUInt32 31)).toInt32) &&& 1431655765), .inl v0]) dJ6_bitCount_0f7a4_7 rfl (fun _ _ _ => rfl) ?_
  refine zf_in (pc' := 9) (S' := [.inl (v0 - ((((Int32.toUInt32 v0) >>> ((Int32.toUInt32 1) &&& Int32.toUInt32 31)).toInt32) &&& 1431655765))]) dJ6_bitCount_0f7a4_8 rfl (fun _ _ _ => rfl) ?_
  refine zf_st (pc' := 10) (L2 := [some (.inl (v0 - ((((Int32.toUInt32 v0) >>> ((Int32.toUInt32 1) &&& Int32.toUInt32 31)).toInt32) &&& 1431655765)))]) dJ6_bitCount_0f7a4_9 rfl (fun _ _ _ => rfl) rfl rfl rfl rfl rfl rfl ?_
  refine zf_ld (pc' := 11) (v := .inl (v0 - ((((Int32.toUInt32 v0) >>> ((Int32.toUInt32 1) &&& Int32.toUInt32 31)).toInt32) &&& 1431655765))) dJ6_bitCount_0f7a4_10 rfl (fun _ _ _ => rfl) rfl rfl rfl ?_
  refine zf_ldc (ix := 266) (v := 858993459) (pc' := 14) dJ6_bitCount_0f7a4_11 rfl (fun _ _ _ => rfl) rfl rfl ?_
  refine zf_in (pc' := 15) (S' := [.inl ((v0 - ((((Int32.toUInt32 v0) >>> ((Int32.toUInt32 1) &&& Int32.toUInt32 31)).toInt32) &&& 1431655765)) &&& 858993459)]) dJ6_bitCount_0f7a4_14 rfl (fun _ _ _ => rfl) ?_
  refine zf_ld (pc' := 16) (v := .inl (v0 - ((((Int32.toUInt32 v0) >>> ((Int32.toUInt32 1) &&& Int32.toUInt32 31)).toInt32) &&& 1431655765))) dJ6_bitCount_0f7a4_15 rfl (fun _ _ _ => rfl) rfl rfl rfl ?_
  refine zf_ic (v := 2) (pc' := 17) dJ6_bitCount_0f7a4_16 rfl rfl ?_
  refine zf_in (pc' := 18) (S' := [.inl (((Int32.toUInt32 (v0 - ((((Int32.toUInt32 v0) >>> ((Int32.toUInt32 1) &&& Int32.toUInt32 31)).toInt32) &&& 1431655765))) >>> ((Int32.toUInt32 2) &&& Int32.toUInt32 31)).toInt32), .inl ((v0 - ((((Int32.toUInt32 v0) >>> ((Int32.toUInt32 1) &&& Int32.toUInt32 31)).toInt32) &&& 1431655765)) &&& 858993459)]) dJ6_bitCount_0f7a4_17 rfl (fun _ _ _ => rfl) ?_
  refine zf_ldc (ix := 266) (v := 858993459) (pc' := 21) dJ6_bitCount_0f7a4_18 rfl (fun _ _ _ => rfl) rfl rfl ?_
  refine zf_in (pc' := 22) (S' := [.inl ((((Int32.toUInt32 (v0 - ((((Int32.toUInt32 v0) >>> ((Int32.toUInt32 1) &&& Int32.toUInt32 31)).toInt32) &&& 1431655765))) >>> ((Int32.toUInt32 2) &&& Int32.toUInt32 31)).toInt32) &&& 858993459), .inl ((v0 - ((((Int32.toUInt32 v0) >>> ((Int32.toUInt32 1) &&& Int32.toUInt32 31)).toInt32) &&& 1431655765)) &&& 858993459)]) dJ6_bitCount_0f7a4_21 rfl (fun _ _ _ => rfl) ?_
  refine zf_in (pc' := 23) (S' := [.inl (((v0 - ((((Int32.toUInt32 v0) >>> ((Int32.toUInt32 1) &&& Int32.toUInt32 31)).toInt32) &&& 1431655765)) &&& 858993459) + ((((Int32.toUInt32 (v0 - ((((Int32.toUInt32 v0) >>> ((Int32.toUInt32 1) &&& Int32.toUInt32 31)).toInt32) &&& 1431655765))) >>> ((Int32.toUInt32 2) &&& Int32.toUInt32 31)).toInt32) &&& 858993459))]) dJ6_bitCount_0f7a4_22 rfl (fun _ _ _ => rfl) ?_
  refine zf_st (pc' := 24) (L2 := [some (.inl (((v0 - ((((Int32.toUInt32 v0) >>> ((Int32.toUInt32 1) &&& Int32.toUInt32 31)).toInt32) &&& 1431655765)) &&& 858993459) + ((((Int32.toUInt32 (v0 - ((((Int32.toUInt32 v0) >>> ((Int32.toUInt32 1) &&& Int32.toUInt32 31)).toInt32) &&& 1431655765))) >>> ((Int32.toUInt32 2) &&& Int32.toUInt32 31)).toInt32) &&& 858993459)))]) dJ6_bitCount_0f7a4_23 rfl (fun _ _ _ => rfl) rfl rfl rfl rfl rfl rfl ?_
  refine zf_ld (pc' := 25) (v := .inl (((v0 - ((((Int32.toUInt32 v0) >>> ((Int32.toUInt32 1) &&& Int32.toUInt32 31)).toInt32) &&& 1431655765)) &&& 858993459) + ((((Int32.toUInt32 (v0 - ((((Int32.toUInt32 v0) >>> ((Int32.toUInt32 1) &&& Int32.toUInt32 31)).toInt32) &&& 1431655765))) >>> ((Int32.toUInt32 2) &&& Int32.toUInt32 31)).toInt32) &&& 858993459))) dJ6_bitCount_0f7a4_24 rfl (fun _ _ _ => rfl) rfl rfl rfl ?_
  refine zf_ld (pc' := 26) (v := .inl (((v0 - ((((Int32.toUInt32 v0) >>> ((Int32.toUInt32 1) &&& Int32.toUInt32 31)).toInt32) &&& 1431655765)) &&& 858993459) + ((((Int32.toUInt32 (v0 - ((((Int32.toUInt32 v0) >>> ((Int32.toUInt32 1) &&& Int32.toUInt32 31)).toInt32) &&& 1431655765))) >>> ((Int32.toUInt32 2) &&& Int32.toUInt32 31)).toInt32) &&& 858993459))) dJ6_bitCount_0f7a4_25 rfl (fun _ _ _ => rfl) rfl rfl rfl ?_
  refine zf_ic (v := 4) (pc' := 27) dJ6_bitCount_0f7a4_26 rfl rfl ?_
  refine zf_in (pc' := 28) (S' := [.inl (((Int32.toUInt32 (((v0 - ((((Int32.toUInt32 v0) >>> ((Int32.toUInt32 1) &&& Int32.toUInt32 31)).toInt32) &&& 1431655765)) &&& 858993459) + ((((Int32.toUInt32 (v0 - ((((Int32.toUInt32 v0) >>> ((Int32.toUInt32 1) &&& Int32.toUInt32 31)).toInt32) &&& 1431655765))) >>> ((Int32.toUInt32 2) &&& Int32.toUInt32 31)).toInt32) &&& 858993459))) >>> ((Int32.toUInt32 4) &&& Int32.toUInt32 31)).toInt32), .inl (((v0 - ((((Int32.toUInt32 v0) >>> ((Int32.toUInt32 1) &&& Int32.toUInt32 31)).toInt32) &&& 1431655765)) &&& 858993459) + ((((Int32.toUInt32 (v0 - ((((Int32.toUInt32 v0) >>> ((Int32.toUInt32 1) &&& Int32.toUInt32 31)).toInt32) &&& 1431655765))) >>> ((Int32.toUInt32 2) &&& Int32.toUInt32 31)).toInt32) &&& 858993459))]) dJ6_bitCount_0f7a4_27 rfl (fun _ _ _ => rfl) ?_
  refine zf_in (pc' := 29) (S' := [.inl ((((v0 - ((((Int32.toUInt32 v0) >>> ((Int32.toUInt32 1) &&& Int32.toUInt32 31)).toInt32) &&& 1431655765)) &&& 858993459) + ((((Int32.toUInt32 (v0 - ((((Int32.toUInt32 v0) >>> ((Int32.toUInt32 1) &&& Int32.toUInt32 31)).toInt32) &&& 1431655765))) >>> ((Int32.toUInt32 2) &&& Int32.toUInt32 31)).toInt32) &&& 858993459)) + (((Int32.toUInt32 (((v0 - ((((Int32.toUInt32 v0) >>> ((Int32.toUInt32 1) &&& Int32.toUInt32 31)).toInt32) &&& 1431655765)) &&& 858993459) + ((((Int32.toUInt32 (v0 - ((((Int32.toUInt32 v0) >>> ((Int32.toUInt32 1) &&& Int32.toUInt32 31)).toInt32) &&& 1431655765))) >>> ((Int32.toUInt32 2) &&& Int32.toUInt32 31)).toInt32) &&& 858993459))) >>> ((Int32.toUInt32 4) &&& Int32.toUInt32 31)).toInt32))]) dJ6_bitCount_0f7a4_28 rfl (fun _ _ _ => rfl) ?_
  refine zf_ldc (ix := 267) (v := 252645135) (pc' := 32) dJ6_bitCount_0f7a4_29 rfl (fun _ _ _ => rfl) rfl rfl ?_
  refine zf_in (pc' := 33) (S' := [.inl (((((v0 - ((((Int32.toUInt32 v0) >>> ((Int32.toUInt32 1) &&& Int32.toUInt32 31)).toInt32) &&& 1431655765)) &&& 858993459) + ((((Int32.toUInt32 (v0 - ((((Int32.toUInt32 v0) >>> ((Int32.toUInt32 1) &&& Int32.toUInt32 31)).toInt32) &&& 1431655765))) >>> ((Int32.toUInt32 2) &&& Int32.toUInt32 31)).toInt32) &&& 858993459)) + (((Int32.toUInt32 (((v0 - ((((Int32.toUInt32 v0) >>> ((Int32.toUInt32 1) &&& Int32.toUInt32 31)).toInt32) &&& 1431655765)) &&& 858993459) + ((((Int32.toUInt32 (v0 - ((((Int32.toUInt32 v0) >>> ((Int32.toUInt32 1) &&& Int32.toUInt32 31)).toInt32) &&& 1431655765))) >>> ((Int32.toUInt32 2) &&& Int32.toUInt32 31)).toInt32) &&& 858993459))) >>> ((Int32.toUInt32 4) &&& Int32.toUInt32 31)).toInt32)) &&& 252645135)]) dJ6_bitCount_0f7a4_32 rfl (fun _ _ _ => rfl) ?_
  refine zf_st (pc' := 34) (L2 := [some (.inl (((((v0 - ((((Int32.toUInt32 v0) >>> ((Int32.toUInt32 1) &&& Int32.toUInt32 31)).toInt32) &&& 1431655765)) &&& 858993459) + ((((Int32.toUInt32 (v0 - ((((Int32.toUInt32 v0) >>> ((Int32.toUInt32 1) &&& Int32.toUInt32 31)).toInt32) &&& 1431655765))) >>> ((Int32.toUInt32 2) &&& Int32.toUInt32 31)).toInt32) &&& 858993459)) + (((Int32.toUInt32 (((v0 - ((((Int32.toUInt32 v0) >>> ((Int32.toUInt32 1) &&& Int32.toUInt32 31)).toInt32) &&& 1431655765)) &&& 858993459) + ((((Int32.toUInt32 (v0 - ((((Int32.toUInt32 v0) >>> ((Int32.toUInt32 1) &&& Int32.toUInt32 31)).toInt32) &&& 1431655765))) >>> ((Int32.toUInt32 2) &&& Int32.toUInt32 31)).toInt32) &&& 858993459))) >>> ((Int32.toUInt32 4) &&& Int32.toUInt32 31)).toInt32)) &&& 252645135))]) dJ6_bitCount_0f7a4_33 rfl (fun _ _ _ => rfl) rfl rfl rfl rfl rfl rfl ?_
  refine zf_ld (pc' := 35) (v := .inl (((((v0 - ((((Int32.toUInt32 v0) >>> ((Int32.toUInt32 1) &&& Int32.toUInt32 31)).toInt32) &&& 1431655765)) &&& 858993459) + ((((Int32.toUInt32 (v0 - ((((Int32.toUInt32 v0) >>> ((Int32.toUInt32 1) &&& Int32.toUInt32 31)).toInt32) &&& 1431655765))) >>> ((Int32.toUInt32 2) &&& Int32.toUInt32 31)).toInt32) &&& 858993459)) + (((Int32.toUInt32 (((v0 - ((((Int32.toUInt32 v0) >>> ((Int32.toUInt32 1) &&& Int32.toUInt32 31)).toInt32) &&& 1431655765)) &&& 858993459) + ((((Int32.toUInt32 (v0 - ((((Int32.toUInt32 v0) >>> ((Int32.toUInt32 1) &&& Int32.toUInt32 31)).toInt32) &&& 1431655765))) >>> ((Int32.toUInt32 2) &&& Int32.toUInt32 31)).toInt32) &&& 858993459))) >>> ((Int32.toUInt32 4) &&& Int32.toUInt32 31)).toInt32)) &&& 252645135)) dJ6_bitCount_0f7a4_34 rfl (fun _ _ _ => rfl) rfl rfl rfl ?_
  refine zf_ld (pc' := 36) (v := .inl (((((v0 - ((((Int32.toUInt32 v0) >>> ((Int32.toUInt32 1) &&& Int32.toUInt32 31)).toInt32) &&& 1431655765)) &&& 858993459) + ((((Int32.toUInt32 (v0 - ((((Int32.toUInt32 v0) >>> ((Int32.toUInt32 1) &&& Int32.toUInt32 31)).toInt32) &&& 1431655765))) >>> ((Int32.toUInt32 2) &&& Int32.toUInt32 31)).toInt32) &&& 858993459)) + (((Int32.toUInt32 (((v0 - ((((Int32.toUInt32 v0) >>> ((Int32.toUInt32 1) &&& Int32.toUInt32 31)).toInt32) &&& 1431655765)) &&& 858993459) + ((((Int32.toUInt32 (v0 - ((((Int32.toUInt32 v0) >>> ((Int32.toUInt32 1) &&& Int32.toUInt32 31)).toInt32) &&& 1431655765))) >>> ((Int32.toUInt32 2) &&& Int32.toUInt32 31)).toInt32) &&& 858993459))) >>> ((Int32.toUInt32 4) &&& Int32.toUInt32 31)).toInt32)) &&& 252645135)) dJ6_bitCount_0f7a4_35 rfl (fun _ _ _ => rfl) rfl rfl rfl ?_
  refine zf_bi (v := 8) (pc' := 38) dJ6_bitCount_0f7a4_36 rfl rfl ?_
  refine zf_in (pc' := 39) (S' := [.inl (((Int32.toUInt32 (((((v0 - ((((Int32.toUInt32 v0) >>> ((Int32.toUInt32 1) &&& Int32.toUInt32 31)).toInt32) &&& 1431655765)) &&& 858993459) + ((((Int32.toUInt32 (v0 - ((((Int32.toUInt32 v0) >>> ((Int32.toUInt32 1) &&& Int32.toUInt32 31)).toInt32) &&& 1431655765))) >>> ((Int32.toUInt32 2) &&& Int32.toUInt32 31)).toInt32) &&& 858993459)) + (((Int32.toUInt32 (((v0 - ((((Int32.toUInt32 v0) >>> ((Int32.toUInt32 1) &&& Int32.toUInt32 31)).toInt32) &&& 1431655765)) &&& 858993459) + ((((Int32.toUInt32 (v0 - ((((Int32.toUInt32 v0) >>> ((Int32.toUInt32 1) &&& Int32.toUInt32 31)).toInt32) &&& 1431655765))) >>> ((Int32.toUInt32 2) &&& Int32.toUInt32 31)).toInt32) &&& 858993459))) >>> ((Int32.toUInt32 4) &&& Int32.toUInt32 31)).toInt32)) &&& 252645135)) >>> ((Int32.toUInt32 8) &&& Int32.toUInt32 31)).toInt32), .inl (((((v0 - ((((Int32.toUInt32 v0) >>> ((Int32.toUInt32 1) &&& Int32.toUInt32 31)).toInt32) &&& 1431655765)) &&& 858993459) + ((((Int32.toUInt32 (v0 - ((((Int32.toUInt32 v0) >>> ((Int32.toUInt32 1) &&& Int32.toUInt32 31)).toInt32) &&& 1431655765))) >>> ((Int32.toUInt32 2) &&& Int32.toUInt32 31)).toInt32) &&& 858993459)) + (((Int32.toUInt32 (((v0 - ((((Int32.toUInt32 v0) >>> ((Int32.toUInt32 1) &&& Int32.toUInt32 31)).toInt32) &&& 1431655765)) &&& 858993459) + ((((Int32.toUInt32 (v0 - ((((Int32.toUInt32 v0) >>> ((Int32.toUInt32 1) &&& Int32.toUInt32 31)).toInt32) &&& 1431655765))) >>> ((Int32.toUInt32 2) &&& Int32.toUInt32 31)).toInt32) &&& 858993459))) >>> ((Int32.toUInt32 4) &&& Int32.toUInt32 31)).toInt32)) &&& 252645135)]) dJ6_bitCount_0f7a4_38 rfl (fun _ _ _ => rfl) ?_
  refine zf_in (pc' := 40) (S' := [.inl ((((((v0 - ((((Int32.toUInt32 v0) >>> ((Int32.toUInt32 1) &&& Int32.toUInt32 31)).toInt32) &&& 1431655765)) &&& 858993459) + ((((Int32.toUInt32 (v0 - ((((Int32.toUInt32 v0) >>> ((Int32.toUInt32 1) &&& Int32.toUInt32 31)).toInt32) &&& 1431655765))) >>> ((Int32.toUInt32 2) &&& Int32.toUInt32 31)).toInt32) &&& 858993459)) + (((Int32.toUInt32 (((v0 - ((((Int32.toUInt32 v0) >>> ((Int32.toUInt32 1) &&& Int32.toUInt32 31)).toInt32) &&& 1431655765)) &&& 858993459) + ((((Int32.toUInt32 (v0 - ((((Int32.toUInt32 v0) >>> ((Int32.toUInt32 1) &&& Int32.toUInt32 31)).toInt32) &&& 1431655765))) >>> ((Int32.toUInt32 2) &&& Int32.toUInt32 31)).toInt32) &&& 858993459))) >>> ((Int32.toUInt32 4) &&& Int32.toUInt32 31)).toInt32)) &&& 252645135) + (((Int32.toUInt32 (((((v0 - ((((Int32.toUInt32 v0) >>> ((Int32.toUInt32 1) &&& Int32.toUInt32 31)).toInt32) &&& 1431655765)) &&& 858993459) + ((((Int32.toUInt32 (v0 - ((((Int32.toUInt32 v0) >>> ((Int32.toUInt32 1) &&& Int32.toUInt32 31)).toInt32) &&& 1431655765))) >>> ((Int32.toUInt32 2) &&& Int32.toUInt32 31)).toInt32) &&& 858993459)) + (((Int32.toUInt32 (((v0 - ((((Int32.toUInt32 v0) >>> ((Int32.toUInt32 1) &&& Int32.toUInt32 31)).toInt32) &&& 1431655765)) &&& 858993459) + ((((Int32.toUInt32 (v0 - ((((Int32.toUInt32 v0) >>> ((Int32.toUInt32 1) &&& Int32.toUInt32 31)).toInt32) &&& 1431655765))) >>> ((Int32.toUInt32 2) &&& Int32.toUInt32 31)).toInt32) &&& 858993459))) >>> ((Int32.toUInt32 4) &&& Int32.toUInt32 31)).toInt32)) &&& 252645135)) >>> ((Int32.toUInt32 8) &&& Int32.toUInt32 31)).toInt32))]) dJ6_bitCount_0f7a4_39 rfl (fun _ _ _ => rfl) ?_
  refine zf_st (pc' := 41) (L2 := [some (.inl ((((((v0 - ((((Int32.toUInt32 v0) >>> ((Int32.toUInt32 1) &&& Int32.toUInt32 31)).toInt32) &&& 1431655765)) &&& 858993459) + ((((Int32.toUInt32 (v0 - ((((Int32.toUInt32 v0) >>> ((Int32.toUInt32 1) &&& Int32.toUInt32 31)).toInt32) &&& 1431655765))) >>> ((Int32.toUInt32 2) &&& Int32.toUInt32 31)).toInt32) &&& 858993459)) + (((Int32.toUInt32 (((v0 - ((((Int32.toUInt32 v0) >>> ((Int32.toUInt32 1) &&& Int32.toUInt32 31)).toInt32) &&& 1431655765)) &&& 858993459) + ((((Int32.toUInt32 (v0 - ((((Int32.toUInt32 v0) >>> ((Int32.toUInt32 1) &&& Int32.toUInt32 31)).toInt32) &&& 1431655765))) >>> ((Int32.toUInt32 2) &&& Int32.toUInt32 31)).toInt32) &&& 858993459))) >>> ((Int32.toUInt32 4) &&& Int32.toUInt32 31)).toInt32)) &&& 252645135) + (((Int32.toUInt32 (((((v0 - ((((Int32.toUInt32 v0) >>> ((Int32.toUInt32 1) &&& Int32.toUInt32 31)).toInt32) &&& 1431655765)) &&& 858993459) + ((((Int32.toUInt32 (v0 - ((((Int32.toUInt32 v0) >>> ((Int32.toUInt32 1) &&& Int32.toUInt32 31)).toInt32) &&& 1431655765))) >>> ((Int32.toUInt32 2) &&& Int32.toUInt32 31)).toInt32) &&& 858993459)) + (((Int32.toUInt32 (((v0 - ((((Int32.toUInt32 v0) >>> ((Int32.toUInt32 1) &&& Int32.toUInt32 31)).toInt32) &&& 1431655765)) &&& 858993459) + ((((Int32.toUInt32 (v0 - ((((Int32.toUInt32 v0) >>> ((Int32.toUInt32 1) &&& Int32.toUInt32 31)).toInt32) &&& 1431655765))) >>> ((Int32.toUInt32 2) &&& Int32.toUInt32 31)).toInt32) &&& 858993459))) >>> ((Int32.toUInt32 4) &&& Int32.toUInt32 31)).toInt32)) &&& 252645135)) >>> ((Int32.toUInt32 8) &&& Int32.toUInt32 31)).toInt32)))]) dJ6_bitCount_0f7a4_40 rfl (fun _ _ _ => rfl) rfl rfl rfl rfl rfl rfl ?_
  refine zf_ld (pc' := 42) (v := .inl ((((((v0 - ((((Int32.toUInt32 v0) >>> ((Int32.toUInt32 1) &&& Int32.toUInt32 31)).toInt32) &&& 1431655765)) &&& 858993459) + ((((Int32.toUInt32 (v0 - ((((Int32.toUInt32 v0) >>> ((Int32.toUInt32 1) &&& Int32.toUInt32 31)).toInt32) &&& 1431655765))) >>> ((Int32.toUInt32 2) &&& Int32.toUInt32 31)).toInt32) &&& 858993459)) + (((Int32.toUInt32 (((v0 - ((((Int32.toUInt32 v0) >>> ((Int32.toUInt32 1) &&& Int32.toUInt32 31)).toInt32) &&& 1431655765)) &&& 858993459) + ((((Int32.toUInt32 (v0 - ((((Int32.toUInt32 v0) >>> ((Int32.toUInt32 1) &&& Int32.toUInt32 31)).toInt32) &&& 1431655765))) >>> ((Int32.toUInt32 2) &&& Int32.toUInt32 31)).toInt32) &&& 858993459))) >>> ((Int32.toUInt32 4) &&& Int32.toUInt32 31)).toInt32)) &&& 252645135) + (((Int32.toUInt32 (((((v0 - ((((Int32.toUInt32 v0) >>> ((Int32.toUInt32 1) &&& Int32.toUInt32 31)).toInt32) &&& 1431655765)) &&& 858993459) + ((((Int32.toUInt32 (v0 - ((((Int32.toUInt32 v0) >>> ((Int32.toUInt32 1) &&& Int32.toUInt32 31)).toInt32) &&& 1431655765))) >>> ((Int32.toUInt32 2) &&& Int32.toUInt32 31)).toInt32) &&& 858993459)) + (((Int32.toUInt32 (((v0 - ((((Int32.toUInt32 v0) >>> ((Int32.toUInt32 1) &&& Int32.toUInt32 31)).toInt32) &&& 1431655765)) &&& 858993459) + ((((Int32.toUInt32 (v0 - ((((Int32.toUInt32 v0) >>> ((Int32.toUInt32 1) &&& Int32.toUInt32 31)).toInt32) &&& 1431655765))) >>> ((Int32.toUInt32 2) &&& Int32.toUInt32 31)).toInt32) &&& 858993459))) >>> ((Int32.toUInt32 4) &&& Int32.toUInt32 31)).toInt32)) &&& 252645135)) >>> ((Int32.toUInt32 8) &&& Int32.toUInt32 31)).toInt32))) dJ6_bitCount_0f7a4_41 rfl (fun _ _ _ => rfl) rfl rfl rfl ?_
  refine zf_ld (pc' := 43) (v := .inl ((((((v0 - ((((Int32.toUInt32 v0) >>> ((Int32.toUInt32 1) &&& Int32.toUInt32 31)).toInt32) &&& 1431655765)) &&& 858993459) + ((((Int32.toUInt32 (v0 - ((((Int32.toUInt32 v0) >>> ((Int32.toUInt32 1) &&& Int32.toUInt32 31)).toInt32) &&& 1431655765))) >>> ((Int32.toUInt32 2) &&& Int32.toUInt32 31)).toInt32) &&& 858993459)) + (((Int32.toUInt32 (((v0 - ((((Int32.toUInt32 v0) >>> ((Int32.toUInt32 1) &&& Int32.toUInt32 31)).toInt32) &&& 1431655765)) &&& 858993459) + ((((Int32.toUInt32 (v0 - ((((Int32.toUInt32 v0) >>> ((Int32.toUInt32 1) &&& Int32.toUInt32 31)).toInt32) &&& 1431655765))) >>> ((Int32.toUInt32 2) &&& Int32.toUInt32 31)).toInt32) &&& 858993459))) >>> ((Int32.toUInt32 4) &&& Int32.toUInt32 31)).toInt32)) &&& 252645135) + (((Int32.toUInt32 (((((v0 - ((((Int32.toUInt32 v0) >>> ((Int32.toUInt32 1) &&& Int32.toUInt32 31)).toInt32) &&& 1431655765)) &&& 858993459) + ((((Int32.toUInt32 (v0 - ((((Int32.toUInt32 v0) >>> ((Int32.toUInt32 1) &&& Int32.toUInt32 31)).toInt32) &&& 1431655765))) >>> ((Int32.toUInt32 2) &&& Int32.toUInt32 31)).toInt32) &&& 858993459)) + (((Int32.toUInt32 (((v0 - ((((Int32.toUInt32 v0) >>> ((Int32.toUInt32 1) &&& Int32.toUInt32 31)).toInt32) &&& 1431655765)) &&& 858993459) + ((((Int32.toUInt32 (v0 - ((((Int32.toUInt32 v0) >>> ((Int32.toUInt32 1) &&& Int32.toUInt32 31)).toInt32) &&& 1431655765))) >>> ((Int32.toUInt32 2) &&& Int32.toUInt32 31)).toInt32) &&& 858993459))) >>> ((Int32.toUInt32 4) &&& Int32.toUInt32 31)).toInt32)) &&& 252645135)) >>> ((Int32.toUInt32 8) &&& Int32.toUInt32 31)).toInt32))) dJ6_bitCount_0f7a4_42 rfl (fun _ _ _ => rfl) rfl rfl rfl ?_
  refine zf_bi (v := 16) (pc' := 45) dJ6_bitCount_0f7a4_43 rfl rfl ?_
  refine zf_in (pc' := 46) (S' := [.inl (((Int32.toUInt32 ((((((v0 - ((((Int32.toUInt32 v0) >>> ((Int32.toUInt32 1) &&& Int32.toUInt32 31)).toInt32) &&& 1431655765)) &&& 858993459) + ((((Int32.toUInt32 (v0 - ((((Int32.toUInt32 v0) >>> ((Int32.toUInt32 1) &&& Int32.toUInt32 31)).toInt32) &&& 1431655765))) >>> ((Int32.toUInt32 2) &&& Int32.toUInt32 31)).toInt32) &&& 858993459)) + (((Int32.toUInt32 (((v0 - ((((Int32.toUInt32 v0) >>> ((Int32.toUInt32 1) &&& Int32.toUInt32 31)).toInt32) &&& 1431655765)) &&& 858993459) + ((((Int32.toUInt32 (v0 - ((((Int32.toUInt32 v0) >>> ((Int32.toUInt32 1) &&& Int32.toUInt32 31)).toInt32) &&& 1431655765))) >>> ((Int32.toUInt32 2) &&& Int32.toUInt32 31)).toInt32) &&& 858993459))) >>> ((Int32.toUInt32 4) &&& Int32.toUInt32 31)).toInt32)) &&& 252645135) + (((Int32.toUInt32 (((((v0 - ((((Int32.toUInt32 v0) >>> ((Int32.toUInt32 1) &&& Int32.toUInt32 31)).toInt32) &&& 1431655765)) &&& 858993459) + ((((Int32.toUInt32 (v0 - ((((Int32.toUInt32 v0) >>> ((Int32.toUInt32 1) &&& Int32.toUInt32 31)).toInt32) &&& 1431655765))) >>> ((Int32.toUInt32 2) &&& Int32.toUInt32 31)).toInt32) &&& 858993459)) + (((Int32.toUInt32 (((v0 - ((((Int32.toUInt32 v0) >>> ((Int32.toUInt32 1) &&& Int32.toUInt32 31)).toInt32) &&& 1431655765)) &&& 858993459) + ((((Int32.toUInt32 (v0 - ((((Int32.toUInt32 v0) >>> ((Int32.toUInt32 1) &&& Int32.toUInt32 31)).toInt32) &&& 1431655765))) >>> ((Int32.toUInt32 2) &&& Int32.toUInt32 31)).toInt32) &&& 858993459))) >>> ((Int32.toUInt32 4) &&& Int32.toUInt32 31)).toInt32)) &&& 252645135)) >>> ((Int32.toUInt32 8) &&& Int32.toUInt32 31)).toInt32))) >>> ((Int32.toUInt32 16) &&& Int32.toUInt32 31)).toInt32), .inl ((((((v0 - ((((Int32.toUInt32 v0) >>> ((Int32.toUInt32 1) &&& Int32.toUInt32 31)).toInt32) &&& 1431655765)) &&& 858993459) + ((((Int32.toUInt32 (v0 - ((((Int32.toUInt32 v0) >>> ((Int32.toUInt32 1) &&& Int32.toUInt32 31)).toInt32) &&& 1431655765))) >>> ((Int32.toUInt32 2) &&& Int32.toUInt32 31)).toInt32) &&& 858993459)) + (((Int32.toUInt32 (((v0 - ((((Int32.toUInt32 v0) >>> ((Int32.toUInt32 1) &&& Int32.toUInt32 31)).toInt32) &&& 1431655765)) &&& 858993459) + ((((Int32.toUInt32 (v0 - ((((Int32.toUInt32 v0) >>> ((Int32.toUInt32 1) &&& Int32.toUInt32 31)).toInt32) &&& 1431655765))) >>> ((Int32.toUInt32 2) &&& Int32.toUInt32 31)).toInt32) &&& 858993459))) >>> ((Int32.toUInt32 4) &&& Int32.toUInt32 31)).toInt32)) &&& 252645135) + (((Int32.toUInt32 (((((v0 - ((((Int32.toUInt32 v0) >>> ((Int32.toUInt32 1) &&& Int32.toUInt32 31)).toInt32) &&& 1431655765)) &&& 858993459) + ((((Int32.toUInt32 (v0 - ((((Int32.toUInt32 v0) >>> ((Int32.toUInt32 1) &&& Int32.toUInt32 31)).toInt32) &&& 1431655765))) >>> ((Int32.toUInt32 2) &&& Int32.toUInt32 31)).toInt32) &&& 858993459)) + (((Int32.toUInt32 (((v0 - ((((Int32.toUInt32 v0) >>> ((Int32.toUInt32 1) &&& Int32.toUInt32 31)).toInt32) &&& 1431655765)) &&& 858993459) + ((((Int32.toUInt32 (v0 - ((((Int32.toUInt32 v0) >>> ((Int32.toUInt32 1) &&& Int32.toUInt32 31)).toInt32) &&& 1431655765))) >>> ((Int32.toUInt32 2) &&& Int32.toUInt32 31)).toInt32) &&& 858993459))) >>> ((Int32.toUInt32 4) &&& Int32.toUInt32 31)).toInt32)) &&& 252645135)) >>> ((Int32.toUInt32 8) &&& Int32.toUInt32 31)).toInt32))]) dJ6_bitCount_0f7a4_45 rfl (fun _ _ _ => rfl) ?_
  refine zf_in (pc' := 47) (S' := [.inl (((((((v0 - ((((Int32.toUInt32 v0) >>> ((Int32.toUInt32 1) &&& Int32.toUInt32 31)).toInt32) &&& 1431655765)) &&& 858993459) + ((((Int32.toUInt32 (v0 - ((((Int32.toUInt32 v0) >>> ((Int32.toUInt32 1) &&& Int32.toUInt32 31)).toInt32) &&& 1431655765))) >>> ((Int32.toUInt32 2) &&& Int32.toUInt32 31)).toInt32) &&& 858993459)) + (((Int32.toUInt32 (((v0 - ((((Int32.toUInt32 v0) >>> ((Int32.toUInt32 1) &&& Int32.toUInt32 31)).toInt32) &&& 1431655765)) &&& 858993459) + ((((Int32.toUInt32 (v0 - ((((Int32.toUInt32 v0) >>> ((Int32.toUInt32 1) &&& Int32.toUInt32 31)).toInt32) &&& 1431655765))) >>> ((Int32.toUInt32 2) &&& Int32.toUInt32 31)).toInt32) &&& 858993459))) >>> ((Int32.toUInt32 4) &&& Int32.toUInt32 31)).toInt32)) &&& 252645135) + (((Int32.toUInt32 (((((v0 - ((((Int32.toUInt32 v0) >>> ((Int32.toUInt32 1) &&& Int32.toUInt32 31)).toInt32) &&& 1431655765)) &&& 858993459) + ((((Int32.toUInt32 (v0 - ((((Int32.toUInt32 v0) >>> ((Int32.toUInt32 1) &&& Int32.toUInt32 31)).toInt32) &&& 1431655765))) >>> ((Int32.toUInt32 2) &&& Int32.toUInt32 31)).toInt32) &&& 858993459)) + (((Int32.toUInt32 (((v0 - ((((Int32.toUInt32 v0) >>> ((Int32.toUInt32 1) &&& Int32.toUInt32 31)).toInt32) &&& 1431655765)) &&& 858993459) + ((((Int32.toUInt32 (v0 - ((((Int32.toUInt32 v0) >>> ((Int32.toUInt32 1) &&& Int32.toUInt32 31)).toInt32) &&& 1431655765))) >>> ((Int32.toUInt32 2) &&& Int32.toUInt32 31)).toInt32) &&& 858993459))) >>> ((Int32.toUInt32 4) &&& Int32.toUInt32 31)).toInt32)) &&& 252645135)) >>> ((Int32.toUInt32 8) &&& Int32.toUInt32 31)).toInt32)) + (((Int32.toUInt32 ((((((v0 - ((((Int32.toUInt32 v0) >>> ((Int32.toUInt32 1) &&& Int32.toUInt32 31)).toInt32) &&& 1431655765)) &&& 858993459) + ((((Int32.toUInt32 (v0 - ((((Int32.toUInt32 v0) >>> ((Int32.toUInt32 1) &&& Int32.toUInt32 31)).toInt32) &&& 1431655765))) >>> ((Int32.toUInt32 2) &&& Int32.toUInt32 31)).toInt32) &&& 858993459)) + (((Int32.toUInt32 (((v0 - ((((Int32.toUInt32 v0) >>> ((Int32.toUInt32 1) &&& Int32.toUInt32 31)).toInt32) &&& 1431655765)) &&& 858993459) + ((((Int32.toUInt32 (v0 - ((((Int32.toUInt32 v0) >>> ((Int32.toUInt32 1) &&& Int32.toUInt32 31)).toInt32) &&& 1431655765))) >>> ((Int32.toUInt32 2) &&& Int32.toUInt32 31)).toInt32) &&& 858993459))) >>> ((Int32.toUInt32 4) &&& Int32.toUInt32 31)).toInt32)) &&& 252645135) + (((Int32.toUInt32 (((((v0 - ((((Int32.toUInt32 v0) >>> ((Int32.toUInt32 1) &&& Int32.toUInt32 31)).toInt32) &&& 1431655765)) &&& 858993459) + ((((Int32.toUInt32 (v0 - ((((Int32.toUInt32 v0) >>> ((Int32.toUInt32 1) &&& Int32.toUInt32 31)).toInt32) &&& 1431655765))) >>> ((Int32.toUInt32 2) &&& Int32.toUInt32 31)).toInt32) &&& 858993459)) + (((Int32.toUInt32 (((v0 - ((((Int32.toUInt32 v0) >>> ((Int32.toUInt32 1) &&& Int32.toUInt32 31)).toInt32) &&& 1431655765)) &&& 858993459) + ((((Int32.toUInt32 (v0 - ((((Int32.toUInt32 v0) >>> ((Int32.toUInt32 1) &&& Int32.toUInt32 31)).toInt32) &&& 1431655765))) >>> ((Int32.toUInt32 2) &&& Int32.toUInt32 31)).toInt32) &&& 858993459))) >>> ((Int32.toUInt32 4) &&& Int32.toUInt32 31)).toInt32)) &&& 252645135)) >>> ((Int32.toUInt32 8) &&& Int32.toUInt32 31)).toInt32))) >>> ((Int32.toUInt32 16) &&& Int32.toUInt32 31)).toInt32))]) dJ6_bitCount_0f7a4_46 rfl (fun _ _ _ => rfl) ?_
  refine zf_st (pc' := 48) (L2 := [some (.inl (((((((v0 - ((((Int32.toUInt32 v0) >>> ((Int32.toUInt32 1) &&& Int32.toUInt32 31)).toInt32) &&& 1431655765)) &&& 858993459) + ((((Int32.toUInt32 (v0 - ((((Int32.toUInt32 v0) >>> ((Int32.toUInt32 1) &&& Int32.toUInt32 31)).toInt32) &&& 1431655765))) >>> ((Int32.toUInt32 2) &&& Int32.toUInt32 31)).toInt32) &&& 858993459)) + (((Int32.toUInt32 (((v0 - ((((Int32.toUInt32 v0) >>> ((Int32.toUInt32 1) &&& Int32.toUInt32 31)).toInt32) &&& 1431655765)) &&& 858993459) + ((((Int32.toUInt32 (v0 - ((((Int32.toUInt32 v0) >>> ((Int32.toUInt32 1) &&& Int32.toUInt32 31)).toInt32) &&& 1431655765))) >>> ((Int32.toUInt32 2) &&& Int32.toUInt32 31)).toInt32) &&& 858993459))) >>> ((Int32.toUInt32 4) &&& Int32.toUInt32 31)).toInt32)) &&& 252645135) + (((Int32.toUInt32 (((((v0 - ((((Int32.toUInt32 v0) >>> ((Int32.toUInt32 1) &&& Int32.toUInt32 31)).toInt32) &&& 1431655765)) &&& 858993459) + ((((Int32.toUInt32 (v0 - ((((Int32.toUInt32 v0) >>> ((Int32.toUInt32 1) &&& Int32.toUInt32 31)).toInt32) &&& 1431655765))) >>> ((Int32.toUInt32 2) &&& Int32.toUInt32 31)).toInt32) &&& 858993459)) + (((Int32.toUInt32 (((v0 - ((((Int32.toUInt32 v0) >>> ((Int32.toUInt32 1) &&& Int32.toUInt32 31)).toInt32) &&& 1431655765)) &&& 858993459) + ((((Int32.toUInt32 (v0 - ((((Int32.toUInt32 v0) >>> ((Int32.toUInt32 1) &&& Int32.toUInt32 31)).toInt32) &&& 1431655765))) >>> ((Int32.toUInt32 2) &&& Int32.toUInt32 31)).toInt32) &&& 858993459))) >>> ((Int32.toUInt32 4) &&& Int32.toUInt32 31)).toInt32)) &&& 252645135)) >>> ((Int32.toUInt32 8) &&& Int32.toUInt32 31)).toInt32)) + (((Int32.toUInt32 ((((((v0 - ((((Int32.toUInt32 v0) >>> ((Int32.toUInt32 1) &&& Int32.toUInt32 31)).toInt32) &&& 1431655765)) &&& 858993459) + ((((Int32.toUInt32 (v0 - ((((Int32.toUInt32 v0) >>> ((Int32.toUInt32 1) &&& Int32.toUInt32 31)).toInt32) &&& 1431655765))) >>> ((Int32.toUInt32 2) &&& Int32.toUInt32 31)).toInt32) &&& 858993459)) + (((Int32.toUInt32 (((v0 - ((((Int32.toUInt32 v0) >>> ((Int32.toUInt32 1) &&& Int32.toUInt32 31)).toInt32) &&& 1431655765)) &&& 858993459) + ((((Int32.toUInt32 (v0 - ((((Int32.toUInt32 v0) >>> ((Int32.toUInt32 1) &&& Int32.toUInt32 31)).toInt32) &&& 1431655765))) >>> ((Int32.toUInt32 2) &&& Int32.toUInt32 31)).toInt32) &&& 858993459))) >>> ((Int32.toUInt32 4) &&& Int32.toUInt32 31)).toInt32)) &&& 252645135) + (((Int32.toUInt32 (((((v0 - ((((Int32.toUInt32 v0) >>> ((Int32.toUInt32 1) &&& Int32.toUInt32 31)).toInt32) &&& 1431655765)) &&& 858993459) + ((((Int32.toUInt32 (v0 - ((((Int32.toUInt32 v0) >>> ((Int32.toUInt32 1) &&& Int32.toUInt32 31)).toInt32) &&& 1431655765))) >>> ((Int32.toUInt32 2) &&& Int32.toUInt32 31)).toInt32) &&& 858993459)) + (((Int32.toUInt32 (((v0 - ((((Int32.toUInt32 v0) >>> ((Int32.toUInt32 1) &&& Int32.toUInt32 31)).toInt32) &&& 1431655765)) &&& 858993459) + ((((Int32.toUInt32 (v0 - ((((Int32.toUInt32 v0) >>> ((Int32.toUInt32 1) &&& Int32.toUInt32 31)).toInt32) &&& 1431655765))) >>> ((Int32.toUInt32 2) &&& Int32.toUInt32 31)).toInt32) &&& 858993459))) >>> ((Int32.toUInt32 4) &&& Int32.toUInt32 31)).toInt32)) &&& 252645135)) >>> ((Int32.toUInt32 8) &&& Int32.toUInt32 31)).toInt32))) >>> ((Int32.toUInt32 16) &&& Int32.toUInt32 31)).toInt32)))]) dJ6_bitCount_0f7a4_47 rfl (fun _ _ _ => rfl) rfl rfl rfl rfl rfl rfl ?_
  refine zf_ld (pc' := 49) (v := .inl (((((((v0 - ((((Int32.toUInt32 v0) >>> ((Int32.toUInt32 1) &&& Int32.toUInt32 31)).toInt32) &&& 1431655765)) &&& 858993459) + ((((Int32.toUInt32 (v0 - ((((Int32.toUInt32 v0) >>> ((Int32.toUInt32 1) &&& Int32.toUInt32 31)).toInt32) &&& 1431655765))) >>> ((Int32.toUInt32 2) &&& Int32.toUInt32 31)).toInt32) &&& 858993459)) + (((Int32.toUInt32 (((v0 - ((((Int32.toUInt32 v0) >>> ((Int32.toUInt32 1) &&& Int32.toUInt32 31)).toInt32) &&& 1431655765)) &&& 858993459) + ((((Int32.toUInt32 (v0 - ((((Int32.toUInt32 v0) >>> ((Int32.toUInt32 1) &&& Int32.toUInt32 31)).toInt32) &&& 1431655765))) >>> ((Int32.toUInt32 2) &&& Int32.toUInt32 31)).toInt32) &&& 858993459))) >>> ((Int32.toUInt32 4) &&& Int32.toUInt32 31)).toInt32)) &&& 252645135) + (((Int32.toUInt32 (((((v0 - ((((Int32.toUInt32 v0) >>> ((Int32.toUInt32 1) &&& Int32.toUInt32 31)).toInt32) &&& 1431655765)) &&& 858993459) + ((((Int32.toUInt32 (v0 - ((((Int32.toUInt32 v0) >>> ((Int32.toUInt32 1) &&& Int32.toUInt32 31)).toInt32) &&& 1431655765))) >>> ((Int32.toUInt32 2) &&& Int32.toUInt32 31)).toInt32) &&& 858993459)) + (((Int32.toUInt32 (((v0 - ((((Int32.toUInt32 v0) >>> ((Int32.toUInt32 1) &&& Int32.toUInt32 31)).toInt32) &&& 1431655765)) &&& 858993459) + ((((Int32.toUInt32 (v0 - ((((Int32.toUInt32 v0) >>> ((Int32.toUInt32 1) &&& Int32.toUInt32 31)).toInt32) &&& 1431655765))) >>> ((Int32.toUInt32 2) &&& Int32.toUInt32 31)).toInt32) &&& 858993459))) >>> ((Int32.toUInt32 4) &&& Int32.toUInt32 31)).toInt32)) &&& 252645135)) >>> ((Int32.toUInt32 8) &&& Int32.toUInt32 31)).toInt32)) + (((Int32.toUInt32 ((((((v0 - ((((Int32.toUInt32 v0) >>> ((Int32.toUInt32 1) &&& Int32.toUInt32 31)).toInt32) &&& 1431655765)) &&& 858993459) + ((((Int32.toUInt32 (v0 - ((((Int32.toUInt32 v0) >>> ((Int32.toUInt32 1) &&& Int32.toUInt32 31)).toInt32) &&& 1431655765))) >>> ((Int32.toUInt32 2) &&& Int32.toUInt32 31)).toInt32) &&& 858993459)) + (((Int32.toUInt32 (((v0 - ((((Int32.toUInt32 v0) >>> ((Int32.toUInt32 1) &&& Int32.toUInt32 31)).toInt32) &&& 1431655765)) &&& 858993459) + ((((Int32.toUInt32 (v0 - ((((Int32.toUInt32 v0) >>> ((Int32.toUInt32 1) &&& Int32.toUInt32 31)).toInt32) &&& 1431655765))) >>> ((Int32.toUInt32 2) &&& Int32.toUInt32 31)).toInt32) &&& 858993459))) >>> ((Int32.toUInt32 4) &&& Int32.toUInt32 31)).toInt32)) &&& 252645135) + (((Int32.toUInt32 (((((v0 - ((((Int32.toUInt32 v0) >>> ((Int32.toUInt32 1) &&& Int32.toUInt32 31)).toInt32) &&& 1431655765)) &&& 858993459) + ((((Int32.toUInt32 (v0 - ((((Int32.toUInt32 v0) >>> ((Int32.toUInt32 1) &&& Int32.toUInt32 31)).toInt32) &&& 1431655765))) >>> ((Int32.toUInt32 2) &&& Int32.toUInt32 31)).toInt32) &&& 858993459)) + (((Int32.toUInt32 (((v0 - ((((Int32.toUInt32 v0) >>> ((Int32.toUInt32 1) &&& Int32.toUInt32 31)).toInt32) &&& 1431655765)) &&& 858993459) + ((((Int32.toUInt32 (v0 - ((((Int32.toUInt32 v0) >>> ((Int32.toUInt32 1) &&& Int32.toUInt32 31)).toInt32) &&& 1431655765))) >>> ((Int32.toUInt32 2) &&& Int32.toUInt32 31)).toInt32) &&& 858993459))) >>> ((Int32.toUInt32 4) &&& Int32.toUInt32 31)).toInt32)) &&& 252645135)) >>> ((Int32.toUInt32 8) &&& Int32.toUInt32 31)).toInt32))) >>> ((Int32.toUInt32 16) &&& Int32.toUInt32 31)).toInt32))) dJ6_bitCount_0f7a4_48 rfl (fun _ _ _ => rfl) rfl rfl rfl ?_
  refine zf_bi (v := 63) (pc' := 51) dJ6_bitCount_0f7a4_49 rfl rfl ?_
  refine zf_in (pc' := 52) (S' := [.inl ((((((((v0 - ((((Int32.toUInt32 v0) >>> ((Int32.toUInt32 1) &&& Int32.toUInt32 31)).toInt32) &&& 1431655765)) &&& 858993459) + ((((Int32.toUInt32 (v0 - ((((Int32.toUInt32 v0) >>> ((Int32.toUInt32 1) &&& Int32.toUInt32 31)).toInt32) &&& 1431655765))) >>> ((Int32.toUInt32 2) &&& Int32.toUInt32 31)).toInt32) &&& 858993459)) + (((Int32.toUInt32 (((v0 - ((((Int32.toUInt32 v0) >>> ((Int32.toUInt32 1) &&& Int32.toUInt32 31)).toInt32) &&& 1431655765)) &&& 858993459) + ((((Int32.toUInt32 (v0 - ((((Int32.toUInt32 v0) >>> ((Int32.toUInt32 1) &&& Int32.toUInt32 31)).toInt32) &&& 1431655765))) >>> ((Int32.toUInt32 2) &&& Int32.toUInt32 31)).toInt32) &&& 858993459))) >>> ((Int32.toUInt32 4) &&& Int32.toUInt32 31)).toInt32)) &&& 252645135) + (((Int32.toUInt32 (((((v0 - ((((Int32.toUInt32 v0) >>> ((Int32.toUInt32 1) &&& Int32.toUInt32 31)).toInt32) &&& 1431655765)) &&& 858993459) + ((((Int32.toUInt32 (v0 - ((((Int32.toUInt32 v0) >>> ((Int32.toUInt32 1) &&& Int32.toUInt32 31)).toInt32) &&& 1431655765))) >>> ((Int32.toUInt32 2) &&& Int32.toUInt32 31)).toInt32) &&& 858993459)) + (((Int32.toUInt32 (((v0 - ((((Int32.toUInt32 v0) >>> ((Int32.toUInt32 1) &&& Int32.toUInt32 31)).toInt32) &&& 1431655765)) &&& 858993459) + ((((Int32.toUInt32 (v0 - ((((Int32.toUInt32 v0) >>> ((Int32.toUInt32 1) &&& Int32.toUInt32 31)).toInt32) &&& 1431655765))) >>> ((Int32.toUInt32 2) &&& Int32.toUInt32 31)).toInt32) &&& 858993459))) >>> ((Int32.toUInt32 4) &&& Int32.toUInt32 31)).toInt32)) &&& 252645135)) >>> ((Int32.toUInt32 8) &&& Int32.toUInt32 31)).toInt32)) + (((Int32.toUInt32 ((((((v0 - ((((Int32.toUInt32 v0) >>> ((Int32.toUInt32 1) &&& Int32.toUInt32 31)).toInt32) &&& 1431655765)) &&& 858993459) + ((((Int32.toUInt32 (v0 - ((((Int32.toUInt32 v0) >>> ((Int32.toUInt32 1) &&& Int32.toUInt32 31)).toInt32) &&& 1431655765))) >>> ((Int32.toUInt32 2) &&& Int32.toUInt32 31)).toInt32) &&& 858993459)) + (((Int32.toUInt32 (((v0 - ((((Int32.toUInt32 v0) >>> ((Int32.toUInt32 1) &&& Int32.toUInt32 31)).toInt32) &&& 1431655765)) &&& 858993459) + ((((Int32.toUInt32 (v0 - ((((Int32.toUInt32 v0) >>> ((Int32.toUInt32 1) &&& Int32.toUInt32 31)).toInt32) &&& 1431655765))) >>> ((Int32.toUInt32 2) &&& Int32.toUInt32 31)).toInt32) &&& 858993459))) >>> ((Int32.toUInt32 4) &&& Int32.toUInt32 31)).toInt32)) &&& 252645135) + (((Int32.toUInt32 (((((v0 - ((((Int32.toUInt32 v0) >>> ((Int32.toUInt32 1) &&& Int32.toUInt32 31)).toInt32) &&& 1431655765)) &&& 858993459) + ((((Int32.toUInt32 (v0 - ((((Int32.toUInt32 v0) >>> ((Int32.toUInt32 1) &&& Int32.toUInt32 31)).toInt32) &&& 1431655765))) >>> ((Int32.toUInt32 2) &&& Int32.toUInt32 31)).toInt32) &&& 858993459)) + (((Int32.toUInt32 (((v0 - ((((Int32.toUInt32 v0) >>> ((Int32.toUInt32 1) &&& Int32.toUInt32 31)).toInt32) &&& 1431655765)) &&& 858993459) + ((((Int32.toUInt32 (v0 - ((((Int32.toUInt32 v0) >>> ((Int32.toUInt32 1) &&& Int32.toUInt32 31)).toInt32) &&& 1431655765))) >>> ((Int32.toUInt32 2) &&& Int32.toUInt32 31)).toInt32) &&& 858993459))) >>> ((Int32.toUInt32 4) &&& Int32.toUInt32 31)).toInt32)) &&& 252645135)) >>> ((Int32.toUInt32 8) &&& Int32.toUInt32 31)).toInt32))) >>> ((Int32.toUInt32 16) &&& Int32.toUInt32 31)).toInt32)) &&& 63)]) dJ6_bitCount_0f7a4_51 rfl (fun _ _ _ => rfl) ?_
  exact zf_ri dJ6_bitCount_0f7a4_52 rfl h
def zt_120 : zx_MT := (7, yX7_nthBit, cX7_nthBit, 4, (some FieldType.int), 2, 1)
theorem zm_120 : zx_m 120 = zt_120 := rfl
theorem dX7_nthBit_r0 : zdcP cX7_nthBit 0 [(.iload_n 1, 1), (.istore_n 2, 1), (.iconst 0, 1), (.istore_n 3, 1), (.iload_n 3, 1), (.bipush 10, 2), (.if_icmp .ge 26, 3), (.iload_n 0, 1), (.iload_n 3, 1), (.ishr, 1), (.iconst 1, 1), (.iand, 1), (.ifCond .eq 12, 3), (.iload_n 2, 1), (.ifCond .ne 5, 3), (.iload_n 3, 1)] := zdcA_ok (by decide +kernel)
theorem dX7_nthBit_0 : decode cX7_nthBit 0 = .ok (.iload_n 1, 1) := dX7_nthBit_r0.1
theorem dX7_nthBit_1 : decode cX7_nthBit 1 = .ok (.istore_n 2, 1) := dX7_nthBit_r0.2.1
theorem dX7_nthBit_2 : decode cX7_nthBit 2 = .ok (.iconst 0, 1) := dX7_nthBit_r0.2.2.1
theorem dX7_nthBit_3 : decode cX7_nthBit 3 = .ok (.istore_n 3, 1) := dX7_nthBit_r0.2.2.2.1
theorem dX7_nthBit_4 : decode cX7_nthBit 4 = .ok (.iload_n 3, 1) := dX7_nthBit_r0.2.2.2.2.1
theorem dX7_nthBit_5 : decode cX7_nthBit 5 = .ok (.bipush 10, 2) := dX7_nthBit_r0.2.2.2.2.2.1
theorem dX7_nthBit_7 : decode cX7_nthBit 7 = .ok (.if_icmp .ge 26, 3) := dX7_nthBit_r0.2.2.2.2.2.2.1
theorem dX7_nthBit_10 : decode cX7_nthBit 10 = .ok (.iload_n 0, 1) := dX7_nthBit_r0.2.2.2.2.2.2.2.1
theorem dX7_nthBit_11 : decode cX7_nthBit 11 = .ok (.iload_n 3, 1) := dX7_nthBit_r0.2.2.2.2.2.2.2.2.1
theorem dX7_nthBit_12 : decode cX7_nthBit 12 = .ok (.ishr, 1) := dX7_nthBit_r0.2.2.2.2.2.2.2.2.2.1
theorem dX7_nthBit_13 : decode cX7_nthBit 13 = .ok (.iconst 1, 1) := dX7_nthBit_r0.2.2.2.2.2.2.2.2.2.2.1
theorem dX7_nthBit_14 : decode cX7_nthBit 14 = .ok (.iand, 1) := dX7_nthBit_r0.2.2.2.2.2.2.2.2.2.2.2.1
theorem dX7_nthBit_15 : decode cX7_nthBit 15 = .ok (.ifCond .eq 12, 3) := dX7_nthBit_r0.2.2.2.2.2.2.2.2.2.2.2.2.1
theorem dX7_nthBit_18 : decode cX7_nthBit 18 = .ok (.iload_n 2, 1) := dX7_nthBit_r0.2.2.2.2.2.2.2.2.2.2.2.2.2.1
theorem dX7_nthBit_19 : decode cX7_nthBit 19 = .ok (.ifCond .ne 5, 3) := dX7_nthBit_r0.2.2.2.2.2.2.2.2.2.2.2.2.2.2.1
theorem dX7_nthBit_22 : decode cX7_nthBit 22 = .ok (.iload_n 3, 1) := dX7_nthBit_r0.2.2.2.2.2.2.2.2.2.2.2.2.2.2.2.1
theorem dX7_nthBit_r23 : zdcP cX7_nthBit 23 [(.ireturn, 1), (.iinc 2 (-1), 3), (.iinc 3 1, 3), (.goto (-26), 3), (.iconst (-1), 1), (.ireturn, 1)] := zdcA_ok (by decide +kernel)
theorem dX7_nthBit_23 : decode cX7_nthBit 23 = .ok (.ireturn, 1) := dX7_nthBit_r23.1
theorem dX7_nthBit_24 : decode cX7_nthBit 24 = .ok (.iinc 2 (-1), 3) := dX7_nthBit_r23.2.1
theorem dX7_nthBit_27 : decode cX7_nthBit 27 = .ok (.iinc 3 1, 3) := dX7_nthBit_r23.2.2.1
theorem dX7_nthBit_30 : decode cX7_nthBit 30 = .ok (.goto (-26), 3) := dX7_nthBit_r23.2.2.2.1
theorem dX7_nthBit_33 : decode cX7_nthBit 33 = .ok (.iconst (-1), 1) := dX7_nthBit_r23.2.2.2.2.1
theorem dX7_nthBit_34 : decode cX7_nthBit 34 = .ok (.ireturn, 1) := dX7_nthBit_r23.2.2.2.2.2.1
def wq_120_4 (v0 : Int32) (v1 : Int32) (Q : Int32 → zf_Me → Prop) : Nat → Int32 → Int32 → zf_Me → Prop
  | 0, _, _, _ => False
  | n + 1, v2, v3, m => ((v3.toInt ≥ 10 → Q (-1) m) ∧ (v3.toInt < 10 → (((((v0 >>> (v3 &&& 31)) &&& 1)).toInt = 0 → wq_120_4 v0 v1 Q n v2 (v3 + 1) m) ∧ (¬ (((v0 >>> (v3 &&& 31)) &&& 1)).toInt = 0 → ((¬ v2.toInt = 0 → wq_120_4 v0 v1 Q n (v2 + (-1)) (v3 + 1) m) ∧ (v2.toInt = 0 → Q v3 m))))))
theorem zq_120_4 {d : Nat} (hd : 0 ≤ d) {v0 : Int32} {v1 : Int32} {Q : Int32 → zf_Me → Prop} : ∀ (n : Nat) (v2 : Int32) (v3 : Int32) (m : zf_Me), wq_120_4 v0 v1 Q n v2 v3 m → zf_W none 0 0 d zt_120 4 [some (.inl v0), none, some (.inl v2), some (.inl v3)] [] m (zf_I Q) := by
  intro n
  induction n with
  | zero =>
    intro v2 v3 m h
    exact h.elim
  | succ n ih =>
    intro v2 v3 m h
    unfold wq_120_4 at h
    refine zf_ld (pc' := 5) (v := .inl v3) dX7_nthBit_4 rfl (fun _ _ _ => rfl) rfl rfl rfl ?_
    refine zf_bi (v := 10) (pc' := 7) dX7_nthBit_5 rfl rfl ?_
    refine zf_icmp_ge (tgt := 33) (pc' := 10) dX7_nthBit_7 rfl rfl (fun g => ?_) (fun g => ?_)
    · replace h := h.1 g
      refine zf_ic (v := (-1)) (pc' := 34) dX7_nthBit_33 rfl rfl ?_
      exact zf_ri dX7_nthBit_34 rfl h
    · replace h := h.2 g
      refine zf_ld (pc' := 11) (v := .inl v0) dX7_nthBit_10 rfl (fun _ _ _ => rfl) rfl rfl rfl ?_
      refine zf_ld (pc' := 12) (v := .inl v3) dX7_nthBit_11 rfl (fun _ _ _ => rfl) rfl rfl rfl ?_
      refine zf_in (pc' := 13) (S' := [.inl (v0 >>> (v3 &&& 31))]) dX7_nthBit_12 rfl (fun _ _ _ => rfl) ?_
      refine zf_ic (v := 1) (pc' := 14) dX7_nthBit_13 rfl rfl ?_
      refine zf_in (pc' := 15) (S' := [.inl ((v0 >>> (v3 &&& 31)) &&& 1)]) dX7_nthBit_14 rfl (fun _ _ _ => rfl) ?_
      refine zf_if_eq (tgt := 27) (pc' := 18) dX7_nthBit_15 rfl rfl (fun g => ?_) (fun g => ?_)
      · replace h := h.1 g
        refine zf_ii (y := (v3 + 1)) (L2 := [some (.inl v0), none, some (.inl v2), some (.inl (v3 + 1))]) (pc' := 30) dX7_nthBit_27 rfl rfl rfl rfl rfl ?_
        refine zf_goto (tgt := 4) dX7_nthBit_30 rfl ?_
        exact zf_lo (ih _ _ _ h) ⟨rfl, rfl, rfl, trivial⟩
      · replace h := h.2 g
        refine zf_ld (pc' := 19) (v := .inl v2) dX7_nthBit_18 rfl (fun _ _ _ => rfl) rfl rfl rfl ?_
        refine zf_if_ne (tgt := 24) (pc' := 22) dX7_nthBit_19 rfl rfl (fun g => ?_) (fun g => ?_)
        · replace h := h.1 g
          refine zf_ii (y := (v2 + (-1))) (L2 := [some (.inl v0), none, some (.inl (v2 + (-1))), some (.inl v3)]) (pc' := 27) dX7_nthBit_24 rfl rfl rfl rfl rfl ?_
          refine zf_ii (y := (v3 + 1)) (L2 := [some (.inl v0), none, some (.inl (v2 + (-1))), some (.inl (v3 + 1))]) (pc' := 30) dX7_nthBit_27 rfl rfl rfl rfl rfl ?_
          refine zf_goto (tgt := 4) dX7_nthBit_30 rfl ?_
          exact zf_lo (ih _ _ _ h) ⟨rfl, rfl, rfl, trivial⟩
        · replace h := h.2 g
          refine zf_ld (pc' := 23) (v := .inl v3) dX7_nthBit_22 rfl (fun _ _ _ => rfl) rfl rfl rfl ?_
          exact zf_ri dX7_nthBit_23 rfl h
def wp_120 (v0 : Int32) (v1 : Int32) (m : zf_Me) (Q : Int32 → zf_Me → Prop) : Prop := (∃ n4, wq_120_4 v0 v1 Q n4 v1 0 m)
theorem zr_120 {d : Nat} (hd : 0 ≤ d) {v0 : Int32} {v1 : Int32} {Q : Int32 → zf_Me → Prop} {m : zf_Me} (h : wp_120 v0 v1 m Q) : zf_M d 120 [.inl v0, .inl v1] m (zf_I Q) := by
  unfold wp_120 at h
  refine zf_M_of (Nat.le_of_ble_eq_true rfl) zm_120 (L := [some (.inl v0), some (.inl v1), none, none]) rfl ?_
  refine zf_ld (pc' := 1) (v := .inl v1) dX7_nthBit_0 rfl (fun _ _ _ => rfl) rfl rfl rfl ?_
  refine zf_st (pc' := 2) (L2 := [some (.inl v0), some (.inl v1), some (.inl v1), none]) dX7_nthBit_1 rfl (fun _ _ _ => rfl) rfl rfl rfl rfl rfl rfl ?_
  refine zf_ic (v := 0) (pc' := 3) dX7_nthBit_2 rfl rfl ?_
  refine zf_st (pc' := 4) (L2 := [some (.inl v0), some (.inl v1), some (.inl v1), some (.inl 0)]) dX7_nthBit_3 rfl (fun _ _ _ => rfl) rfl rfl rfl rfl rfl rfl ?_
  obtain ⟨n4, h⟩ := h
  exact zf_lo (zq_120_4 (by omega) n4 _ _ _ h) ⟨rfl, rfl, rfl, trivial⟩
def zt_101 : zx_MT := (7, yX7_summer, cX7_summer, 5, (some FieldType.int), 1, 0)
theorem zm_101 : zx_m 101 = zt_101 := rfl
theorem dX7_summer_r0 : zdcP cX7_summer 0 [(.iload_n 1, 1), (.iconst 1, 1), (.if_icmp .lt 9, 3), (.iload_n 1, 1), (.bipush 60, 2), (.if_icmp .le 10, 3), (.aload_n 0, 1), (.bipush 6, 2), (.invokevirtual 82, 3), (.ireturn, 1), (.aload_n 0, 1), (.getfield 23, 3), (.getfield 221, 3), (.istore_n 2, 1), (.iconst 0, 1), (.istore_n 3, 1)] := zdcA_ok (by decide +kernel)
theorem dX7_summer_0 : decode cX7_summer 0 = .ok (.iload_n 1, 1) := dX7_summer_r0.1
theorem dX7_summer_1 : decode cX7_summer 1 = .ok (.iconst 1, 1) := dX7_summer_r0.2.1
theorem dX7_summer_2 : decode cX7_summer 2 = .ok (.if_icmp .lt 9, 3) := dX7_summer_r0.2.2.1
theorem dX7_summer_5 : decode cX7_summer 5 = .ok (.iload_n 1, 1) := dX7_summer_r0.2.2.2.1
theorem dX7_summer_6 : decode cX7_summer 6 = .ok (.bipush 60, 2) := dX7_summer_r0.2.2.2.2.1
theorem dX7_summer_8 : decode cX7_summer 8 = .ok (.if_icmp .le 10, 3) := dX7_summer_r0.2.2.2.2.2.1
theorem dX7_summer_11 : decode cX7_summer 11 = .ok (.aload_n 0, 1) := dX7_summer_r0.2.2.2.2.2.2.1
theorem dX7_summer_12 : decode cX7_summer 12 = .ok (.bipush 6, 2) := dX7_summer_r0.2.2.2.2.2.2.2.1
theorem dX7_summer_14 : decode cX7_summer 14 = .ok (.invokevirtual 82, 3) := dX7_summer_r0.2.2.2.2.2.2.2.2.1
theorem dX7_summer_17 : decode cX7_summer 17 = .ok (.ireturn, 1) := dX7_summer_r0.2.2.2.2.2.2.2.2.2.1
theorem dX7_summer_18 : decode cX7_summer 18 = .ok (.aload_n 0, 1) := dX7_summer_r0.2.2.2.2.2.2.2.2.2.2.1
theorem dX7_summer_19 : decode cX7_summer 19 = .ok (.getfield 23, 3) := dX7_summer_r0.2.2.2.2.2.2.2.2.2.2.2.1
theorem dX7_summer_22 : decode cX7_summer 22 = .ok (.getfield 221, 3) := dX7_summer_r0.2.2.2.2.2.2.2.2.2.2.2.2.1
theorem dX7_summer_25 : decode cX7_summer 25 = .ok (.istore_n 2, 1) := dX7_summer_r0.2.2.2.2.2.2.2.2.2.2.2.2.2.1
theorem dX7_summer_26 : decode cX7_summer 26 = .ok (.iconst 0, 1) := dX7_summer_r0.2.2.2.2.2.2.2.2.2.2.2.2.2.2.1
theorem dX7_summer_27 : decode cX7_summer 27 = .ok (.istore_n 3, 1) := dX7_summer_r0.2.2.2.2.2.2.2.2.2.2.2.2.2.2.2.1
theorem dX7_summer_r28 : zdcP cX7_summer 28 [(.iload_n 3, 1), (.iload_n 1, 1), (.if_icmp .ge 44, 3), (.aload_n 0, 1), (.invokevirtual 290, 3), (.istore 4, 2), (.iload 4, 2), (.ifCond .eq 27, 3), (.aload_n 0, 1), (.getfield 23, 3), (.iload 4, 2), (.aload_n 0, 1), (.getfield 23, 3), (.iload 4, 2), (.invokestatic 293, 3), (.invokevirtual 298, 3)] := zdcA_ok (by decide +kernel)
theorem dX7_summer_28 : decode cX7_summer 28 = .ok (.iload_n 3, 1) := dX7_summer_r28.1
theorem dX7_summer_29 : decode cX7_summer 29 = .ok (.iload_n 1, 1) := dX7_summer_r28.2.1
theorem dX7_summer_30 : decode cX7_summer 30 = .ok (.if_icmp .ge 44, 3) := dX7_summer_r28.2.2.1
theorem dX7_summer_33 : decode cX7_summer 33 = .ok (.aload_n 0, 1) := dX7_summer_r28.2.2.2.1
theorem dX7_summer_34 : decode cX7_summer 34 = .ok (.invokevirtual 290, 3) := dX7_summer_r28.2.2.2.2.1
theorem dX7_summer_37 : decode cX7_summer 37 = .ok (.istore 4, 2) := dX7_summer_r28.2.2.2.2.2.1
theorem dX7_summer_39 : decode cX7_summer 39 = .ok (.iload 4, 2) := dX7_summer_r28.2.2.2.2.2.2.1
theorem dX7_summer_41 : decode cX7_summer 41 = .ok (.ifCond .eq 27, 3) := dX7_summer_r28.2.2.2.2.2.2.2.1
theorem dX7_summer_44 : decode cX7_summer 44 = .ok (.aload_n 0, 1) := dX7_summer_r28.2.2.2.2.2.2.2.2.1
theorem dX7_summer_45 : decode cX7_summer 45 = .ok (.getfield 23, 3) := dX7_summer_r28.2.2.2.2.2.2.2.2.2.1
theorem dX7_summer_48 : decode cX7_summer 48 = .ok (.iload 4, 2) := dX7_summer_r28.2.2.2.2.2.2.2.2.2.2.1
theorem dX7_summer_50 : decode cX7_summer 50 = .ok (.aload_n 0, 1) := dX7_summer_r28.2.2.2.2.2.2.2.2.2.2.2.1
theorem dX7_summer_51 : decode cX7_summer 51 = .ok (.getfield 23, 3) := dX7_summer_r28.2.2.2.2.2.2.2.2.2.2.2.2.1
theorem dX7_summer_54 : decode cX7_summer 54 = .ok (.iload 4, 2) := dX7_summer_r28.2.2.2.2.2.2.2.2.2.2.2.2.2.1
theorem dX7_summer_56 : decode cX7_summer 56 = .ok (.invokestatic 293, 3) := dX7_summer_r28.2.2.2.2.2.2.2.2.2.2.2.2.2.2.1
theorem dX7_summer_59 : decode cX7_summer 59 = .ok (.invokevirtual 298, 3) := dX7_summer_r28.2.2.2.2.2.2.2.2.2.2.2.2.2.2.2.1
theorem dX7_summer_r62 : zdcP cX7_summer 62 [(.invokestatic 301, 3), (.invokevirtual 264, 3), (.iinc 3 1, 3), (.goto (-43), 3), (.aload_n 0, 1), (.getfield 23, 3), (.getfield 221, 3), (.iload_n 2, 1), (.isub, 1), (.ireturn, 1)] := zdcA_ok (by decide +kernel)
theorem dX7_summer_62 : decode cX7_summer 62 = .ok (.invokestatic 301, 3) := dX7_summer_r62.1
theorem dX7_summer_65 : decode cX7_summer 65 = .ok (.invokevirtual 264, 3) := dX7_summer_r62.2.1
theorem dX7_summer_68 : decode cX7_summer 68 = .ok (.iinc 3 1, 3) := dX7_summer_r62.2.2.1
theorem dX7_summer_71 : decode cX7_summer 71 = .ok (.goto (-43), 3) := dX7_summer_r62.2.2.2.1
theorem dX7_summer_74 : decode cX7_summer 74 = .ok (.aload_n 0, 1) := dX7_summer_r62.2.2.2.2.1
theorem dX7_summer_75 : decode cX7_summer 75 = .ok (.getfield 23, 3) := dX7_summer_r62.2.2.2.2.2.1
theorem dX7_summer_78 : decode cX7_summer 78 = .ok (.getfield 221, 3) := dX7_summer_r62.2.2.2.2.2.2.1
theorem dX7_summer_81 : decode cX7_summer 81 = .ok (.iload_n 2, 1) := dX7_summer_r62.2.2.2.2.2.2.2.1
theorem dX7_summer_82 : decode cX7_summer 82 = .ok (.isub, 1) := dX7_summer_r62.2.2.2.2.2.2.2.2.1
theorem dX7_summer_83 : decode cX7_summer 83 = .ok (.ireturn, 1) := dX7_summer_r62.2.2.2.2.2.2.2.2.2.1
def wq_101_28 (v1 : Int32) (Q : Int32 → zf_Me → Prop) : Nat → Int32 → Int32 → zf_Me → Prop
  | 0, _, _, _ => False
  | n + 1, v2, v3, m => ((v3.toInt ≥ v1.toInt → Q ((m.1 2 10) - v2) m) ∧ (v3.toInt < v1.toInt → wp_86 m (fun x3 m4 => ((x3.toInt = 0 → wq_101_28 v1 Q n v2 (v3 + 1) m4) ∧ (¬ x3.toInt = 0 → wp_211 x3 m4 (fun x5 m6 => wp_61 2 3 8 x5 m6 (fun x7 m8 => wp_120 x3 x7 m8 (fun x9 m10 => wp_56 2 3 8 x9 m10 (fun m12 => wq_101_28 v1 Q n v2 (v3 + 1) m12)))))))))
theorem zq_101_28 {d : Nat} (hd : 4 ≤ d) {v1 : Int32} {Q : Int32 → zf_Me → Prop} : ∀ (n : Nat) (v2 : Int32) (v3 : Int32) (m : zf_Me), wq_101_28 v1 Q n v2 v3 m → zf_W none 0 0 d zt_101 28 [some (.inr (.inr (1, 0))), some (.inl v1), some (.inl v2), some (.inl v3), none] [] m (zf_I Q) := by
  obtain ⟨e, rfl⟩ : ∃ z, d = z + 1 := ⟨d - 1, by omega⟩
  intro n
  induction n with
  | zero =>
    intro v2 v3 m h
    exact h.elim
  | succ n ih =>
    intro v2 v3 m h
    unfold wq_101_28 at h
    refine zf_ld (pc' := 29) (v := .inl v3) dX7_summer_28 rfl (fun _ _ _ => rfl) rfl rfl rfl ?_
    refine zf_ld (pc' := 30) (v := .inl v1) dX7_summer_29 rfl (fun _ _ _ => rfl) rfl rfl rfl ?_
    refine zf_icmp_ge (tgt := 74) (pc' := 33) dX7_summer_30 rfl rfl (fun g => ?_) (fun g => ?_)
    · replace h := h.1 g
      refine zf_ld (pc' := 75) (v := .inr (.inr (1, 0))) dX7_summer_74 rfl (fun _ _ _ => rfl) rfl rfl rfl ?_
      refine zf_gfr (pc' := 78) (b := 2) dX7_summer_75 rfl rfl (by decide) rfl rfl ?_
      refine zf_gfi (pc' := 81) dX7_summer_78 rfl rfl zf_walk2.1 zf_walk2.2.1 rfl ?_
      refine zf_ld (pc' := 82) (v := .inl v2) dX7_summer_81 rfl (fun _ _ _ => rfl) rfl rfl rfl ?_
      refine zf_in (pc' := 83) (S' := [.inl ((m.1 2 10) - v2)]) dX7_summer_82 rfl (fun _ _ _ => rfl) ?_
      exact zf_ri dX7_summer_83 rfl h
    · replace h := h.2 g
      refine zf_ld (pc' := 34) (v := .inr (.inr (1, 0))) dX7_summer_33 rfl (fun _ _ _ => rfl) rfl rfl rfl ?_
      refine zf_iv (k := 86) (pc' := 37) (r := []) dX7_summer_34 rfl rfl rfl rfl (by decide) rfl rfl rfl (zr_86 (by omega) h) (zf_kI (fun x3 m4 h => ?_))
      refine zf_st (pc' := 39) (L2 := [some (.inr (.inr (1, 0))), some (.inl v1), some (.inl v2), some (.inl v3), some (.inl x3)]) dX7_summer_37 rfl (fun _ _ _ => rfl) rfl rfl rfl rfl rfl rfl ?_
      refine zf_ld (pc' := 41) (v := .inl x3) dX7_summer_39 rfl (fun _ _ _ => rfl) rfl rfl rfl ?_
      refine zf_if_eq (tgt := 68) (pc' := 44) dX7_summer_41 rfl rfl (fun g => ?_) (fun g => ?_)
      · replace h := h.1 g
        refine zf_ii (y := (v3 + 1)) (L2 := [some (.inr (.inr (1, 0))), some (.inl v1), some (.inl v2), some (.inl (v3 + 1)), some (.inl x3)]) (pc' := 71) dX7_summer_68 rfl rfl rfl rfl rfl ?_
        refine zf_goto (tgt := 28) dX7_summer_71 rfl ?_
        exact zf_lo (ih _ _ _ h) ⟨rfl, rfl, rfl, rfl, trivial⟩
      · replace h := h.2 g
        refine zf_ld (pc' := 45) (v := .inr (.inr (1, 0))) dX7_summer_44 rfl (fun _ _ _ => rfl) rfl rfl rfl ?_
        refine zf_gfr (pc' := 48) (b := 2) dX7_summer_45 rfl rfl (by decide) rfl rfl ?_
        refine zf_ld (pc' := 50) (v := .inl x3) dX7_summer_48 rfl (fun _ _ _ => rfl) rfl rfl rfl ?_
        refine zf_ld (pc' := 51) (v := .inr (.inr (1, 0))) dX7_summer_50 rfl (fun _ _ _ => rfl) rfl rfl rfl ?_
        refine zf_gfr (pc' := 54) (b := 2) dX7_summer_51 rfl rfl (by decide) rfl rfl ?_
        refine zf_ld (pc' := 56) (v := .inl x3) dX7_summer_54 rfl (fun _ _ _ => rfl) rfl rfl rfl ?_
        refine zf_is (k := 211) (pc' := 59) (r := [.inr (.inr (1, 2)), .inl x3, .inr (.inr (1, 2))]) dX7_summer_56 rfl rfl rfl rfl rfl (zr_211 (by omega) h) (zf_kI (fun x5 m6 h => ?_))
        refine zf_iv (k := 61) (pc' := 62) (r := [.inl x3, .inr (.inr (1, 2))]) dX7_summer_59 rfl rfl rfl rfl zf_walk2.1 zf_walk2.2.1 rfl rfl (zr_61 (by omega) zf_walk2 h) (zf_kI (fun x7 m8 h => ?_))
        refine zf_is (k := 120) (pc' := 65) (r := [.inr (.inr (1, 2))]) dX7_summer_62 rfl rfl rfl rfl rfl (zr_120 (by omega) h) (zf_kI (fun x9 m10 h => ?_))
        refine zf_iv (k := 56) (pc' := 68) (r := []) dX7_summer_65 rfl rfl rfl rfl zf_walk2.1 zf_walk2.2.1 rfl rfl (zr_56 (by omega) zf_walk2 h) (zf_kO (fun m12 h => ?_))
        refine zf_ii (y := (v3 + 1)) (L2 := [some (.inr (.inr (1, 0))), some (.inl v1), some (.inl v2), some (.inl (v3 + 1)), some (.inl x3)]) (pc' := 71) dX7_summer_68 rfl rfl rfl rfl rfl ?_
        refine zf_goto (tgt := 28) dX7_summer_71 rfl ?_
        exact zf_lo (ih _ _ _ h) ⟨rfl, rfl, rfl, rfl, trivial⟩
def wp_101 (v1 : Int32) (m : zf_Me) (Q : Int32 → zf_Me → Prop) : Prop := ((v1.toInt < 1 → wp_109 6 m (fun x1 m2 => Q x1 m2)) ∧ (v1.toInt ≥ 1 → ((v1.toInt ≤ 60 → (∃ n28, wq_101_28 v1 Q n28 (m.1 2 10) 0 m)) ∧ (v1.toInt > 60 → wp_109 6 m (fun x13 m14 => Q x13 m14)))))
theorem zr_101 {d : Nat} (hd : 4 ≤ d) {v1 : Int32} {Q : Int32 → zf_Me → Prop} {m : zf_Me} (h : wp_101 v1 m Q) : zf_M d 101 [.inr (.inr (1, 0)), .inl v1] m (zf_I Q) := by
  obtain ⟨e, rfl⟩ : ∃ z, d = z + 1 := ⟨d - 1, by omega⟩
  unfold wp_101 at h
  refine zf_M_of (Nat.le_of_ble_eq_true rfl) zm_101 (L := [some (.inr (.inr (1, 0))), some (.inl v1), none, none, none]) rfl ?_
  refine zf_ld (pc' := 1) (v := .inl v1) dX7_summer_0 rfl (fun _ _ _ => rfl) rfl rfl rfl ?_
  refine zf_ic (v := 1) (pc' := 2) dX7_summer_1 rfl rfl ?_
  refine zf_icmp_lt (tgt := 11) (pc' := 5) dX7_summer_2 rfl rfl (fun g => ?_) (fun g => ?_)
  · replace h := h.1 g
    refine zf_ld (pc' := 12) (v := .inr (.inr (1, 0))) dX7_summer_11 rfl (fun _ _ _ => rfl) rfl rfl rfl ?_
    refine zf_bi (v := 6) (pc' := 14) dX7_summer_12 rfl rfl ?_
    refine zf_iv (k := 109) (pc' := 17) (r := []) dX7_summer_14 rfl rfl rfl rfl (by decide) rfl rfl rfl (zr_109 (by omega) h) (zf_kI (fun x1 m2 h => ?_))
    exact zf_ri dX7_summer_17 rfl h
  · replace h := h.2 g
    refine zf_ld (pc' := 6) (v := .inl v1) dX7_summer_5 rfl (fun _ _ _ => rfl) rfl rfl rfl ?_
    refine zf_bi (v := 60) (pc' := 8) dX7_summer_6 rfl rfl ?_
    refine zf_icmp_le (tgt := 18) (pc' := 11) dX7_summer_8 rfl rfl (fun g => ?_) (fun g => ?_)
    · replace h := h.1 g
      refine zf_ld (pc' := 19) (v := .inr (.inr (1, 0))) dX7_summer_18 rfl (fun _ _ _ => rfl) rfl rfl rfl ?_
      refine zf_gfr (pc' := 22) (b := 2) dX7_summer_19 rfl rfl (by decide) rfl rfl ?_
      refine zf_gfi (pc' := 25) dX7_summer_22 rfl rfl zf_walk2.1 zf_walk2.2.1 rfl ?_
      refine zf_st (pc' := 26) (L2 := [some (.inr (.inr (1, 0))), some (.inl v1), some (.inl (m.1 2 10)), none, none]) dX7_summer_25 rfl (fun _ _ _ => rfl) rfl rfl rfl rfl rfl rfl ?_
      refine zf_ic (v := 0) (pc' := 27) dX7_summer_26 rfl rfl ?_
      refine zf_st (pc' := 28) (L2 := [some (.inr (.inr (1, 0))), some (.inl v1), some (.inl (m.1 2 10)), some (.inl 0), none]) dX7_summer_27 rfl (fun _ _ _ => rfl) rfl rfl rfl rfl rfl rfl ?_
      obtain ⟨n28, h⟩ := h
      exact zf_lo (zq_101_28 (by omega) n28 _ _ _ h) ⟨rfl, rfl, rfl, rfl, trivial⟩
    · replace h := h.2 g
      refine zf_ld (pc' := 12) (v := .inr (.inr (1, 0))) dX7_summer_11 rfl (fun _ _ _ => rfl) rfl rfl rfl ?_
      refine zf_bi (v := 6) (pc' := 14) dX7_summer_12 rfl rfl ?_
      refine zf_iv (k := 109) (pc' := 17) (r := []) dX7_summer_14 rfl rfl rfl rfl (by decide) rfl rfl rfl (zr_109 (by omega) h) (zf_kI (fun x13 m14 h => ?_))
      exact zf_ri dX7_summer_17 rfl h
end
section
/-! part 34: methods 102..: laid by wip/flat/dec.py -/
def zt_102 : zx_MT := (7, yX7_day, cX7_day, 3, (some FieldType.int), 0, 0)
theorem zm_102 : zx_m 102 = zt_102 := rfl
theorem dX7_day_r0 : zdcP cX7_day 0 [(.aload_n 0, 1), (.getfield 23, 3), (.getfield 221, 3), (.istore_n 1, 1), (.aload_n 0, 1), (.getfield 23, 3), (.iconst 0, 1), (.putfield 221, 3), (.aload_n 0, 1), (.getfield 23, 3), (.iconst 0, 1), (.putfield 230, 3), (.aload_n 0, 1), (.getfield 23, 3), (.iconst 0, 1), (.putfield 304, 3)] := zdcA_ok (by decide +kernel)
theorem dX7_day_0 : decode cX7_day 0 = .ok (.aload_n 0, 1) := dX7_day_r0.1
theorem dX7_day_1 : decode cX7_day 1 = .ok (.getfield 23, 3) := dX7_day_r0.2.1
theorem dX7_day_4 : decode cX7_day 4 = .ok (.getfield 221, 3) := dX7_day_r0.2.2.1
theorem dX7_day_7 : decode cX7_day 7 = .ok (.istore_n 1, 1) := dX7_day_r0.2.2.2.1
theorem dX7_day_8 : decode cX7_day 8 = .ok (.aload_n 0, 1) := dX7_day_r0.2.2.2.2.1
theorem dX7_day_9 : decode cX7_day 9 = .ok (.getfield 23, 3) := dX7_day_r0.2.2.2.2.2.1
theorem dX7_day_12 : decode cX7_day 12 = .ok (.iconst 0, 1) := dX7_day_r0.2.2.2.2.2.2.1
theorem dX7_day_13 : decode cX7_day 13 = .ok (.putfield 221, 3) := dX7_day_r0.2.2.2.2.2.2.2.1
theorem dX7_day_16 : decode cX7_day 16 = .ok (.aload_n 0, 1) := dX7_day_r0.2.2.2.2.2.2.2.2.1
theorem dX7_day_17 : decode cX7_day 17 = .ok (.getfield 23, 3) := dX7_day_r0.2.2.2.2.2.2.2.2.2.1
theorem dX7_day_20 : decode cX7_day 20 = .ok (.iconst 0, 1) := dX7_day_r0.2.2.2.2.2.2.2.2.2.2.1
theorem dX7_day_21 : decode cX7_day 21 = .ok (.putfield 230, 3) := dX7_day_r0.2.2.2.2.2.2.2.2.2.2.2.1
theorem dX7_day_24 : decode cX7_day 24 = .ok (.aload_n 0, 1) := dX7_day_r0.2.2.2.2.2.2.2.2.2.2.2.2.1
theorem dX7_day_25 : decode cX7_day 25 = .ok (.getfield 23, 3) := dX7_day_r0.2.2.2.2.2.2.2.2.2.2.2.2.2.1
theorem dX7_day_28 : decode cX7_day 28 = .ok (.iconst 0, 1) := dX7_day_r0.2.2.2.2.2.2.2.2.2.2.2.2.2.2.1
theorem dX7_day_29 : decode cX7_day 29 = .ok (.putfield 304, 3) := dX7_day_r0.2.2.2.2.2.2.2.2.2.2.2.2.2.2.2.1
theorem dX7_day_r32 : zdcP cX7_day 32 [(.aload_n 0, 1), (.getfield 23, 3), (.aload_n 0, 1), (.getfield 23, 3), (.getfield 307, 3), (.putfield 277, 3), (.iconst 0, 1), (.istore_n 2, 1), (.iload_n 2, 1), (.bipush 6, 2), (.if_icmp .ge 19, 3), (.aload_n 0, 1), (.getfield 23, 3), (.getfield 143, 3), (.iload_n 2, 1), (.iconst 0, 1)] := zdcA_ok (by decide +kernel)
theorem dX7_day_32 : decode cX7_day 32 = .ok (.aload_n 0, 1) := dX7_day_r32.1
theorem dX7_day_33 : decode cX7_day 33 = .ok (.getfield 23, 3) := dX7_day_r32.2.1
theorem dX7_day_36 : decode cX7_day 36 = .ok (.aload_n 0, 1) := dX7_day_r32.2.2.1
theorem dX7_day_37 : decode cX7_day 37 = .ok (.getfield 23, 3) := dX7_day_r32.2.2.2.1
theorem dX7_day_40 : decode cX7_day 40 = .ok (.getfield 307, 3) := dX7_day_r32.2.2.2.2.1
theorem dX7_day_43 : decode cX7_day 43 = .ok (.putfield 277, 3) := dX7_day_r32.2.2.2.2.2.1
theorem dX7_day_46 : decode cX7_day 46 = .ok (.iconst 0, 1) := dX7_day_r32.2.2.2.2.2.2.1
theorem dX7_day_47 : decode cX7_day 47 = .ok (.istore_n 2, 1) := dX7_day_r32.2.2.2.2.2.2.2.1
theorem dX7_day_48 : decode cX7_day 48 = .ok (.iload_n 2, 1) := dX7_day_r32.2.2.2.2.2.2.2.2.1
theorem dX7_day_49 : decode cX7_day 49 = .ok (.bipush 6, 2) := dX7_day_r32.2.2.2.2.2.2.2.2.2.1
theorem dX7_day_51 : decode cX7_day 51 = .ok (.if_icmp .ge 19, 3) := dX7_day_r32.2.2.2.2.2.2.2.2.2.2.1
theorem dX7_day_54 : decode cX7_day 54 = .ok (.aload_n 0, 1) := dX7_day_r32.2.2.2.2.2.2.2.2.2.2.2.1
theorem dX7_day_55 : decode cX7_day 55 = .ok (.getfield 23, 3) := dX7_day_r32.2.2.2.2.2.2.2.2.2.2.2.2.1
theorem dX7_day_58 : decode cX7_day 58 = .ok (.getfield 143, 3) := dX7_day_r32.2.2.2.2.2.2.2.2.2.2.2.2.2.1
theorem dX7_day_61 : decode cX7_day 61 = .ok (.iload_n 2, 1) := dX7_day_r32.2.2.2.2.2.2.2.2.2.2.2.2.2.2.1
theorem dX7_day_62 : decode cX7_day 62 = .ok (.iconst 0, 1) := dX7_day_r32.2.2.2.2.2.2.2.2.2.2.2.2.2.2.2.1
theorem dX7_day_r63 : zdcP cX7_day 63 [(.iastore, 1), (.iinc 2 1, 3), (.goto (-19), 3), (.iload_n 1, 1), (.ireturn, 1)] := zdcA_ok (by decide +kernel)
theorem dX7_day_63 : decode cX7_day 63 = .ok (.iastore, 1) := dX7_day_r63.1
theorem dX7_day_64 : decode cX7_day 64 = .ok (.iinc 2 1, 3) := dX7_day_r63.2.1
theorem dX7_day_67 : decode cX7_day 67 = .ok (.goto (-19), 3) := dX7_day_r63.2.2.1
theorem dX7_day_70 : decode cX7_day 70 = .ok (.iload_n 1, 1) := dX7_day_r63.2.2.2.1
theorem dX7_day_71 : decode cX7_day 71 = .ok (.ireturn, 1) := dX7_day_r63.2.2.2.2.1
def wq_102_48 (Q : Int32 → zf_Me → Prop) : Nat → Int32 → Int32 → zf_Me → Prop
  | 0, _, _, _ => False
  | n + 1, v1, v2, m => ((v2.toInt ≥ 6 → Q v1 m) ∧ (v2.toInt < 6 → ((0 ≤ (Int32.toInt v2) ∧ (Int32.toInt v2) < (6 : Int)) ∧ ∀ m9, m9 = zf_u m 8 (Int32.toInt v2).toNat 0 → wq_102_48 Q n v1 (v2 + 1) m9)))
theorem zq_102_48 {d : Nat} (hd : 0 ≤ d) {Q : Int32 → zf_Me → Prop} : ∀ (n : Nat) (v1 : Int32) (v2 : Int32) (m : zf_Me), wq_102_48 Q n v1 v2 m → zf_W none 0 0 d zt_102 48 [some (.inr (.inr (1, 0))), some (.inl v1), some (.inl v2)] [] m (zf_I Q) := by
  intro n
  induction n with
  | zero =>
    intro v1 v2 m h
    exact h.elim
  | succ n ih =>
    intro v1 v2 m h
    unfold wq_102_48 at h
    refine zf_ld (pc' := 49) (v := .inl v2) dX7_day_48 rfl (fun _ _ _ => rfl) rfl rfl rfl ?_
    refine zf_bi (v := 6) (pc' := 51) dX7_day_49 rfl rfl ?_
    refine zf_icmp_ge (tgt := 70) (pc' := 54) dX7_day_51 rfl rfl (fun g => ?_) (fun g => ?_)
    · replace h := h.1 g
      refine zf_ld (pc' := 71) (v := .inl v1) dX7_day_70 rfl (fun _ _ _ => rfl) rfl rfl rfl ?_
      exact zf_ri dX7_day_71 rfl h
    · replace h := h.2 g
      refine zf_ld (pc' := 55) (v := .inr (.inr (1, 0))) dX7_day_54 rfl (fun _ _ _ => rfl) rfl rfl rfl ?_
      refine zf_gfr (pc' := 58) (b := 2) dX7_day_55 rfl rfl (by decide) rfl rfl ?_
      refine zf_gfr (pc' := 61) (b := 8) dX7_day_58 rfl rfl zf_walk2.1 zf_walk2.2.1 rfl ?_
      refine zf_ld (pc' := 62) (v := .inl v2) dX7_day_61 rfl (fun _ _ _ => rfl) rfl rfl rfl ?_
      refine zf_ic (v := 0) (pc' := 63) dX7_day_62 rfl rfl ?_
      refine zf_ias (pc' := 64) dX7_day_63 rfl zf_walk2.2.2.2.1 zf_walk2.2.2.2.2 h.1 rfl (fun m9 e10 => ?_)
      replace h := h.2 m9 e10
      refine zf_ii (y := (v2 + 1)) (L2 := [some (.inr (.inr (1, 0))), some (.inl v1), some (.inl (v2 + 1))]) (pc' := 67) dX7_day_64 rfl rfl rfl rfl rfl ?_
      refine zf_goto (tgt := 48) dX7_day_67 rfl ?_
      exact zf_lo (ih _ _ _ h) ⟨rfl, rfl, rfl, trivial⟩
def wp_102 (m : zf_Me) (Q : Int32 → zf_Me → Prop) : Prop := (∀ m1, m1 = zf_u m 2 10 0 → (∀ m3, m3 = zf_u m1 2 11 0 → (∀ m5, m5 = zf_u m3 2 6 0 → (∀ m7, m7 = zf_u m5 2 4 (m5.1 2 3) → (∃ n48, wq_102_48 Q n48 (m.1 2 10) 0 m7)))))
theorem zr_102 {d : Nat} (hd : 0 ≤ d) {Q : Int32 → zf_Me → Prop} {m : zf_Me} (h : wp_102 m Q) : zf_M d 102 [.inr (.inr (1, 0))] m (zf_I Q) := by
  unfold wp_102 at h
  refine zf_M_of (Nat.le_of_ble_eq_true rfl) zm_102 (L := [some (.inr (.inr (1, 0))), none, none]) rfl ?_
  refine zf_ld (pc' := 1) (v := .inr (.inr (1, 0))) dX7_day_0 rfl (fun _ _ _ => rfl) rfl rfl rfl ?_
  refine zf_gfr (pc' := 4) (b := 2) dX7_day_1 rfl rfl (by decide) rfl rfl ?_
  refine zf_gfi (pc' := 7) dX7_day_4 rfl rfl zf_walk2.1 zf_walk2.2.1 rfl ?_
  refine zf_st (pc' := 8) (L2 := [some (.inr (.inr (1, 0))), some (.inl (m.1 2 10)), none]) dX7_day_7 rfl (fun _ _ _ => rfl) rfl rfl rfl rfl rfl rfl ?_
  refine zf_ld (pc' := 9) (v := .inr (.inr (1, 0))) dX7_day_8 rfl (fun _ _ _ => rfl) rfl rfl rfl ?_
  refine zf_gfr (pc' := 12) (b := 2) dX7_day_9 rfl rfl (by decide) rfl rfl ?_
  refine zf_ic (v := 0) (pc' := 13) dX7_day_12 rfl rfl ?_
  refine zf_pf (pc' := 16) dX7_day_13 rfl rfl zf_walk2.1 zf_walk2.2.1 rfl rfl (fun m1 e2 => ?_)
  replace h := h m1 e2
  refine zf_ld (pc' := 17) (v := .inr (.inr (1, 0))) dX7_day_16 rfl (fun _ _ _ => rfl) rfl rfl rfl ?_
  refine zf_gfr (pc' := 20) (b := 2) dX7_day_17 rfl rfl (by decide) rfl rfl ?_
  refine zf_ic (v := 0) (pc' := 21) dX7_day_20 rfl rfl ?_
  refine zf_pf (pc' := 24) dX7_day_21 rfl rfl zf_walk2.1 zf_walk2.2.1 rfl rfl (fun m3 e4 => ?_)
  replace h := h m3 e4
  refine zf_ld (pc' := 25) (v := .inr (.inr (1, 0))) dX7_day_24 rfl (fun _ _ _ => rfl) rfl rfl rfl ?_
  refine zf_gfr (pc' := 28) (b := 2) dX7_day_25 rfl rfl (by decide) rfl rfl ?_
  refine zf_ic (v := 0) (pc' := 29) dX7_day_28 rfl rfl ?_
  refine zf_pf (pc' := 32) dX7_day_29 rfl rfl zf_walk2.1 zf_walk2.2.1 rfl rfl (fun m5 e6 => ?_)
  replace h := h m5 e6
  refine zf_ld (pc' := 33) (v := .inr (.inr (1, 0))) dX7_day_32 rfl (fun _ _ _ => rfl) rfl rfl rfl ?_
  refine zf_gfr (pc' := 36) (b := 2) dX7_day_33 rfl rfl (by decide) rfl rfl ?_
  refine zf_ld (pc' := 37) (v := .inr (.inr (1, 0))) dX7_day_36 rfl (fun _ _ _ => rfl) rfl rfl rfl ?_
  refine zf_gfr (pc' := 40) (b := 2) dX7_day_37 rfl rfl (by decide) rfl rfl ?_
  refine zf_gfi (pc' := 43) dX7_day_40 rfl rfl zf_walk2.1 zf_walk2.2.1 rfl ?_
  refine zf_pf (pc' := 46) dX7_day_43 rfl rfl zf_walk2.1 zf_walk2.2.1 rfl rfl (fun m7 e8 => ?_)
  replace h := h m7 e8
  refine zf_ic (v := 0) (pc' := 47) dX7_day_46 rfl rfl ?_
  refine zf_st (pc' := 48) (L2 := [some (.inr (.inr (1, 0))), some (.inl (m.1 2 10)), some (.inl 0)]) dX7_day_47 rfl (fun _ _ _ => rfl) rfl rfl rfl rfl rfl rfl ?_
  obtain ⟨n48, h⟩ := h
  exact zf_lo (zq_102_48 (by omega) n48 _ _ _ h) ⟨rfl, rfl, rfl, trivial⟩
def zt_103 : zx_MT := (7, yX7_seed, cX7_seed, 3, (some FieldType.int), 1, 0)
theorem zm_103 : zx_m 103 = zt_103 := rfl
theorem dX7_seed_r0 : zdcP cX7_seed 0 [(.aload_n 0, 1), (.getfield 23, 3), (.getfield 310, 3), (.istore_n 2, 1), (.aload_n 0, 1), (.getfield 23, 3), (.iload_n 1, 1), (.putfield 310, 3), (.iload_n 2, 1), (.ireturn, 1)] := zdcA_ok (by decide +kernel)
theorem dX7_seed_0 : decode cX7_seed 0 = .ok (.aload_n 0, 1) := dX7_seed_r0.1
theorem dX7_seed_1 : decode cX7_seed 1 = .ok (.getfield 23, 3) := dX7_seed_r0.2.1
theorem dX7_seed_4 : decode cX7_seed 4 = .ok (.getfield 310, 3) := dX7_seed_r0.2.2.1
theorem dX7_seed_7 : decode cX7_seed 7 = .ok (.istore_n 2, 1) := dX7_seed_r0.2.2.2.1
theorem dX7_seed_8 : decode cX7_seed 8 = .ok (.aload_n 0, 1) := dX7_seed_r0.2.2.2.2.1
theorem dX7_seed_9 : decode cX7_seed 9 = .ok (.getfield 23, 3) := dX7_seed_r0.2.2.2.2.2.1
theorem dX7_seed_12 : decode cX7_seed 12 = .ok (.iload_n 1, 1) := dX7_seed_r0.2.2.2.2.2.2.1
theorem dX7_seed_13 : decode cX7_seed 13 = .ok (.putfield 310, 3) := dX7_seed_r0.2.2.2.2.2.2.2.1
theorem dX7_seed_16 : decode cX7_seed 16 = .ok (.iload_n 2, 1) := dX7_seed_r0.2.2.2.2.2.2.2.2.1
theorem dX7_seed_17 : decode cX7_seed 17 = .ok (.ireturn, 1) := dX7_seed_r0.2.2.2.2.2.2.2.2.2.1
def wp_103 (v1 : Int32) (m : zf_Me) (Q : Int32 → zf_Me → Prop) : Prop := (∀ m1, m1 = zf_u m 2 12 v1 → Q (m.1 2 12) m1)
theorem zr_103 {d : Nat} (hd : 0 ≤ d) {v1 : Int32} {Q : Int32 → zf_Me → Prop} {m : zf_Me} (h : wp_103 v1 m Q) : zf_M d 103 [.inr (.inr (1, 0)), .inl v1] m (zf_I Q) := by
  unfold wp_103 at h
  refine zf_M_of (Nat.le_of_ble_eq_true rfl) zm_103 (L := [some (.inr (.inr (1, 0))), some (.inl v1), none]) rfl ?_
  refine zf_ld (pc' := 1) (v := .inr (.inr (1, 0))) dX7_seed_0 rfl (fun _ _ _ => rfl) rfl rfl rfl ?_
  refine zf_gfr (pc' := 4) (b := 2) dX7_seed_1 rfl rfl (by decide) rfl rfl ?_
  refine zf_gfi (pc' := 7) dX7_seed_4 rfl rfl zf_walk2.1 zf_walk2.2.1 rfl ?_
  refine zf_st (pc' := 8) (L2 := [some (.inr (.inr (1, 0))), some (.inl v1), some (.inl (m.1 2 12))]) dX7_seed_7 rfl (fun _ _ _ => rfl) rfl rfl rfl rfl rfl rfl ?_
  refine zf_ld (pc' := 9) (v := .inr (.inr (1, 0))) dX7_seed_8 rfl (fun _ _ _ => rfl) rfl rfl rfl ?_
  refine zf_gfr (pc' := 12) (b := 2) dX7_seed_9 rfl rfl (by decide) rfl rfl ?_
  refine zf_ld (pc' := 13) (v := .inl v1) dX7_seed_12 rfl (fun _ _ _ => rfl) rfl rfl rfl ?_
  refine zf_pf (pc' := 16) dX7_seed_13 rfl rfl zf_walk2.1 zf_walk2.2.1 rfl rfl (fun m1 e2 => ?_)
  replace h := h m1 e2
  refine zf_ld (pc' := 17) (v := .inl (m.1 2 12)) dX7_seed_16 rfl (fun _ _ _ => rfl) rfl rfl rfl ?_
  exact zf_ri dX7_seed_17 rfl h
def zt_104 : zx_MT := (7, yX7_act, cX7_act, 4, (some FieldType.int), 3, 0)
theorem zm_104 : zx_m 104 = zt_104 := rfl
theorem dX7_act_r0 : zdcP cX7_act 0 [(.aload_n 0, 1), (.getfield 23, 3), (.getfield 30, 3), (.iload_n 1, 1), (.invokevirtual 118, 3), (.ifCond .eq 12, 3), (.iload_n 2, 1), (.ifCond .lt 8, 3), (.iload_n 2, 1), (.iconst 3, 1), (.if_icmp .lt 12, 3), (.aload_n 0, 1), (.getfield 61, 3), (.invokevirtual 313, 3), (.iconst 0, 1), (.ireturn, 1)] := zdcA_ok (by decide +kernel)
theorem dX7_act_0 : decode cX7_act 0 = .ok (.aload_n 0, 1) := dX7_act_r0.1
theorem dX7_act_1 : decode cX7_act 1 = .ok (.getfield 23, 3) := dX7_act_r0.2.1
theorem dX7_act_4 : decode cX7_act 4 = .ok (.getfield 30, 3) := dX7_act_r0.2.2.1
theorem dX7_act_7 : decode cX7_act 7 = .ok (.iload_n 1, 1) := dX7_act_r0.2.2.2.1
theorem dX7_act_8 : decode cX7_act 8 = .ok (.invokevirtual 118, 3) := dX7_act_r0.2.2.2.2.1
theorem dX7_act_11 : decode cX7_act 11 = .ok (.ifCond .eq 12, 3) := dX7_act_r0.2.2.2.2.2.1
theorem dX7_act_14 : decode cX7_act 14 = .ok (.iload_n 2, 1) := dX7_act_r0.2.2.2.2.2.2.1
theorem dX7_act_15 : decode cX7_act 15 = .ok (.ifCond .lt 8, 3) := dX7_act_r0.2.2.2.2.2.2.2.1
theorem dX7_act_18 : decode cX7_act 18 = .ok (.iload_n 2, 1) := dX7_act_r0.2.2.2.2.2.2.2.2.1
theorem dX7_act_19 : decode cX7_act 19 = .ok (.iconst 3, 1) := dX7_act_r0.2.2.2.2.2.2.2.2.2.1
theorem dX7_act_20 : decode cX7_act 20 = .ok (.if_icmp .lt 12, 3) := dX7_act_r0.2.2.2.2.2.2.2.2.2.2.1
theorem dX7_act_23 : decode cX7_act 23 = .ok (.aload_n 0, 1) := dX7_act_r0.2.2.2.2.2.2.2.2.2.2.2.1
theorem dX7_act_24 : decode cX7_act 24 = .ok (.getfield 61, 3) := dX7_act_r0.2.2.2.2.2.2.2.2.2.2.2.2.1
theorem dX7_act_27 : decode cX7_act 27 = .ok (.invokevirtual 313, 3) := dX7_act_r0.2.2.2.2.2.2.2.2.2.2.2.2.2.1
theorem dX7_act_30 : decode cX7_act 30 = .ok (.iconst 0, 1) := dX7_act_r0.2.2.2.2.2.2.2.2.2.2.2.2.2.2.1
theorem dX7_act_31 : decode cX7_act 31 = .ok (.ireturn, 1) := dX7_act_r0.2.2.2.2.2.2.2.2.2.2.2.2.2.2.2.1
theorem dX7_act_r32 : zdcP cX7_act 32 [(.aload_n 0, 1), (.getfield 61, 3), (.aload_n 0, 1), (.getfield 23, 3), (.getfield 30, 3), (.iload_n 1, 1), (.iload_n 2, 1), (.iload_n 3, 1), (.invokevirtual 316, 3), (.ireturn, 1)] := zdcA_ok (by decide +kernel)
theorem dX7_act_32 : decode cX7_act 32 = .ok (.aload_n 0, 1) := dX7_act_r32.1
theorem dX7_act_33 : decode cX7_act 33 = .ok (.getfield 61, 3) := dX7_act_r32.2.1
theorem dX7_act_36 : decode cX7_act 36 = .ok (.aload_n 0, 1) := dX7_act_r32.2.2.1
theorem dX7_act_37 : decode cX7_act 37 = .ok (.getfield 23, 3) := dX7_act_r32.2.2.2.1
theorem dX7_act_40 : decode cX7_act 40 = .ok (.getfield 30, 3) := dX7_act_r32.2.2.2.2.1
theorem dX7_act_43 : decode cX7_act 43 = .ok (.iload_n 1, 1) := dX7_act_r32.2.2.2.2.2.1
theorem dX7_act_44 : decode cX7_act 44 = .ok (.iload_n 2, 1) := dX7_act_r32.2.2.2.2.2.2.1
theorem dX7_act_45 : decode cX7_act 45 = .ok (.iload_n 3, 1) := dX7_act_r32.2.2.2.2.2.2.2.1
theorem dX7_act_46 : decode cX7_act 46 = .ok (.invokevirtual 316, 3) := dX7_act_r32.2.2.2.2.2.2.2.2.1
theorem dX7_act_49 : decode cX7_act 49 = .ok (.ireturn, 1) := dX7_act_r32.2.2.2.2.2.2.2.2.2.1
def wp_104 (v1 : Int32) (v2 : Int32) (v3 : Int32) (m : zf_Me) (Q : Int32 → zf_Me → Prop) : Prop := wp_65 3 v1 m (fun b1 m2 => ((b1 = false → wp_1 m2 (fun m4 => Q 0 m4)) ∧ (b1 = true → ((v2.toInt < 0 → wp_1 m2 (fun m6 => Q 0 m6)) ∧ (v2.toInt ≥ 0 → ((v2.toInt < 3 → wp_2 3 v1 v2 v3 m2 (fun x7 m8 => Q x7 m8)) ∧ (v2.toInt ≥ 3 → wp_1 m2 (fun m10 => Q 0 m10))))))))
theorem zr_104 {d : Nat} (hd : 95 ≤ d) {v1 : Int32} {v2 : Int32} {v3 : Int32} {Q : Int32 → zf_Me → Prop} {m : zf_Me} (h : wp_104 v1 v2 v3 m Q) : zf_M d 104 [.inr (.inr (1, 0)), .inl v1, .inl v2, .inl v3] m (zf_I Q) := by
  obtain ⟨e, rfl⟩ : ∃ z, d = z + 1 := ⟨d - 1, by omega⟩
  unfold wp_104 at h
  refine zf_M_of (Nat.le_of_ble_eq_true rfl) zm_104 (L := [some (.inr (.inr (1, 0))), some (.inl v1), some (.inl v2), some (.inl v3)]) rfl ?_
  refine zf_ld (pc' := 1) (v := .inr (.inr (1, 0))) dX7_act_0 rfl (fun _ _ _ => rfl) rfl rfl rfl ?_
  refine zf_gfr (pc' := 4) (b := 2) dX7_act_1 rfl rfl (by decide) rfl rfl ?_
  refine zf_gfr (pc' := 7) (b := 3) dX7_act_4 rfl rfl zf_walk2.1 zf_walk2.2.1 rfl ?_
  refine zf_ld (pc' := 8) (v := .inl v1) dX7_act_7 rfl (fun _ _ _ => rfl) rfl rfl rfl ?_
  refine zf_iv (k := 65) (pc' := 11) (r := []) dX7_act_8 rfl rfl rfl rfl zf_walk2.2.2.1.1 zf_walk2.2.2.1.2.1 rfl rfl (zr_65 (by omega) zf_walk2.2.2.1 h) (zf_kB (fun b1 m2 h => ?_))
  refine zf_ib_eq (tgt := 23) (pc' := 14) dX7_act_11 rfl rfl (fun g => ?_) (fun g => ?_)
  · replace h := h.1 g
    refine zf_ld (pc' := 24) (v := .inr (.inr (1, 0))) dX7_act_23 rfl (fun _ _ _ => rfl) rfl rfl rfl ?_
    refine zf_gfr (pc' := 27) (b := 44) dX7_act_24 rfl rfl (by decide) rfl rfl ?_
    refine zf_iv (k := 1) (pc' := 30) (r := []) dX7_act_27 rfl rfl rfl rfl (by decide) rfl rfl rfl (zr_1 (by omega) h) (zf_kO (fun m4 h => ?_))
    refine zf_ic (v := 0) (pc' := 31) dX7_act_30 rfl rfl ?_
    exact zf_ri dX7_act_31 rfl h
  · replace h := h.2 g
    refine zf_ld (pc' := 15) (v := .inl v2) dX7_act_14 rfl (fun _ _ _ => rfl) rfl rfl rfl ?_
    refine zf_if_lt (tgt := 23) (pc' := 18) dX7_act_15 rfl rfl (fun g => ?_) (fun g => ?_)
    · replace h := h.1 g
      refine zf_ld (pc' := 24) (v := .inr (.inr (1, 0))) dX7_act_23 rfl (fun _ _ _ => rfl) rfl rfl rfl ?_
      refine zf_gfr (pc' := 27) (b := 44) dX7_act_24 rfl rfl (by decide) rfl rfl ?_
      refine zf_iv (k := 1) (pc' := 30) (r := []) dX7_act_27 rfl rfl rfl rfl (by decide) rfl rfl rfl (zr_1 (by omega) h) (zf_kO (fun m6 h => ?_))
      refine zf_ic (v := 0) (pc' := 31) dX7_act_30 rfl rfl ?_
      exact zf_ri dX7_act_31 rfl h
    · replace h := h.2 g
      refine zf_ld (pc' := 19) (v := .inl v2) dX7_act_18 rfl (fun _ _ _ => rfl) rfl rfl rfl ?_
      refine zf_ic (v := 3) (pc' := 20) dX7_act_19 rfl rfl ?_
      refine zf_icmp_lt (tgt := 32) (pc' := 23) dX7_act_20 rfl rfl (fun g => ?_) (fun g => ?_)
      · replace h := h.1 g
        refine zf_ld (pc' := 33) (v := .inr (.inr (1, 0))) dX7_act_32 rfl (fun _ _ _ => rfl) rfl rfl rfl ?_
        refine zf_gfr (pc' := 36) (b := 44) dX7_act_33 rfl rfl (by decide) rfl rfl ?_
        refine zf_ld (pc' := 37) (v := .inr (.inr (1, 0))) dX7_act_36 rfl (fun _ _ _ => rfl) rfl rfl rfl ?_
        refine zf_gfr (pc' := 40) (b := 2) dX7_act_37 rfl rfl (by decide) rfl rfl ?_
        refine zf_gfr (pc' := 43) (b := 3) dX7_act_40 rfl rfl zf_walk2.1 zf_walk2.2.1 rfl ?_
        refine zf_ld (pc' := 44) (v := .inl v1) dX7_act_43 rfl (fun _ _ _ => rfl) rfl rfl rfl ?_
        refine zf_ld (pc' := 45) (v := .inl v2) dX7_act_44 rfl (fun _ _ _ => rfl) rfl rfl rfl ?_
        refine zf_ld (pc' := 46) (v := .inl v3) dX7_act_45 rfl (fun _ _ _ => rfl) rfl rfl rfl ?_
        refine zf_iv (k := 2) (pc' := 49) (r := []) dX7_act_46 rfl rfl rfl rfl (by decide) rfl rfl rfl (zr_2 (by omega) zf_walk2.2.2.1 h) (zf_kI (fun x7 m8 h => ?_))
        exact zf_ri dX7_act_49 rfl h
      · replace h := h.2 g
        refine zf_ld (pc' := 24) (v := .inr (.inr (1, 0))) dX7_act_23 rfl (fun _ _ _ => rfl) rfl rfl rfl ?_
        refine zf_gfr (pc' := 27) (b := 44) dX7_act_24 rfl rfl (by decide) rfl rfl ?_
        refine zf_iv (k := 1) (pc' := 30) (r := []) dX7_act_27 rfl rfl rfl rfl (by decide) rfl rfl rfl (zr_1 (by omega) h) (zf_kO (fun m10 h => ?_))
        refine zf_ic (v := 0) (pc' := 31) dX7_act_30 rfl rfl ?_
        exact zf_ri dX7_act_31 rfl h
def zt_105 : zx_MT := (7, yX7_trace, cX7_trace, 2, (some FieldType.int), 1, 0)
theorem zm_105 : zx_m 105 = zt_105 := rfl
theorem dX7_trace_r0 : zdcP cX7_trace 0 [(.aload_n 0, 1), (.getfield 61, 3), (.iload_n 1, 1), (.invokevirtual 320, 3), (.ireturn, 1)] := zdcA_ok (by decide +kernel)
theorem dX7_trace_0 : decode cX7_trace 0 = .ok (.aload_n 0, 1) := dX7_trace_r0.1
theorem dX7_trace_1 : decode cX7_trace 1 = .ok (.getfield 61, 3) := dX7_trace_r0.2.1
theorem dX7_trace_4 : decode cX7_trace 4 = .ok (.iload_n 1, 1) := dX7_trace_r0.2.2.1
theorem dX7_trace_5 : decode cX7_trace 5 = .ok (.invokevirtual 320, 3) := dX7_trace_r0.2.2.2.1
theorem dX7_trace_8 : decode cX7_trace 8 = .ok (.ireturn, 1) := dX7_trace_r0.2.2.2.2.1
def wp_105 (v1 : Int32) (m : zf_Me) (Q : Int32 → zf_Me → Prop) : Prop := wp_3 v1 m (fun x1 m2 => Q x1 m2)
theorem zr_105 {d : Nat} (hd : 1 ≤ d) {v1 : Int32} {Q : Int32 → zf_Me → Prop} {m : zf_Me} (h : wp_105 v1 m Q) : zf_M d 105 [.inr (.inr (1, 0)), .inl v1] m (zf_I Q) := by
  obtain ⟨e, rfl⟩ : ∃ z, d = z + 1 := ⟨d - 1, by omega⟩
  unfold wp_105 at h
  refine zf_M_of (Nat.le_of_ble_eq_true rfl) zm_105 (L := [some (.inr (.inr (1, 0))), some (.inl v1)]) rfl ?_
  refine zf_ld (pc' := 1) (v := .inr (.inr (1, 0))) dX7_trace_0 rfl (fun _ _ _ => rfl) rfl rfl rfl ?_
  refine zf_gfr (pc' := 4) (b := 44) dX7_trace_1 rfl rfl (by decide) rfl rfl ?_
  refine zf_ld (pc' := 5) (v := .inl v1) dX7_trace_4 rfl (fun _ _ _ => rfl) rfl rfl rfl ?_
  refine zf_iv (k := 3) (pc' := 8) (r := []) dX7_trace_5 rfl rfl rfl rfl (by decide) rfl rfl rfl (zr_3 (by omega) h) (zf_kI (fun x1 m2 h => ?_))
  exact zf_ri dX7_trace_8 rfl h
def zt_106 : zx_MT := (7, yX7_image, cX7_image, 1, (some FieldType.int), 0, 0)
theorem zm_106 : zx_m 106 = zt_106 := rfl
theorem dX7_image_r0 : zdcP cX7_image 0 [(.aload_n 0, 1), (.getfield 27, 3), (.getfield 30, 3), (.aload_n 0, 1), (.getfield 23, 3), (.getfield 30, 3), (.invokevirtual 199, 3), (.aload_n 0, 1), (.getfield 27, 3), (.aload_n 0, 1), (.getfield 23, 3), (.invokevirtual 202, 3), (.aload_n 0, 1), (.iconst 1, 1), (.putfield 69, 3), (.aload_n 0, 1)] := zdcA_ok (by decide +kernel)
theorem dX7_image_0 : decode cX7_image 0 = .ok (.aload_n 0, 1) := dX7_image_r0.1
theorem dX7_image_1 : decode cX7_image 1 = .ok (.getfield 27, 3) := dX7_image_r0.2.1
theorem dX7_image_4 : decode cX7_image 4 = .ok (.getfield 30, 3) := dX7_image_r0.2.2.1
theorem dX7_image_7 : decode cX7_image 7 = .ok (.aload_n 0, 1) := dX7_image_r0.2.2.2.1
theorem dX7_image_8 : decode cX7_image 8 = .ok (.getfield 23, 3) := dX7_image_r0.2.2.2.2.1
theorem dX7_image_11 : decode cX7_image 11 = .ok (.getfield 30, 3) := dX7_image_r0.2.2.2.2.2.1
theorem dX7_image_14 : decode cX7_image 14 = .ok (.invokevirtual 199, 3) := dX7_image_r0.2.2.2.2.2.2.1
theorem dX7_image_17 : decode cX7_image 17 = .ok (.aload_n 0, 1) := dX7_image_r0.2.2.2.2.2.2.2.1
theorem dX7_image_18 : decode cX7_image 18 = .ok (.getfield 27, 3) := dX7_image_r0.2.2.2.2.2.2.2.2.1
theorem dX7_image_21 : decode cX7_image 21 = .ok (.aload_n 0, 1) := dX7_image_r0.2.2.2.2.2.2.2.2.2.1
theorem dX7_image_22 : decode cX7_image 22 = .ok (.getfield 23, 3) := dX7_image_r0.2.2.2.2.2.2.2.2.2.2.1
theorem dX7_image_25 : decode cX7_image 25 = .ok (.invokevirtual 202, 3) := dX7_image_r0.2.2.2.2.2.2.2.2.2.2.2.1
theorem dX7_image_28 : decode cX7_image 28 = .ok (.aload_n 0, 1) := dX7_image_r0.2.2.2.2.2.2.2.2.2.2.2.2.1
theorem dX7_image_29 : decode cX7_image 29 = .ok (.iconst 1, 1) := dX7_image_r0.2.2.2.2.2.2.2.2.2.2.2.2.2.1
theorem dX7_image_30 : decode cX7_image 30 = .ok (.putfield 69, 3) := dX7_image_r0.2.2.2.2.2.2.2.2.2.2.2.2.2.2.1
theorem dX7_image_33 : decode cX7_image 33 = .ok (.aload_n 0, 1) := dX7_image_r0.2.2.2.2.2.2.2.2.2.2.2.2.2.2.2.1
theorem dX7_image_r34 : zdcP cX7_image 34 [(.getfield 23, 3), (.getfield 30, 3), (.getfield 153, 3), (.ireturn, 1)] := zdcA_ok (by decide +kernel)
theorem dX7_image_34 : decode cX7_image 34 = .ok (.getfield 23, 3) := dX7_image_r34.1
theorem dX7_image_37 : decode cX7_image 37 = .ok (.getfield 30, 3) := dX7_image_r34.2.1
theorem dX7_image_40 : decode cX7_image 40 = .ok (.getfield 153, 3) := dX7_image_r34.2.2.1
theorem dX7_image_43 : decode cX7_image 43 = .ok (.ireturn, 1) := dX7_image_r34.2.2.2.1
def wp_106 (m : zf_Me) (Q : Int32 → zf_Me → Prop) : Prop := wp_63 10 3 m (fun m2 => wp_43 9 10 15 2 3 8 m2 (fun m4 => (∀ m5, m5 = zf_u m4 0 9 1 → Q (m5.1 3 5) m5)))
theorem zr_106 {d : Nat} (hd : 1 ≤ d) {Q : Int32 → zf_Me → Prop} {m : zf_Me} (h : wp_106 m Q) : zf_M d 106 [.inr (.inr (1, 0))] m (zf_I Q) := by
  obtain ⟨e, rfl⟩ : ∃ z, d = z + 1 := ⟨d - 1, by omega⟩
  unfold wp_106 at h
  refine zf_M_of (Nat.le_of_ble_eq_true rfl) zm_106 (L := [some (.inr (.inr (1, 0)))]) rfl ?_
  refine zf_ld (pc' := 1) (v := .inr (.inr (1, 0))) dX7_image_0 rfl (fun _ _ _ => rfl) rfl rfl rfl ?_
  refine zf_gfr (pc' := 4) (b := 9) dX7_image_1 rfl rfl (by decide) rfl rfl ?_
  refine zf_gfr (pc' := 7) (b := 10) dX7_image_4 rfl rfl zf_walk9.1 zf_walk9.2.1 rfl ?_
  refine zf_ld (pc' := 8) (v := .inr (.inr (1, 0))) dX7_image_7 rfl (fun _ _ _ => rfl) rfl rfl rfl ?_
  refine zf_gfr (pc' := 11) (b := 2) dX7_image_8 rfl rfl (by decide) rfl rfl ?_
  refine zf_gfr (pc' := 14) (b := 3) dX7_image_11 rfl rfl zf_walk2.1 zf_walk2.2.1 rfl ?_
  refine zf_iv (k := 63) (pc' := 17) (r := []) dX7_image_14 rfl rfl rfl rfl zf_walk9.2.2.1.1 zf_walk9.2.2.1.2.1 rfl rfl (zr_63 (by omega) zf_walk9.2.2.1 zf_walk2.2.2.1 h) (zf_kO (fun m2 h => ?_))
  refine zf_ld (pc' := 18) (v := .inr (.inr (1, 0))) dX7_image_17 rfl (fun _ _ _ => rfl) rfl rfl rfl ?_
  refine zf_gfr (pc' := 21) (b := 9) dX7_image_18 rfl rfl (by decide) rfl rfl ?_
  refine zf_ld (pc' := 22) (v := .inr (.inr (1, 0))) dX7_image_21 rfl (fun _ _ _ => rfl) rfl rfl rfl ?_
  refine zf_gfr (pc' := 25) (b := 2) dX7_image_22 rfl rfl (by decide) rfl rfl ?_
  refine zf_iv (k := 43) (pc' := 28) (r := []) dX7_image_25 rfl rfl rfl rfl zf_walk9.1 zf_walk9.2.1 rfl rfl (zr_43 (by omega) zf_walk9 zf_walk2 h) (zf_kO (fun m4 h => ?_))
  refine zf_ld (pc' := 29) (v := .inr (.inr (1, 0))) dX7_image_28 rfl (fun _ _ _ => rfl) rfl rfl rfl ?_
  refine zf_ic (v := 1) (pc' := 30) dX7_image_29 rfl rfl ?_
  refine zf_pf (pc' := 33) dX7_image_30 rfl rfl (by decide) rfl rfl rfl (fun m5 e6 => ?_)
  replace h := h m5 e6
  refine zf_ld (pc' := 34) (v := .inr (.inr (1, 0))) dX7_image_33 rfl (fun _ _ _ => rfl) rfl rfl rfl ?_
  refine zf_gfr (pc' := 37) (b := 2) dX7_image_34 rfl rfl (by decide) rfl rfl ?_
  refine zf_gfr (pc' := 40) (b := 3) dX7_image_37 rfl rfl zf_walk2.1 zf_walk2.2.1 rfl ?_
  refine zf_gfi (pc' := 43) dX7_image_40 rfl rfl zf_walk2.2.2.1.1 zf_walk2.2.2.1.2.1 rfl ?_
  exact zf_ri dX7_image_43 rfl h
def zt_107 : zx_MT := (7, yX7_restore, cX7_restore, 5, (some FieldType.int), 0, 0)
theorem zm_107 : zx_m 107 = zt_107 := rfl
theorem dX7_restore_r0 : zdcP cX7_restore 0 [(.aload_n 0, 1), (.getfield 69, 3), (.ifCond .ne 10, 3), (.aload_n 0, 1), (.bipush 6, 2), (.invokevirtual 82, 3), (.ireturn, 1), (.aload_n 0, 1), (.getfield 23, 3), (.getfield 30, 3), (.aload_n 0, 1), (.getfield 27, 3), (.getfield 30, 3), (.invokevirtual 199, 3), (.aload_n 0, 1), (.getfield 23, 3)] := zdcA_ok (by decide +kernel)
theorem dX7_restore_0 : decode cX7_restore 0 = .ok (.aload_n 0, 1) := dX7_restore_r0.1
theorem dX7_restore_1 : decode cX7_restore 1 = .ok (.getfield 69, 3) := dX7_restore_r0.2.1
theorem dX7_restore_4 : decode cX7_restore 4 = .ok (.ifCond .ne 10, 3) := dX7_restore_r0.2.2.1
theorem dX7_restore_7 : decode cX7_restore 7 = .ok (.aload_n 0, 1) := dX7_restore_r0.2.2.2.1
theorem dX7_restore_8 : decode cX7_restore 8 = .ok (.bipush 6, 2) := dX7_restore_r0.2.2.2.2.1
theorem dX7_restore_10 : decode cX7_restore 10 = .ok (.invokevirtual 82, 3) := dX7_restore_r0.2.2.2.2.2.1
theorem dX7_restore_13 : decode cX7_restore 13 = .ok (.ireturn, 1) := dX7_restore_r0.2.2.2.2.2.2.1
theorem dX7_restore_14 : decode cX7_restore 14 = .ok (.aload_n 0, 1) := dX7_restore_r0.2.2.2.2.2.2.2.1
theorem dX7_restore_15 : decode cX7_restore 15 = .ok (.getfield 23, 3) := dX7_restore_r0.2.2.2.2.2.2.2.2.1
theorem dX7_restore_18 : decode cX7_restore 18 = .ok (.getfield 30, 3) := dX7_restore_r0.2.2.2.2.2.2.2.2.2.1
theorem dX7_restore_21 : decode cX7_restore 21 = .ok (.aload_n 0, 1) := dX7_restore_r0.2.2.2.2.2.2.2.2.2.2.1
theorem dX7_restore_22 : decode cX7_restore 22 = .ok (.getfield 27, 3) := dX7_restore_r0.2.2.2.2.2.2.2.2.2.2.2.1
theorem dX7_restore_25 : decode cX7_restore 25 = .ok (.getfield 30, 3) := dX7_restore_r0.2.2.2.2.2.2.2.2.2.2.2.2.1
theorem dX7_restore_28 : decode cX7_restore 28 = .ok (.invokevirtual 199, 3) := dX7_restore_r0.2.2.2.2.2.2.2.2.2.2.2.2.2.1
theorem dX7_restore_31 : decode cX7_restore 31 = .ok (.aload_n 0, 1) := dX7_restore_r0.2.2.2.2.2.2.2.2.2.2.2.2.2.2.1
theorem dX7_restore_32 : decode cX7_restore 32 = .ok (.getfield 23, 3) := dX7_restore_r0.2.2.2.2.2.2.2.2.2.2.2.2.2.2.2.1
theorem dX7_restore_r35 : zdcP cX7_restore 35 [(.aload_n 0, 1), (.getfield 27, 3), (.invokevirtual 202, 3), (.aload_n 0, 1), (.getfield 11, 3), (.astore_n 1, 1), (.aload_n 1, 1), (.arraylength, 1), (.istore_n 2, 1), (.iconst 0, 1), (.istore_n 3, 1), (.iload_n 3, 1), (.iload_n 2, 1), (.if_icmp .ge 46, 3), (.aload_n 1, 1), (.iload_n 3, 1)] := zdcA_ok (by decide +kernel)
theorem dX7_restore_35 : decode cX7_restore 35 = .ok (.aload_n 0, 1) := dX7_restore_r35.1
theorem dX7_restore_36 : decode cX7_restore 36 = .ok (.getfield 27, 3) := dX7_restore_r35.2.1
theorem dX7_restore_39 : decode cX7_restore 39 = .ok (.invokevirtual 202, 3) := dX7_restore_r35.2.2.1
theorem dX7_restore_42 : decode cX7_restore 42 = .ok (.aload_n 0, 1) := dX7_restore_r35.2.2.2.1
theorem dX7_restore_43 : decode cX7_restore 43 = .ok (.getfield 11, 3) := dX7_restore_r35.2.2.2.2.1
theorem dX7_restore_46 : decode cX7_restore 46 = .ok (.astore_n 1, 1) := dX7_restore_r35.2.2.2.2.2.1
theorem dX7_restore_47 : decode cX7_restore 47 = .ok (.aload_n 1, 1) := dX7_restore_r35.2.2.2.2.2.2.1
theorem dX7_restore_48 : decode cX7_restore 48 = .ok (.arraylength, 1) := dX7_restore_r35.2.2.2.2.2.2.2.1
theorem dX7_restore_49 : decode cX7_restore 49 = .ok (.istore_n 2, 1) := dX7_restore_r35.2.2.2.2.2.2.2.2.1
theorem dX7_restore_50 : decode cX7_restore 50 = .ok (.iconst 0, 1) := dX7_restore_r35.2.2.2.2.2.2.2.2.2.1
theorem dX7_restore_51 : decode cX7_restore 51 = .ok (.istore_n 3, 1) := dX7_restore_r35.2.2.2.2.2.2.2.2.2.2.1
theorem dX7_restore_52 : decode cX7_restore 52 = .ok (.iload_n 3, 1) := dX7_restore_r35.2.2.2.2.2.2.2.2.2.2.2.1
theorem dX7_restore_53 : decode cX7_restore 53 = .ok (.iload_n 2, 1) := dX7_restore_r35.2.2.2.2.2.2.2.2.2.2.2.2.1
theorem dX7_restore_54 : decode cX7_restore 54 = .ok (.if_icmp .ge 46, 3) := dX7_restore_r35.2.2.2.2.2.2.2.2.2.2.2.2.2.1
theorem dX7_restore_57 : decode cX7_restore 57 = .ok (.aload_n 1, 1) := dX7_restore_r35.2.2.2.2.2.2.2.2.2.2.2.2.2.2.1
theorem dX7_restore_58 : decode cX7_restore 58 = .ok (.iload_n 3, 1) := dX7_restore_r35.2.2.2.2.2.2.2.2.2.2.2.2.2.2.2.1
theorem dX7_restore_r59 : zdcP cX7_restore 59 [(.aaload, 1), (.astore 4, 2), (.aload 4, 2), (.invokevirtual 323, 3), (.ifCond .ne 27, 3), (.aload_n 0, 1), (.getfield 23, 3), (.getfield 30, 3), (.aload 4, 2), (.getfield 121, 3), (.invokevirtual 118, 3), (.ifCond .ne 9, 3), (.aload 4, 2), (.iconst (-1), 1), (.putfield 121, 3), (.iinc 3 1, 3)] := zdcA_ok (by decide +kernel)
theorem dX7_restore_59 : decode cX7_restore 59 = .ok (.aaload, 1) := dX7_restore_r59.1
theorem dX7_restore_60 : decode cX7_restore 60 = .ok (.astore 4, 2) := dX7_restore_r59.2.1
theorem dX7_restore_62 : decode cX7_restore 62 = .ok (.aload 4, 2) := dX7_restore_r59.2.2.1
theorem dX7_restore_64 : decode cX7_restore 64 = .ok (.invokevirtual 323, 3) := dX7_restore_r59.2.2.2.1
theorem dX7_restore_67 : decode cX7_restore 67 = .ok (.ifCond .ne 27, 3) := dX7_restore_r59.2.2.2.2.1
theorem dX7_restore_70 : decode cX7_restore 70 = .ok (.aload_n 0, 1) := dX7_restore_r59.2.2.2.2.2.1
theorem dX7_restore_71 : decode cX7_restore 71 = .ok (.getfield 23, 3) := dX7_restore_r59.2.2.2.2.2.2.1
theorem dX7_restore_74 : decode cX7_restore 74 = .ok (.getfield 30, 3) := dX7_restore_r59.2.2.2.2.2.2.2.1
theorem dX7_restore_77 : decode cX7_restore 77 = .ok (.aload 4, 2) := dX7_restore_r59.2.2.2.2.2.2.2.2.1
theorem dX7_restore_79 : decode cX7_restore 79 = .ok (.getfield 121, 3) := dX7_restore_r59.2.2.2.2.2.2.2.2.2.1
theorem dX7_restore_82 : decode cX7_restore 82 = .ok (.invokevirtual 118, 3) := dX7_restore_r59.2.2.2.2.2.2.2.2.2.2.1
theorem dX7_restore_85 : decode cX7_restore 85 = .ok (.ifCond .ne 9, 3) := dX7_restore_r59.2.2.2.2.2.2.2.2.2.2.2.1
theorem dX7_restore_88 : decode cX7_restore 88 = .ok (.aload 4, 2) := dX7_restore_r59.2.2.2.2.2.2.2.2.2.2.2.2.1
theorem dX7_restore_90 : decode cX7_restore 90 = .ok (.iconst (-1), 1) := dX7_restore_r59.2.2.2.2.2.2.2.2.2.2.2.2.2.1
theorem dX7_restore_91 : decode cX7_restore 91 = .ok (.putfield 121, 3) := dX7_restore_r59.2.2.2.2.2.2.2.2.2.2.2.2.2.2.1
theorem dX7_restore_94 : decode cX7_restore 94 = .ok (.iinc 3 1, 3) := dX7_restore_r59.2.2.2.2.2.2.2.2.2.2.2.2.2.2.2.1
theorem dX7_restore_r97 : zdcP cX7_restore 97 [(.goto (-45), 3), (.aload_n 0, 1), (.getfield 23, 3), (.getfield 30, 3), (.getfield 153, 3), (.ireturn, 1)] := zdcA_ok (by decide +kernel)
theorem dX7_restore_97 : decode cX7_restore 97 = .ok (.goto (-45), 3) := dX7_restore_r97.1
theorem dX7_restore_100 : decode cX7_restore 100 = .ok (.aload_n 0, 1) := dX7_restore_r97.2.1
theorem dX7_restore_101 : decode cX7_restore 101 = .ok (.getfield 23, 3) := dX7_restore_r97.2.2.1
theorem dX7_restore_104 : decode cX7_restore 104 = .ok (.getfield 30, 3) := dX7_restore_r97.2.2.2.1
theorem dX7_restore_107 : decode cX7_restore 107 = .ok (.getfield 153, 3) := dX7_restore_r97.2.2.2.2.1
theorem dX7_restore_110 : decode cX7_restore 110 = .ok (.ireturn, 1) := dX7_restore_r97.2.2.2.2.2.1
def wq_107_52 (Q : Int32 → zf_Me → Prop) : Nat → Int32 → Int32 → zf_Me → Prop
  | 0, _, _, _ => False
  | n + 1, v2, v3, m => ((v3.toInt ≥ v2.toInt → Q (m.1 3 5) m) ∧ (v3.toInt < v2.toInt → ((0 ≤ (Int32.toInt v3) ∧ (Int32.toInt v3) < 8) ∧ wp_19 (47 + 2 * (Int32.toInt v3).toNat) (48 + 2 * (Int32.toInt v3).toNat) m (fun b7 m8 => ((b7 = true → wq_107_52 Q n v2 (v3 + 1) m8) ∧ (b7 = false → wp_65 3 (m8.1 (47 + 2 * (Int32.toInt v3).toNat) 1) m8 (fun b9 m10 => ((b9 = true → wq_107_52 Q n v2 (v3 + 1) m10) ∧ (b9 = false → (∀ m11, m11 = zf_u m10 (47 + 2 * (Int32.toInt v3).toNat) 1 (-1) → wq_107_52 Q n v2 (v3 + 1) m11))))))))))
theorem zq_107_52 {d : Nat} (hd : 1 ≤ d) {Q : Int32 → zf_Me → Prop} : ∀ (n : Nat) (v2 : Int32) (v3 : Int32) (m : zf_Me), wq_107_52 Q n v2 v3 m → zf_W none 0 0 d zt_107 52 [some (.inr (.inr (1, 0))), some (.inr (.inr (1, 1))), some (.inl v2), some (.inl v3), none] [] m (zf_I Q) := by
  obtain ⟨e, rfl⟩ : ∃ z, d = z + 1 := ⟨d - 1, by omega⟩
  intro n
  induction n with
  | zero =>
    intro v2 v3 m h
    exact h.elim
  | succ n ih =>
    intro v2 v3 m h
    unfold wq_107_52 at h
    refine zf_ld (pc' := 53) (v := .inl v3) dX7_restore_52 rfl (fun _ _ _ => rfl) rfl rfl rfl ?_
    refine zf_ld (pc' := 54) (v := .inl v2) dX7_restore_53 rfl (fun _ _ _ => rfl) rfl rfl rfl ?_
    refine zf_icmp_ge (tgt := 100) (pc' := 57) dX7_restore_54 rfl rfl (fun g => ?_) (fun g => ?_)
    · replace h := h.1 g
      refine zf_ld (pc' := 101) (v := .inr (.inr (1, 0))) dX7_restore_100 rfl (fun _ _ _ => rfl) rfl rfl rfl ?_
      refine zf_gfr (pc' := 104) (b := 2) dX7_restore_101 rfl rfl (by decide) rfl rfl ?_
      refine zf_gfr (pc' := 107) (b := 3) dX7_restore_104 rfl rfl zf_walk2.1 zf_walk2.2.1 rfl ?_
      refine zf_gfi (pc' := 110) dX7_restore_107 rfl rfl zf_walk2.2.2.1.1 zf_walk2.2.2.1.2.1 rfl ?_
      exact zf_ri dX7_restore_110 rfl h
    · replace h := h.2 g
      refine zf_ld (pc' := 58) (v := .inr (.inr (1, 1))) dX7_restore_57 rfl (fun _ _ _ => rfl) rfl rfl rfl ?_
      refine zf_ld (pc' := 59) (v := .inl v3) dX7_restore_58 rfl (fun _ _ _ => rfl) rfl rfl rfl ?_
      refine zf_aal (b := 47) (n := 8) (pc' := 60) dX7_restore_59 rfl (by decide) rfl (by decide) rfl h.1 zf_row1 ?_
      have hb5 := h.1
      replace h := h.2
      have hx6 : zf_shelf (47 + 2 * (Int32.toInt v3).toNat) (48 + 2 * (Int32.toInt v3).toNat) := zf_shelves (by omega)
      refine zf_st (pc' := 62) (L2 := [some (.inr (.inr (1, 0))), some (.inr (.inr (1, 1))), some (.inl v2), some (.inl v3), some (.inr (.inr (1, (47 + 2 * (Int32.toInt v3).toNat))))]) dX7_restore_60 rfl (fun _ _ _ => rfl) rfl rfl rfl rfl rfl rfl ?_
      refine zf_ld (pc' := 64) (v := .inr (.inr (1, (47 + 2 * (Int32.toInt v3).toNat)))) dX7_restore_62 rfl (fun _ _ _ => rfl) rfl rfl rfl ?_
      refine zf_iv (k := 19) (pc' := 67) (r := []) dX7_restore_64 rfl rfl rfl rfl hx6.1 hx6.2.1 rfl rfl (zr_19 (by omega) hx6 h) (zf_kB (fun b7 m8 h => ?_))
      refine zf_ib_ne (tgt := 94) (pc' := 70) dX7_restore_67 rfl rfl (fun g => ?_) (fun g => ?_)
      · replace h := h.1 g
        refine zf_ii (y := (v3 + 1)) (L2 := [some (.inr (.inr (1, 0))), some (.inr (.inr (1, 1))), some (.inl v2), some (.inl (v3 + 1)), some (.inr (.inr (1, (47 + 2 * (Int32.toInt v3).toNat))))]) (pc' := 97) dX7_restore_94 rfl rfl rfl rfl rfl ?_
        refine zf_goto (tgt := 52) dX7_restore_97 rfl ?_
        exact zf_lo (ih _ _ _ h) ⟨rfl, rfl, rfl, rfl, trivial⟩
      · replace h := h.2 g
        refine zf_ld (pc' := 71) (v := .inr (.inr (1, 0))) dX7_restore_70 rfl (fun _ _ _ => rfl) rfl rfl rfl ?_
        refine zf_gfr (pc' := 74) (b := 2) dX7_restore_71 rfl rfl (by decide) rfl rfl ?_
        refine zf_gfr (pc' := 77) (b := 3) dX7_restore_74 rfl rfl zf_walk2.1 zf_walk2.2.1 rfl ?_
        refine zf_ld (pc' := 79) (v := .inr (.inr (1, (47 + 2 * (Int32.toInt v3).toNat)))) dX7_restore_77 rfl (fun _ _ _ => rfl) rfl rfl rfl ?_
        refine zf_gfi (pc' := 82) dX7_restore_79 rfl rfl hx6.1 hx6.2.1 rfl ?_
        refine zf_iv (k := 65) (pc' := 85) (r := []) dX7_restore_82 rfl rfl rfl rfl zf_walk2.2.2.1.1 zf_walk2.2.2.1.2.1 rfl rfl (zr_65 (by omega) zf_walk2.2.2.1 h) (zf_kB (fun b9 m10 h => ?_))
        refine zf_ib_ne (tgt := 94) (pc' := 88) dX7_restore_85 rfl rfl (fun g => ?_) (fun g => ?_)
        · replace h := h.1 g
          refine zf_ii (y := (v3 + 1)) (L2 := [some (.inr (.inr (1, 0))), some (.inr (.inr (1, 1))), some (.inl v2), some (.inl (v3 + 1)), some (.inr (.inr (1, (47 + 2 * (Int32.toInt v3).toNat))))]) (pc' := 97) dX7_restore_94 rfl rfl rfl rfl rfl ?_
          refine zf_goto (tgt := 52) dX7_restore_97 rfl ?_
          exact zf_lo (ih _ _ _ h) ⟨rfl, rfl, rfl, rfl, trivial⟩
        · replace h := h.2 g
          refine zf_ld (pc' := 90) (v := .inr (.inr (1, (47 + 2 * (Int32.toInt v3).toNat)))) dX7_restore_88 rfl (fun _ _ _ => rfl) rfl rfl rfl ?_
          refine zf_ic (v := (-1)) (pc' := 91) dX7_restore_90 rfl rfl ?_
          refine zf_pf (pc' := 94) dX7_restore_91 rfl rfl hx6.1 hx6.2.1 rfl rfl (fun m11 e12 => ?_)
          replace h := h m11 e12
          refine zf_ii (y := (v3 + 1)) (L2 := [some (.inr (.inr (1, 0))), some (.inr (.inr (1, 1))), some (.inl v2), some (.inl (v3 + 1)), some (.inr (.inr (1, (47 + 2 * (Int32.toInt v3).toNat))))]) (pc' := 97) dX7_restore_94 rfl rfl rfl rfl rfl ?_
          refine zf_goto (tgt := 52) dX7_restore_97 rfl ?_
          exact zf_lo (ih _ _ _ h) ⟨rfl, rfl, rfl, rfl, trivial⟩
def wp_107 (m : zf_Me) (Q : Int32 → zf_Me → Prop) : Prop := ((¬ ((m.1 0 9)).toInt = 0 → wp_63 3 10 m (fun m2 => wp_43 2 3 8 9 10 15 m2 (fun m4 => (∃ n52, wq_107_52 Q n52 8 0 m4)))) ∧ (((m.1 0 9)).toInt = 0 → wp_109 6 m (fun x13 m14 => Q x13 m14)))
theorem zr_107 {d : Nat} (hd : 1 ≤ d) {Q : Int32 → zf_Me → Prop} {m : zf_Me} (h : wp_107 m Q) : zf_M d 107 [.inr (.inr (1, 0))] m (zf_I Q) := by
  obtain ⟨e, rfl⟩ : ∃ z, d = z + 1 := ⟨d - 1, by omega⟩
  unfold wp_107 at h
  refine zf_M_of (Nat.le_of_ble_eq_true rfl) zm_107 (L := [some (.inr (.inr (1, 0))), none, none, none, none]) rfl ?_
  refine zf_ld (pc' := 1) (v := .inr (.inr (1, 0))) dX7_restore_0 rfl (fun _ _ _ => rfl) rfl rfl rfl ?_
  refine zf_gfi (pc' := 4) dX7_restore_1 rfl rfl (by decide) rfl rfl ?_
  refine zf_if_ne (tgt := 14) (pc' := 7) dX7_restore_4 rfl rfl (fun g => ?_) (fun g => ?_)
  · replace h := h.1 g
    refine zf_ld (pc' := 15) (v := .inr (.inr (1, 0))) dX7_restore_14 rfl (fun _ _ _ => rfl) rfl rfl rfl ?_
    refine zf_gfr (pc' := 18) (b := 2) dX7_restore_15 rfl rfl (by decide) rfl rfl ?_
    refine zf_gfr (pc' := 21) (b := 3) dX7_restore_18 rfl rfl zf_walk2.1 zf_walk2.2.1 rfl ?_
    refine zf_ld (pc' := 22) (v := .inr (.inr (1, 0))) dX7_restore_21 rfl (fun _ _ _ => rfl) rfl rfl rfl ?_
    refine zf_gfr (pc' := 25) (b := 9) dX7_restore_22 rfl rfl (by decide) rfl rfl ?_
    refine zf_gfr (pc' := 28) (b := 10) dX7_restore_25 rfl rfl zf_walk9.1 zf_walk9.2.1 rfl ?_
    refine zf_iv (k := 63) (pc' := 31) (r := []) dX7_restore_28 rfl rfl rfl rfl zf_walk2.2.2.1.1 zf_walk2.2.2.1.2.1 rfl rfl (zr_63 (by omega) zf_walk2.2.2.1 zf_walk9.2.2.1 h) (zf_kO (fun m2 h => ?_))
    refine zf_ld (pc' := 32) (v := .inr (.inr (1, 0))) dX7_restore_31 rfl (fun _ _ _ => rfl) rfl rfl rfl ?_
    refine zf_gfr (pc' := 35) (b := 2) dX7_restore_32 rfl rfl (by decide) rfl rfl ?_
    refine zf_ld (pc' := 36) (v := .inr (.inr (1, 0))) dX7_restore_35 rfl (fun _ _ _ => rfl) rfl rfl rfl ?_
    refine zf_gfr (pc' := 39) (b := 9) dX7_restore_36 rfl rfl (by decide) rfl rfl ?_
    refine zf_iv (k := 43) (pc' := 42) (r := []) dX7_restore_39 rfl rfl rfl rfl zf_walk2.1 zf_walk2.2.1 rfl rfl (zr_43 (by omega) zf_walk2 zf_walk9 h) (zf_kO (fun m4 h => ?_))
    refine zf_ld (pc' := 43) (v := .inr (.inr (1, 0))) dX7_restore_42 rfl (fun _ _ _ => rfl) rfl rfl rfl ?_
    refine zf_gfr (pc' := 46) (b := 1) dX7_restore_43 rfl rfl (by decide) rfl rfl ?_
    refine zf_st (pc' := 47) (L2 := [some (.inr (.inr (1, 0))), some (.inr (.inr (1, 1))), none, none, none]) dX7_restore_46 rfl (fun _ _ _ => rfl) rfl rfl rfl rfl rfl rfl ?_
    refine zf_ld (pc' := 48) (v := .inr (.inr (1, 1))) dX7_restore_47 rfl (fun _ _ _ => rfl) rfl rfl rfl ?_
    refine zf_ar (n := 0) (v := 8) (pc' := 49) dX7_restore_48 rfl (by decide) rfl (by decide) rfl ?_
    refine zf_st (pc' := 50) (L2 := [some (.inr (.inr (1, 0))), some (.inr (.inr (1, 1))), some (.inl 8), none, none]) dX7_restore_49 rfl (fun _ _ _ => rfl) rfl rfl rfl rfl rfl rfl ?_
    refine zf_ic (v := 0) (pc' := 51) dX7_restore_50 rfl rfl ?_
    refine zf_st (pc' := 52) (L2 := [some (.inr (.inr (1, 0))), some (.inr (.inr (1, 1))), some (.inl 8), some (.inl 0), none]) dX7_restore_51 rfl (fun _ _ _ => rfl) rfl rfl rfl rfl rfl rfl ?_
    obtain ⟨n52, h⟩ := h
    exact zf_lo (zq_107_52 (by omega) n52 _ _ _ h) ⟨rfl, rfl, rfl, rfl, trivial⟩
  · replace h := h.2 g
    refine zf_ld (pc' := 8) (v := .inr (.inr (1, 0))) dX7_restore_7 rfl (fun _ _ _ => rfl) rfl rfl rfl ?_
    refine zf_bi (v := 6) (pc' := 10) dX7_restore_8 rfl rfl ?_
    refine zf_iv (k := 109) (pc' := 13) (r := []) dX7_restore_10 rfl rfl rfl rfl (by decide) rfl rfl rfl (zr_109 (by omega) h) (zf_kI (fun x13 m14 h => ?_))
    exact zf_ri dX7_restore_13 rfl h
def zt_108 : zx_MT := (7, yX7_status, cX7_status, 2, (some FieldType.int), 1, 0)
theorem zm_108 : zx_m 108 = zt_108 := rfl
theorem dX7_status_r0 : zdcP cX7_status 0 [(.iload_n 1, 1), (.bipush 6, 2), (.if_icmp .lt 21, 3), (.iload_n 1, 1), (.bipush 11, 2), (.if_icmp .ge 15, 3), (.aload_n 0, 1), (.getfield 23, 3), (.iload_n 1, 1), (.bipush 6, 2), (.isub, 1), (.invokevirtual 183, 3), (.ireturn, 1), (.iload_n 1, 1), (.bipush 11, 2), (.if_icmp .lt 19, 3)] := zdcA_ok (by decide +kernel)
theorem dX7_status_0 : decode cX7_status 0 = .ok (.iload_n 1, 1) := dX7_status_r0.1
theorem dX7_status_1 : decode cX7_status 1 = .ok (.bipush 6, 2) := dX7_status_r0.2.1
theorem dX7_status_3 : decode cX7_status 3 = .ok (.if_icmp .lt 21, 3) := dX7_status_r0.2.2.1
theorem dX7_status_6 : decode cX7_status 6 = .ok (.iload_n 1, 1) := dX7_status_r0.2.2.2.1
theorem dX7_status_7 : decode cX7_status 7 = .ok (.bipush 11, 2) := dX7_status_r0.2.2.2.2.1
theorem dX7_status_9 : decode cX7_status 9 = .ok (.if_icmp .ge 15, 3) := dX7_status_r0.2.2.2.2.2.1
theorem dX7_status_12 : decode cX7_status 12 = .ok (.aload_n 0, 1) := dX7_status_r0.2.2.2.2.2.2.1
theorem dX7_status_13 : decode cX7_status 13 = .ok (.getfield 23, 3) := dX7_status_r0.2.2.2.2.2.2.2.1
theorem dX7_status_16 : decode cX7_status 16 = .ok (.iload_n 1, 1) := dX7_status_r0.2.2.2.2.2.2.2.2.1
theorem dX7_status_17 : decode cX7_status 17 = .ok (.bipush 6, 2) := dX7_status_r0.2.2.2.2.2.2.2.2.2.1
theorem dX7_status_19 : decode cX7_status 19 = .ok (.isub, 1) := dX7_status_r0.2.2.2.2.2.2.2.2.2.2.1
theorem dX7_status_20 : decode cX7_status 20 = .ok (.invokevirtual 183, 3) := dX7_status_r0.2.2.2.2.2.2.2.2.2.2.2.1
theorem dX7_status_23 : decode cX7_status 23 = .ok (.ireturn, 1) := dX7_status_r0.2.2.2.2.2.2.2.2.2.2.2.2.1
theorem dX7_status_24 : decode cX7_status 24 = .ok (.iload_n 1, 1) := dX7_status_r0.2.2.2.2.2.2.2.2.2.2.2.2.2.1
theorem dX7_status_25 : decode cX7_status 25 = .ok (.bipush 11, 2) := dX7_status_r0.2.2.2.2.2.2.2.2.2.2.2.2.2.2.1
theorem dX7_status_27 : decode cX7_status 27 = .ok (.if_icmp .lt 19, 3) := dX7_status_r0.2.2.2.2.2.2.2.2.2.2.2.2.2.2.2.1
theorem dX7_status_r30 : zdcP cX7_status 30 [(.iload_n 1, 1), (.bipush 18, 2), (.if_icmp .ge 13, 3), (.aload_n 0, 1), (.getfield 65, 3), (.iload_n 1, 1), (.bipush 10, 2), (.isub, 1), (.iaload, 1), (.ireturn, 1), (.iload_n 1, 1)] := zdcA_ok (by decide +kernel)
theorem dX7_status_30 : decode cX7_status 30 = .ok (.iload_n 1, 1) := dX7_status_r30.1
theorem dX7_status_31 : decode cX7_status 31 = .ok (.bipush 18, 2) := dX7_status_r30.2.1
theorem dX7_status_33 : decode cX7_status 33 = .ok (.if_icmp .ge 13, 3) := dX7_status_r30.2.2.1
theorem dX7_status_36 : decode cX7_status 36 = .ok (.aload_n 0, 1) := dX7_status_r30.2.2.2.1
theorem dX7_status_37 : decode cX7_status 37 = .ok (.getfield 65, 3) := dX7_status_r30.2.2.2.2.1
theorem dX7_status_40 : decode cX7_status 40 = .ok (.iload_n 1, 1) := dX7_status_r30.2.2.2.2.2.1
theorem dX7_status_41 : decode cX7_status 41 = .ok (.bipush 10, 2) := dX7_status_r30.2.2.2.2.2.2.1
theorem dX7_status_43 : decode cX7_status 43 = .ok (.isub, 1) := dX7_status_r30.2.2.2.2.2.2.2.1
theorem dX7_status_44 : decode cX7_status 44 = .ok (.iaload, 1) := dX7_status_r30.2.2.2.2.2.2.2.2.1
theorem dX7_status_45 : decode cX7_status 45 = .ok (.ireturn, 1) := dX7_status_r30.2.2.2.2.2.2.2.2.2.1
theorem dX7_status_46 : decode cX7_status 46 = .ok (.iload_n 1, 1) := dX7_status_r30.2.2.2.2.2.2.2.2.2.2.1
theorem dX7_status_47 : decode cX7_status 47 = .ok (.tableswitch 183 0 20 #[97, 108, 119, 127, 135, 143, 183, 183, 183, 183, 183, 183, 183, 183, 183, 183, 183, 183, 151, 159, 167], 97) := by decide +kernel
theorem dX7_status_r144 : zdcP cX7_status 144 [(.aload_n 0, 1), (.getfield 23, 3), (.getfield 30, 3), (.getfield 153, 3), (.ireturn, 1), (.aload_n 0, 1), (.getfield 23, 3), (.getfield 30, 3), (.getfield 146, 3), (.ireturn, 1), (.aload_n 0, 1), (.getfield 23, 3), (.getfield 221, 3), (.ireturn, 1), (.aload_n 0, 1), (.getfield 23, 3)] := zdcA_ok (by decide +kernel)
theorem dX7_status_144 : decode cX7_status 144 = .ok (.aload_n 0, 1) := dX7_status_r144.1
theorem dX7_status_145 : decode cX7_status 145 = .ok (.getfield 23, 3) := dX7_status_r144.2.1
theorem dX7_status_148 : decode cX7_status 148 = .ok (.getfield 30, 3) := dX7_status_r144.2.2.1
theorem dX7_status_151 : decode cX7_status 151 = .ok (.getfield 153, 3) := dX7_status_r144.2.2.2.1
theorem dX7_status_154 : decode cX7_status 154 = .ok (.ireturn, 1) := dX7_status_r144.2.2.2.2.1
theorem dX7_status_155 : decode cX7_status 155 = .ok (.aload_n 0, 1) := dX7_status_r144.2.2.2.2.2.1
theorem dX7_status_156 : decode cX7_status 156 = .ok (.getfield 23, 3) := dX7_status_r144.2.2.2.2.2.2.1
theorem dX7_status_159 : decode cX7_status 159 = .ok (.getfield 30, 3) := dX7_status_r144.2.2.2.2.2.2.2.1
theorem dX7_status_162 : decode cX7_status 162 = .ok (.getfield 146, 3) := dX7_status_r144.2.2.2.2.2.2.2.2.1
theorem dX7_status_165 : decode cX7_status 165 = .ok (.ireturn, 1) := dX7_status_r144.2.2.2.2.2.2.2.2.2.1
theorem dX7_status_166 : decode cX7_status 166 = .ok (.aload_n 0, 1) := dX7_status_r144.2.2.2.2.2.2.2.2.2.2.1
theorem dX7_status_167 : decode cX7_status 167 = .ok (.getfield 23, 3) := dX7_status_r144.2.2.2.2.2.2.2.2.2.2.2.1
theorem dX7_status_170 : decode cX7_status 170 = .ok (.getfield 221, 3) := dX7_status_r144.2.2.2.2.2.2.2.2.2.2.2.2.1
theorem dX7_status_173 : decode cX7_status 173 = .ok (.ireturn, 1) := dX7_status_r144.2.2.2.2.2.2.2.2.2.2.2.2.2.1
theorem dX7_status_174 : decode cX7_status 174 = .ok (.aload_n 0, 1) := dX7_status_r144.2.2.2.2.2.2.2.2.2.2.2.2.2.2.1
theorem dX7_status_175 : decode cX7_status 175 = .ok (.getfield 23, 3) := dX7_status_r144.2.2.2.2.2.2.2.2.2.2.2.2.2.2.2.1
theorem dX7_status_r178 : zdcP cX7_status 178 [(.getfield 230, 3), (.ireturn, 1), (.aload_n 0, 1), (.getfield 23, 3), (.getfield 277, 3), (.ireturn, 1), (.aload_n 0, 1), (.getfield 23, 3), (.getfield 304, 3), (.ireturn, 1), (.aload_n 0, 1), (.getfield 23, 3), (.getfield 310, 3), (.ireturn, 1), (.aload_n 0, 1), (.getfield 61, 3)] := zdcA_ok (by decide +kernel)
theorem dX7_status_178 : decode cX7_status 178 = .ok (.getfield 230, 3) := dX7_status_r178.1
theorem dX7_status_181 : decode cX7_status 181 = .ok (.ireturn, 1) := dX7_status_r178.2.1
theorem dX7_status_182 : decode cX7_status 182 = .ok (.aload_n 0, 1) := dX7_status_r178.2.2.1
theorem dX7_status_183 : decode cX7_status 183 = .ok (.getfield 23, 3) := dX7_status_r178.2.2.2.1
theorem dX7_status_186 : decode cX7_status 186 = .ok (.getfield 277, 3) := dX7_status_r178.2.2.2.2.1
theorem dX7_status_189 : decode cX7_status 189 = .ok (.ireturn, 1) := dX7_status_r178.2.2.2.2.2.1
theorem dX7_status_190 : decode cX7_status 190 = .ok (.aload_n 0, 1) := dX7_status_r178.2.2.2.2.2.2.1
theorem dX7_status_191 : decode cX7_status 191 = .ok (.getfield 23, 3) := dX7_status_r178.2.2.2.2.2.2.2.1
theorem dX7_status_194 : decode cX7_status 194 = .ok (.getfield 304, 3) := dX7_status_r178.2.2.2.2.2.2.2.2.1
theorem dX7_status_197 : decode cX7_status 197 = .ok (.ireturn, 1) := dX7_status_r178.2.2.2.2.2.2.2.2.2.1
theorem dX7_status_198 : decode cX7_status 198 = .ok (.aload_n 0, 1) := dX7_status_r178.2.2.2.2.2.2.2.2.2.2.1
theorem dX7_status_199 : decode cX7_status 199 = .ok (.getfield 23, 3) := dX7_status_r178.2.2.2.2.2.2.2.2.2.2.2.1
theorem dX7_status_202 : decode cX7_status 202 = .ok (.getfield 310, 3) := dX7_status_r178.2.2.2.2.2.2.2.2.2.2.2.2.1
theorem dX7_status_205 : decode cX7_status 205 = .ok (.ireturn, 1) := dX7_status_r178.2.2.2.2.2.2.2.2.2.2.2.2.2.1
theorem dX7_status_206 : decode cX7_status 206 = .ok (.aload_n 0, 1) := dX7_status_r178.2.2.2.2.2.2.2.2.2.2.2.2.2.2.1
theorem dX7_status_207 : decode cX7_status 207 = .ok (.getfield 61, 3) := dX7_status_r178.2.2.2.2.2.2.2.2.2.2.2.2.2.2.2.1
theorem dX7_status_r210 : zdcP cX7_status 210 [(.getfield 326, 3), (.ireturn, 1), (.aload_n 0, 1), (.getfield 23, 3), (.invokevirtual 136, 3), (.ifCond .eq 7, 3), (.iconst 1, 1), (.goto 4, 3), (.iconst 0, 1), (.ireturn, 1), (.iconst (-1), 1), (.ireturn, 1)] := zdcA_ok (by decide +kernel)
theorem dX7_status_210 : decode cX7_status 210 = .ok (.getfield 326, 3) := dX7_status_r210.1
theorem dX7_status_213 : decode cX7_status 213 = .ok (.ireturn, 1) := dX7_status_r210.2.1
theorem dX7_status_214 : decode cX7_status 214 = .ok (.aload_n 0, 1) := dX7_status_r210.2.2.1
theorem dX7_status_215 : decode cX7_status 215 = .ok (.getfield 23, 3) := dX7_status_r210.2.2.2.1
theorem dX7_status_218 : decode cX7_status 218 = .ok (.invokevirtual 136, 3) := dX7_status_r210.2.2.2.2.1
theorem dX7_status_221 : decode cX7_status 221 = .ok (.ifCond .eq 7, 3) := dX7_status_r210.2.2.2.2.2.1
theorem dX7_status_224 : decode cX7_status 224 = .ok (.iconst 1, 1) := dX7_status_r210.2.2.2.2.2.2.1
theorem dX7_status_225 : decode cX7_status 225 = .ok (.goto 4, 3) := dX7_status_r210.2.2.2.2.2.2.2.1
theorem dX7_status_228 : decode cX7_status 228 = .ok (.iconst 0, 1) := dX7_status_r210.2.2.2.2.2.2.2.2.1
theorem dX7_status_229 : decode cX7_status 229 = .ok (.ireturn, 1) := dX7_status_r210.2.2.2.2.2.2.2.2.2.1
theorem dX7_status_230 : decode cX7_status 230 = .ok (.iconst (-1), 1) := dX7_status_r210.2.2.2.2.2.2.2.2.2.2.1
theorem dX7_status_231 : decode cX7_status 231 = .ok (.ireturn, 1) := dX7_status_r210.2.2.2.2.2.2.2.2.2.2.2.1
def wq_108_46 (v1 : Int32) (m : zf_Me) (Q : Int32 → zf_Me → Prop) : Prop := (((v1.toInt < 0 ∨ v1.toInt > 20) → Q (-1) m) ∧ (v1.toInt = 0 → Q (m.1 3 5) m) ∧ (v1.toInt = 1 → Q (m.1 3 4) m) ∧ (v1.toInt = 2 → Q (m.1 2 10) m) ∧ (v1.toInt = 3 → Q (m.1 2 11) m) ∧ (v1.toInt = 4 → Q (m.1 2 4) m) ∧ (v1.toInt = 5 → Q (m.1 2 6) m) ∧ (v1.toInt = 6 → Q (-1) m) ∧ (v1.toInt = 7 → Q (-1) m) ∧ (v1.toInt = 8 → Q (-1) m) ∧ (v1.toInt = 9 → Q (-1) m) ∧ (v1.toInt = 10 → Q (-1) m) ∧ (v1.toInt = 11 → Q (-1) m) ∧ (v1.toInt = 12 → Q (-1) m) ∧ (v1.toInt = 13 → Q (-1) m) ∧ (v1.toInt = 14 → Q (-1) m) ∧ (v1.toInt = 15 → Q (-1) m) ∧ (v1.toInt = 16 → Q (-1) m) ∧ (v1.toInt = 17 → Q (-1) m) ∧ (v1.toInt = 18 → Q (m.1 2 12) m) ∧ (v1.toInt = 19 → Q (m.1 44 1) m) ∧ (v1.toInt = 20 → wp_48 2 3 8 m (fun b1 m2 => ((b1 = false → Q 0 m2) ∧ (b1 = true → Q 1 m2)))))
theorem zq_108_46 {d : Nat} (hd : 1 ≤ d) {v1 : Int32} {Q : Int32 → zf_Me → Prop} {m : zf_Me} (h : wq_108_46 v1 m Q) : zf_W none 0 0 d zt_108 46 [some (.inr (.inr (1, 0))), some (.inl v1)] [] m (zf_I Q) := by
  obtain ⟨e, rfl⟩ : ∃ z, d = z + 1 := ⟨d - 1, by omega⟩
  unfold wq_108_46 at h
  refine zf_ld (pc' := 47) (v := .inl v1) dX7_status_46 rfl (fun _ _ _ => rfl) rfl rfl rfl ?_
  refine zf_tsc (tgd := 230) dX7_status_47 rfl [144, 155, 166, 174, 182, 190, 230, 230, 230, 230, 230, 230, 230, 230, 230, 230, 230, 230, 198, 206, 214] (by decide) (by decide) (fun g => ?_) (zl_cons (fun g => ?_) (zl_cons (fun g => ?_) (zl_cons (fun g => ?_) (zl_cons (fun g => ?_) (zl_cons (fun g => ?_) (zl_cons (fun g => ?_) (zl_cons (fun g => ?_) (zl_cons (fun g => ?_) (zl_cons (fun g => ?_) (zl_cons (fun g => ?_) (zl_cons (fun g => ?_) (zl_cons (fun g => ?_) (zl_cons (fun g => ?_) (zl_cons (fun g => ?_) (zl_cons (fun g => ?_) (zl_cons (fun g => ?_) (zl_cons (fun g => ?_) (zl_cons (fun g => ?_) (zl_cons (fun g => ?_) (zl_cons (fun g => ?_) (zl_cons (fun g => ?_) (zl_nil))))))))))))))))))))))
  · replace h := h.1 (by omega)
    refine zf_ic (v := (-1)) (pc' := 231) dX7_status_230 rfl rfl ?_
    exact zf_ri dX7_status_231 rfl h
  · replace h := h.2.1 (by omega)
    refine zf_ld (pc' := 145) (v := .inr (.inr (1, 0))) dX7_status_144 rfl (fun _ _ _ => rfl) rfl rfl rfl ?_
    refine zf_gfr (pc' := 148) (b := 2) dX7_status_145 rfl rfl (by decide) rfl rfl ?_
    refine zf_gfr (pc' := 151) (b := 3) dX7_status_148 rfl rfl zf_walk2.1 zf_walk2.2.1 rfl ?_
    refine zf_gfi (pc' := 154) dX7_status_151 rfl rfl zf_walk2.2.2.1.1 zf_walk2.2.2.1.2.1 rfl ?_
    exact zf_ri dX7_status_154 rfl h
  · replace h := h.2.2.1 (by omega)
    refine zf_ld (pc' := 156) (v := .inr (.inr (1, 0))) dX7_status_155 rfl (fun _ _ _ => rfl) rfl rfl rfl ?_
    refine zf_gfr (pc' := 159) (b := 2) dX7_status_156 rfl rfl (by decide) rfl rfl ?_
    refine zf_gfr (pc' := 162) (b := 3) dX7_status_159 rfl rfl zf_walk2.1 zf_walk2.2.1 rfl ?_
    refine zf_gfi (pc' := 165) dX7_status_162 rfl rfl zf_walk2.2.2.1.1 zf_walk2.2.2.1.2.1 rfl ?_
    exact zf_ri dX7_status_165 rfl h
  · replace h := h.2.2.2.1 (by omega)
    refine zf_ld (pc' := 167) (v := .inr (.inr (1, 0))) dX7_status_166 rfl (fun _ _ _ => rfl) rfl rfl rfl ?_
    refine zf_gfr (pc' := 170) (b := 2) dX7_status_167 rfl rfl (by decide) rfl rfl ?_
    refine zf_gfi (pc' := 173) dX7_status_170 rfl rfl zf_walk2.1 zf_walk2.2.1 rfl ?_
    exact zf_ri dX7_status_173 rfl h
  · replace h := h.2.2.2.2.1 (by omega)
    refine zf_ld (pc' := 175) (v := .inr (.inr (1, 0))) dX7_status_174 rfl (fun _ _ _ => rfl) rfl rfl rfl ?_
    refine zf_gfr (pc' := 178) (b := 2) dX7_status_175 rfl rfl (by decide) rfl rfl ?_
    refine zf_gfi (pc' := 181) dX7_status_178 rfl rfl zf_walk2.1 zf_walk2.2.1 rfl ?_
    exact zf_ri dX7_status_181 rfl h
  · replace h := h.2.2.2.2.2.1 (by omega)
    refine zf_ld (pc' := 183) (v := .inr (.inr (1, 0))) dX7_status_182 rfl (fun _ _ _ => rfl) rfl rfl rfl ?_
    refine zf_gfr (pc' := 186) (b := 2) dX7_status_183 rfl rfl (by decide) rfl rfl ?_
    refine zf_gfi (pc' := 189) dX7_status_186 rfl rfl zf_walk2.1 zf_walk2.2.1 rfl ?_
    exact zf_ri dX7_status_189 rfl h
  · replace h := h.2.2.2.2.2.2.1 (by omega)
    refine zf_ld (pc' := 191) (v := .inr (.inr (1, 0))) dX7_status_190 rfl (fun _ _ _ => rfl) rfl rfl rfl ?_
    refine zf_gfr (pc' := 194) (b := 2) dX7_status_191 rfl rfl (by decide) rfl rfl ?_
    refine zf_gfi (pc' := 197) dX7_status_194 rfl rfl zf_walk2.1 zf_walk2.2.1 rfl ?_
    exact zf_ri dX7_status_197 rfl h
  · replace h := h.2.2.2.2.2.2.2.1 (by omega)
    refine zf_ic (v := (-1)) (pc' := 231) dX7_status_230 rfl rfl ?_
    exact zf_ri dX7_status_231 rfl h
  · replace h := h.2.2.2.2.2.2.2.2.1 (by omega)
    refine zf_ic (v := (-1)) (pc' := 231) dX7_status_230 rfl rfl ?_
    exact zf_ri dX7_status_231 rfl h
  · replace h := h.2.2.2.2.2.2.2.2.2.1 (by omega)
    refine zf_ic (v := (-1)) (pc' := 231) dX7_status_230 rfl rfl ?_
    exact zf_ri dX7_status_231 rfl h
  · replace h := h.2.2.2.2.2.2.2.2.2.2.1 (by omega)
    refine zf_ic (v := (-1)) (pc' := 231) dX7_status_230 rfl rfl ?_
    exact zf_ri dX7_status_231 rfl h
  · replace h := h.2.2.2.2.2.2.2.2.2.2.2.1 (by omega)
    refine zf_ic (v := (-1)) (pc' := 231) dX7_status_230 rfl rfl ?_
    exact zf_ri dX7_status_231 rfl h
  · replace h := h.2.2.2.2.2.2.2.2.2.2.2.2.1 (by omega)
    refine zf_ic (v := (-1)) (pc' := 231) dX7_status_230 rfl rfl ?_
    exact zf_ri dX7_status_231 rfl h
  · replace h := h.2.2.2.2.2.2.2.2.2.2.2.2.2.1 (by omega)
    refine zf_ic (v := (-1)) (pc' := 231) dX7_status_230 rfl rfl ?_
    exact zf_ri dX7_status_231 rfl h
  · replace h := h.2.2.2.2.2.2.2.2.2.2.2.2.2.2.1 (by omega)
    refine zf_ic (v := (-1)) (pc' := 231) dX7_status_230 rfl rfl ?_
    exact zf_ri dX7_status_231 rfl h
  · replace h := h.2.2.2.2.2.2.2.2.2.2.2.2.2.2.2.1 (by omega)
    refine zf_ic (v := (-1)) (pc' := 231) dX7_status_230 rfl rfl ?_
    exact zf_ri dX7_status_231 rfl h
  · replace h := h.2.2.2.2.2.2.2.2.2.2.2.2.2.2.2.2.1 (by omega)
    refine zf_ic (v := (-1)) (pc' := 231) dX7_status_230 rfl rfl ?_
    exact zf_ri dX7_status_231 rfl h
  · replace h := h.2.2.2.2.2.2.2.2.2.2.2.2.2.2.2.2.2.1 (by omega)
    refine zf_ic (v := (-1)) (pc' := 231) dX7_status_230 rfl rfl ?_
    exact zf_ri dX7_status_231 rfl h
  · replace h := h.2.2.2.2.2.2.2.2.2.2.2.2.2.2.2.2.2.2.1 (by omega)
    refine zf_ic (v := (-1)) (pc' := 231) dX7_status_230 rfl rfl ?_
    exact zf_ri dX7_status_231 rfl h
  · replace h := h.2.2.2.2.2.2.2.2.2.2.2.2.2.2.2.2.2.2.2.1 (by omega)
    refine zf_ld (pc' := 199) (v := .inr (.inr (1, 0))) dX7_status_198 rfl (fun _ _ _ => rfl) rfl rfl rfl ?_
    refine zf_gfr (pc' := 202) (b := 2) dX7_status_199 rfl rfl (by decide) rfl rfl ?_
    refine zf_gfi (pc' := 205) dX7_status_202 rfl rfl zf_walk2.1 zf_walk2.2.1 rfl ?_
    exact zf_ri dX7_status_205 rfl h
  · replace h := h.2.2.2.2.2.2.2.2.2.2.2.2.2.2.2.2.2.2.2.2.1 (by omega)
    refine zf_ld (pc' := 207) (v := .inr (.inr (1, 0))) dX7_status_206 rfl (fun _ _ _ => rfl) rfl rfl rfl ?_
    refine zf_gfr (pc' := 210) (b := 44) dX7_status_207 rfl rfl (by decide) rfl rfl ?_
    refine zf_gfi (pc' := 213) dX7_status_210 rfl rfl (by decide) rfl rfl ?_
    exact zf_ri dX7_status_213 rfl h
  · replace h := h.2.2.2.2.2.2.2.2.2.2.2.2.2.2.2.2.2.2.2.2.2 (by omega)
    refine zf_ld (pc' := 215) (v := .inr (.inr (1, 0))) dX7_status_214 rfl (fun _ _ _ => rfl) rfl rfl rfl ?_
    refine zf_gfr (pc' := 218) (b := 2) dX7_status_215 rfl rfl (by decide) rfl rfl ?_
    refine zf_iv (k := 48) (pc' := 221) (r := []) dX7_status_218 rfl rfl rfl rfl zf_walk2.1 zf_walk2.2.1 rfl rfl (zr_48 (by omega) zf_walk2 h) (zf_kB (fun b1 m2 h => ?_))
    refine zf_ib_eq (tgt := 228) (pc' := 224) dX7_status_221 rfl rfl (fun g => ?_) (fun g => ?_)
    · replace h := h.1 g
      refine zf_ic (v := 0) (pc' := 229) dX7_status_228 rfl rfl ?_
      exact zf_ri dX7_status_229 rfl h
    · replace h := h.2 g
      refine zf_ic (v := 1) (pc' := 225) dX7_status_224 rfl rfl ?_
      refine zf_goto (tgt := 229) dX7_status_225 rfl ?_
      exact zf_ri dX7_status_229 rfl h
def wq_108_24 (v1 : Int32) (m : zf_Me) (Q : Int32 → zf_Me → Prop) : Prop := ((v1.toInt < 11 → wq_108_46 v1 m Q) ∧ (v1.toInt ≥ 11 → ((v1.toInt ≥ 18 → wq_108_46 v1 m Q) ∧ (v1.toInt < 18 → ((0 ≤ (Int32.toInt (v1 - 10)) ∧ (Int32.toInt (v1 - 10)) < (8 : Int)) ∧ Q (m.1 46 (Int32.toInt (v1 - 10)).toNat) m)))))
theorem zq_108_24 {d : Nat} (hd : 1 ≤ d) {v1 : Int32} {Q : Int32 → zf_Me → Prop} {m : zf_Me} (h : wq_108_24 v1 m Q) : zf_W none 0 0 d zt_108 24 [some (.inr (.inr (1, 0))), some (.inl v1)] [] m (zf_I Q) := by
  unfold wq_108_24 at h
  refine zf_ld (pc' := 25) (v := .inl v1) dX7_status_24 rfl (fun _ _ _ => rfl) rfl rfl rfl ?_
  refine zf_bi (v := 11) (pc' := 27) dX7_status_25 rfl rfl ?_
  refine zf_icmp_lt (tgt := 46) (pc' := 30) dX7_status_27 rfl rfl (fun g => ?_) (fun g => ?_)
  · replace h := h.1 g
    exact zf_lo (zq_108_46 (by omega) h) ⟨rfl, rfl, trivial⟩
  · replace h := h.2 g
    refine zf_ld (pc' := 31) (v := .inl v1) dX7_status_30 rfl (fun _ _ _ => rfl) rfl rfl rfl ?_
    refine zf_bi (v := 18) (pc' := 33) dX7_status_31 rfl rfl ?_
    refine zf_icmp_ge (tgt := 46) (pc' := 36) dX7_status_33 rfl rfl (fun g => ?_) (fun g => ?_)
    · replace h := h.1 g
      exact zf_lo (zq_108_46 (by omega) h) ⟨rfl, rfl, trivial⟩
    · replace h := h.2 g
      refine zf_ld (pc' := 37) (v := .inr (.inr (1, 0))) dX7_status_36 rfl (fun _ _ _ => rfl) rfl rfl rfl ?_
      refine zf_gfr (pc' := 40) (b := 46) dX7_status_37 rfl rfl (by decide) rfl rfl ?_
      refine zf_ld (pc' := 41) (v := .inl v1) dX7_status_40 rfl (fun _ _ _ => rfl) rfl rfl rfl ?_
      refine zf_bi (v := 10) (pc' := 43) dX7_status_41 rfl rfl ?_
      refine zf_in (pc' := 44) (S' := [.inl (v1 - 10), .inr (.inr (1, 46))]) dX7_status_43 rfl (fun _ _ _ => rfl) ?_
      refine zf_ial (pc' := 45) dX7_status_44 rfl (⟨by decide, rfl⟩ : zf_arr 46 8).1 (⟨by decide, rfl⟩ : zf_arr 46 8).2 h.1 rfl ?_
      replace h := h.2
      exact zf_ri dX7_status_45 rfl h
def wp_108 (v1 : Int32) (m : zf_Me) (Q : Int32 → zf_Me → Prop) : Prop := ((v1.toInt < 6 → wq_108_24 v1 m Q) ∧ (v1.toInt ≥ 6 → ((v1.toInt ≥ 11 → wq_108_24 v1 m Q) ∧ (v1.toInt < 11 → wp_45 2 3 8 (v1 - 6) m (fun x3 m4 => Q x3 m4)))))
theorem zr_108 {d : Nat} (hd : 1 ≤ d) {v1 : Int32} {Q : Int32 → zf_Me → Prop} {m : zf_Me} (h : wp_108 v1 m Q) : zf_M d 108 [.inr (.inr (1, 0)), .inl v1] m (zf_I Q) := by
  obtain ⟨e, rfl⟩ : ∃ z, d = z + 1 := ⟨d - 1, by omega⟩
  unfold wp_108 at h
  refine zf_M_of (Nat.le_of_ble_eq_true rfl) zm_108 (L := [some (.inr (.inr (1, 0))), some (.inl v1)]) rfl ?_
  refine zf_ld (pc' := 1) (v := .inl v1) dX7_status_0 rfl (fun _ _ _ => rfl) rfl rfl rfl ?_
  refine zf_bi (v := 6) (pc' := 3) dX7_status_1 rfl rfl ?_
  refine zf_icmp_lt (tgt := 24) (pc' := 6) dX7_status_3 rfl rfl (fun g => ?_) (fun g => ?_)
  · replace h := h.1 g
    exact zf_lo (zq_108_24 (by omega) h) ⟨rfl, rfl, trivial⟩
  · replace h := h.2 g
    refine zf_ld (pc' := 7) (v := .inl v1) dX7_status_6 rfl (fun _ _ _ => rfl) rfl rfl rfl ?_
    refine zf_bi (v := 11) (pc' := 9) dX7_status_7 rfl rfl ?_
    refine zf_icmp_ge (tgt := 24) (pc' := 12) dX7_status_9 rfl rfl (fun g => ?_) (fun g => ?_)
    · replace h := h.1 g
      exact zf_lo (zq_108_24 (by omega) h) ⟨rfl, rfl, trivial⟩
    · replace h := h.2 g
      refine zf_ld (pc' := 13) (v := .inr (.inr (1, 0))) dX7_status_12 rfl (fun _ _ _ => rfl) rfl rfl rfl ?_
      refine zf_gfr (pc' := 16) (b := 2) dX7_status_13 rfl rfl (by decide) rfl rfl ?_
      refine zf_ld (pc' := 17) (v := .inl v1) dX7_status_16 rfl (fun _ _ _ => rfl) rfl rfl rfl ?_
      refine zf_bi (v := 6) (pc' := 19) dX7_status_17 rfl rfl ?_
      refine zf_in (pc' := 20) (S' := [.inl (v1 - 6), .inr (.inr (1, 2))]) dX7_status_19 rfl (fun _ _ _ => rfl) ?_
      refine zf_iv (k := 45) (pc' := 23) (r := []) dX7_status_20 rfl rfl rfl rfl zf_walk2.1 zf_walk2.2.1 rfl rfl (zr_45 (by omega) zf_walk2 h) (zf_kI (fun x3 m4 h => ?_))
      exact zf_ri dX7_status_23 rfl h
def zt_125 : zx_MT := (8, yX8_no, cX8_no, 2, (some FieldType.int), 1, 0)
theorem zm_125 : zx_m 125 = zt_125 := rfl
theorem dX8_no_r0 : zdcP cX8_no 0 [(.aload_n 0, 1), (.getfield 37, 3), (.iload_n 1, 1), (.ineg, 1), (.dup2, 1), (.iaload, 1), (.iconst 1, 1), (.iadd, 1), (.iastore, 1), (.iload_n 1, 1), (.ireturn, 1)] := zdcA_ok (by decide +kernel)
theorem dX8_no_0 : decode cX8_no 0 = .ok (.aload_n 0, 1) := dX8_no_r0.1
theorem dX8_no_1 : decode cX8_no 1 = .ok (.getfield 37, 3) := dX8_no_r0.2.1
theorem dX8_no_4 : decode cX8_no 4 = .ok (.iload_n 1, 1) := dX8_no_r0.2.2.1
theorem dX8_no_5 : decode cX8_no 5 = .ok (.ineg, 1) := dX8_no_r0.2.2.2.1
theorem dX8_no_6 : decode cX8_no 6 = .ok (.dup2, 1) := dX8_no_r0.2.2.2.2.1
theorem dX8_no_7 : decode cX8_no 7 = .ok (.iaload, 1) := dX8_no_r0.2.2.2.2.2.1
theorem dX8_no_8 : decode cX8_no 8 = .ok (.iconst 1, 1) := dX8_no_r0.2.2.2.2.2.2.1
theorem dX8_no_9 : decode cX8_no 9 = .ok (.iadd, 1) := dX8_no_r0.2.2.2.2.2.2.2.1
theorem dX8_no_10 : decode cX8_no 10 = .ok (.iastore, 1) := dX8_no_r0.2.2.2.2.2.2.2.2.1
theorem dX8_no_11 : decode cX8_no 11 = .ok (.iload_n 1, 1) := dX8_no_r0.2.2.2.2.2.2.2.2.2.1
theorem dX8_no_12 : decode cX8_no 12 = .ok (.ireturn, 1) := dX8_no_r0.2.2.2.2.2.2.2.2.2.2.1
def wp_125 (v1 : Int32) (m : zf_Me) (Q : Int32 → zf_Me → Prop) : Prop := ((0 ≤ (Int32.toInt (-v1)) ∧ (Int32.toInt (-v1)) < (8 : Int)) ∧ ((0 ≤ (Int32.toInt (-v1)) ∧ (Int32.toInt (-v1)) < (8 : Int)) ∧ ∀ m1, m1 = zf_u m 64 (Int32.toInt (-v1)).toNat ((m.1 64 (Int32.toInt (-v1)).toNat) + 1) → Q v1 m1))
theorem zr_125 {d : Nat} (hd : 0 ≤ d) {v1 : Int32} {Q : Int32 → zf_Me → Prop} {m : zf_Me} (h : wp_125 v1 m Q) : zf_M d 125 [.inr (.inr (1, 63)), .inl v1] m (zf_I Q) := by
  unfold wp_125 at h
  refine zf_M_of (Nat.le_of_ble_eq_true rfl) zm_125 (L := [some (.inr (.inr (1, 63))), some (.inl v1)]) rfl ?_
  refine zf_ld (pc' := 1) (v := .inr (.inr (1, 63))) dX8_no_0 rfl (fun _ _ _ => rfl) rfl rfl rfl ?_
  refine zf_gfr (pc' := 4) (b := 64) dX8_no_1 rfl rfl (by decide) rfl rfl ?_
  refine zf_ld (pc' := 5) (v := .inl v1) dX8_no_4 rfl (fun _ _ _ => rfl) rfl rfl rfl ?_
  refine zf_in (pc' := 6) (S' := [.inl (-v1), .inr (.inr (1, 64))]) dX8_no_5 rfl (fun _ _ _ => rfl) ?_
  refine zf_in (pc' := 7) (S' := [.inl (-v1), .inr (.inr (1, 64)), .inl (-v1), .inr (.inr (1, 64))]) dX8_no_6 rfl (fun _ _ _ => rfl) ?_
  refine zf_ial (pc' := 8) dX8_no_7 rfl (⟨by decide, rfl⟩ : zf_arr 64 8).1 (⟨by decide, rfl⟩ : zf_arr 64 8).2 h.1 rfl ?_
  replace h := h.2
  refine zf_ic (v := 1) (pc' := 9) dX8_no_8 rfl rfl ?_
  refine zf_in (pc' := 10) (S' := [.inl ((m.1 64 (Int32.toInt (-v1)).toNat) + 1), .inl (-v1), .inr (.inr (1, 64))]) dX8_no_9 rfl (fun _ _ _ => rfl) ?_
  refine zf_ias (pc' := 11) dX8_no_10 rfl (⟨by decide, rfl⟩ : zf_arr 64 8).1 (⟨by decide, rfl⟩ : zf_arr 64 8).2 h.1 rfl (fun m1 e2 => ?_)
  replace h := h.2 m1 e2
  refine zf_ld (pc' := 12) (v := .inl v1) dX8_no_11 rfl (fun _ _ _ => rfl) rfl rfl rfl ?_
  exact zf_ri dX8_no_12 rfl h
def zt_126 : zx_MT := (8, yX8_noTen, cX8_noTen, 2, (some FieldType.int), 1, 0)
theorem zm_126 : zx_m 126 = zt_126 := rfl
theorem dX8_noTen_r0 : zdcP cX8_noTen 0 [(.aload_n 0, 1), (.getfield 37, 3), (.iload_n 1, 1), (.ineg, 1), (.dup2, 1), (.iaload, 1), (.iconst 1, 1), (.iadd, 1), (.iastore, 1), (.iload_n 1, 1), (.bipush 10, 2), (.isub, 1), (.ireturn, 1)] := zdcA_ok (by decide +kernel)
theorem dX8_noTen_0 : decode cX8_noTen 0 = .ok (.aload_n 0, 1) := dX8_noTen_r0.1
theorem dX8_noTen_1 : decode cX8_noTen 1 = .ok (.getfield 37, 3) := dX8_noTen_r0.2.1
theorem dX8_noTen_4 : decode cX8_noTen 4 = .ok (.iload_n 1, 1) := dX8_noTen_r0.2.2.1
theorem dX8_noTen_5 : decode cX8_noTen 5 = .ok (.ineg, 1) := dX8_noTen_r0.2.2.2.1
theorem dX8_noTen_6 : decode cX8_noTen 6 = .ok (.dup2, 1) := dX8_noTen_r0.2.2.2.2.1
theorem dX8_noTen_7 : decode cX8_noTen 7 = .ok (.iaload, 1) := dX8_noTen_r0.2.2.2.2.2.1
theorem dX8_noTen_8 : decode cX8_noTen 8 = .ok (.iconst 1, 1) := dX8_noTen_r0.2.2.2.2.2.2.1
theorem dX8_noTen_9 : decode cX8_noTen 9 = .ok (.iadd, 1) := dX8_noTen_r0.2.2.2.2.2.2.2.1
theorem dX8_noTen_10 : decode cX8_noTen 10 = .ok (.iastore, 1) := dX8_noTen_r0.2.2.2.2.2.2.2.2.1
theorem dX8_noTen_11 : decode cX8_noTen 11 = .ok (.iload_n 1, 1) := dX8_noTen_r0.2.2.2.2.2.2.2.2.2.1
theorem dX8_noTen_12 : decode cX8_noTen 12 = .ok (.bipush 10, 2) := dX8_noTen_r0.2.2.2.2.2.2.2.2.2.2.1
theorem dX8_noTen_14 : decode cX8_noTen 14 = .ok (.isub, 1) := dX8_noTen_r0.2.2.2.2.2.2.2.2.2.2.2.1
theorem dX8_noTen_15 : decode cX8_noTen 15 = .ok (.ireturn, 1) := dX8_noTen_r0.2.2.2.2.2.2.2.2.2.2.2.2.1
def wp_126 (v1 : Int32) (m : zf_Me) (Q : Int32 → zf_Me → Prop) : Prop := ((0 ≤ (Int32.toInt (-v1)) ∧ (Int32.toInt (-v1)) < (8 : Int)) ∧ ((0 ≤ (Int32.toInt (-v1)) ∧ (Int32.toInt (-v1)) < (8 : Int)) ∧ ∀ m1, m1 = zf_u m 64 (Int32.toInt (-v1)).toNat ((m.1 64 (Int32.toInt (-v1)).toNat) + 1) → Q (v1 - 10) m1))
theorem zr_126 {d : Nat} (hd : 0 ≤ d) {v1 : Int32} {Q : Int32 → zf_Me → Prop} {m : zf_Me} (h : wp_126 v1 m Q) : zf_M d 126 [.inr (.inr (1, 63)), .inl v1] m (zf_I Q) := by
  unfold wp_126 at h
  refine zf_M_of (Nat.le_of_ble_eq_true rfl) zm_126 (L := [some (.inr (.inr (1, 63))), some (.inl v1)]) rfl ?_
  refine zf_ld (pc' := 1) (v := .inr (.inr (1, 63))) dX8_noTen_0 rfl (fun _ _ _ => rfl) rfl rfl rfl ?_
  refine zf_gfr (pc' := 4) (b := 64) dX8_noTen_1 rfl rfl (by decide) rfl rfl ?_
  refine zf_ld (pc' := 5) (v := .inl v1) dX8_noTen_4 rfl (fun _ _ _ => rfl) rfl rfl rfl ?_
  refine zf_in (pc' := 6) (S' := [.inl (-v1), .inr (.inr (1, 64))]) dX8_noTen_5 rfl (fun _ _ _ => rfl) ?_
  refine zf_in (pc' := 7) (S' := [.inl (-v1), .inr (.inr (1, 64)), .inl (-v1), .inr (.inr (1, 64))]) dX8_noTen_6 rfl (fun _ _ _ => rfl) ?_
  refine zf_ial (pc' := 8) dX8_noTen_7 rfl (⟨by decide, rfl⟩ : zf_arr 64 8).1 (⟨by decide, rfl⟩ : zf_arr 64 8).2 h.1 rfl ?_
  replace h := h.2
  refine zf_ic (v := 1) (pc' := 9) dX8_noTen_8 rfl rfl ?_
  refine zf_in (pc' := 10) (S' := [.inl ((m.1 64 (Int32.toInt (-v1)).toNat) + 1), .inl (-v1), .inr (.inr (1, 64))]) dX8_noTen_9 rfl (fun _ _ _ => rfl) ?_
  refine zf_ias (pc' := 11) dX8_noTen_10 rfl (⟨by decide, rfl⟩ : zf_arr 64 8).1 (⟨by decide, rfl⟩ : zf_arr 64 8).2 h.1 rfl (fun m1 e2 => ?_)
  replace h := h.2 m1 e2
  refine zf_ld (pc' := 12) (v := .inl v1) dX8_noTen_11 rfl (fun _ _ _ => rfl) rfl rfl rfl ?_
  refine zf_bi (v := 10) (pc' := 14) dX8_noTen_12 rfl rfl ?_
  refine zf_in (pc' := 15) (S' := [.inl (v1 - 10)]) dX8_noTen_14 rfl (fun _ _ _ => rfl) ?_
  exact zf_ri dX8_noTen_15 rfl h
def zt_127 : zx_MT := (8, yX8_isShelf, cX8_isShelf, 2, (some FieldType.boolean), 1, 0)
theorem zm_127 : zx_m 127 = zt_127 := rfl
theorem dX8_isShelf_r0 : zdcP cX8_isShelf 0 [(.iload_n 1, 1), (.ifCond .lt 13, 3), (.iload_n 1, 1), (.bipush 8, 2), (.if_icmp .ge 7, 3), (.iconst 1, 1), (.goto 4, 3), (.iconst 0, 1), (.ireturn, 1)] := zdcA_ok (by decide +kernel)
theorem dX8_isShelf_0 : decode cX8_isShelf 0 = .ok (.iload_n 1, 1) := dX8_isShelf_r0.1
theorem dX8_isShelf_1 : decode cX8_isShelf 1 = .ok (.ifCond .lt 13, 3) := dX8_isShelf_r0.2.1
theorem dX8_isShelf_4 : decode cX8_isShelf 4 = .ok (.iload_n 1, 1) := dX8_isShelf_r0.2.2.1
theorem dX8_isShelf_5 : decode cX8_isShelf 5 = .ok (.bipush 8, 2) := dX8_isShelf_r0.2.2.2.1
theorem dX8_isShelf_7 : decode cX8_isShelf 7 = .ok (.if_icmp .ge 7, 3) := dX8_isShelf_r0.2.2.2.2.1
theorem dX8_isShelf_10 : decode cX8_isShelf 10 = .ok (.iconst 1, 1) := dX8_isShelf_r0.2.2.2.2.2.1
theorem dX8_isShelf_11 : decode cX8_isShelf 11 = .ok (.goto 4, 3) := dX8_isShelf_r0.2.2.2.2.2.2.1
theorem dX8_isShelf_14 : decode cX8_isShelf 14 = .ok (.iconst 0, 1) := dX8_isShelf_r0.2.2.2.2.2.2.2.1
theorem dX8_isShelf_15 : decode cX8_isShelf 15 = .ok (.ireturn, 1) := dX8_isShelf_r0.2.2.2.2.2.2.2.2.1
def wp_127 (v1 : Int32) (m : zf_Me) (Q : Bool → zf_Me → Prop) : Prop := ((v1.toInt < 0 → Q false m) ∧ (v1.toInt ≥ 0 → ((v1.toInt ≥ 8 → Q false m) ∧ (v1.toInt < 8 → Q true m))))
theorem zr_127 {d : Nat} (hd : 0 ≤ d) {v1 : Int32} {Q : Bool → zf_Me → Prop} {m : zf_Me} (h : wp_127 v1 m Q) : zf_M d 127 [.inr (.inr (1, 63)), .inl v1] m (zf_B Q) := by
  unfold wp_127 at h
  refine zf_M_of (Nat.le_of_ble_eq_true rfl) zm_127 (L := [some (.inr (.inr (1, 63))), some (.inl v1)]) rfl ?_
  refine zf_ld (pc' := 1) (v := .inl v1) dX8_isShelf_0 rfl (fun _ _ _ => rfl) rfl rfl rfl ?_
  refine zf_if_lt (tgt := 14) (pc' := 4) dX8_isShelf_1 rfl rfl (fun g => ?_) (fun g => ?_)
  · replace h := h.1 g
    refine zf_ic (v := 0) (pc' := 15) dX8_isShelf_14 rfl rfl ?_
    exact zf_rb (b := false) dX8_isShelf_15 rfl h
  · replace h := h.2 g
    refine zf_ld (pc' := 5) (v := .inl v1) dX8_isShelf_4 rfl (fun _ _ _ => rfl) rfl rfl rfl ?_
    refine zf_bi (v := 8) (pc' := 7) dX8_isShelf_5 rfl rfl ?_
    refine zf_icmp_ge (tgt := 14) (pc' := 10) dX8_isShelf_7 rfl rfl (fun g => ?_) (fun g => ?_)
    · replace h := h.1 g
      refine zf_ic (v := 0) (pc' := 15) dX8_isShelf_14 rfl rfl ?_
      exact zf_rb (b := false) dX8_isShelf_15 rfl h
    · replace h := h.2 g
      refine zf_ic (v := 1) (pc' := 11) dX8_isShelf_10 rfl rfl ?_
      refine zf_goto (tgt := 15) dX8_isShelf_11 rfl ?_
      exact zf_rb (b := true) dX8_isShelf_15 rfl h
def zt_128 : zx_MT := (8, yX8_isPerson, cX8_isPerson, 2, (some FieldType.boolean), 1, 0)
theorem zm_128 : zx_m 128 = zt_128 := rfl
theorem dX8_isPerson_r0 : zdcP cX8_isPerson 0 [(.iload_n 1, 1), (.ifCond .lt 15, 3), (.iload_n 1, 1), (.aload_n 0, 1), (.getfield 105, 3), (.if_icmp .ge 7, 3), (.iconst 1, 1), (.goto 4, 3), (.iconst 0, 1), (.ireturn, 1)] := zdcA_ok (by decide +kernel)
theorem dX8_isPerson_0 : decode cX8_isPerson 0 = .ok (.iload_n 1, 1) := dX8_isPerson_r0.1
theorem dX8_isPerson_1 : decode cX8_isPerson 1 = .ok (.ifCond .lt 15, 3) := dX8_isPerson_r0.2.1
theorem dX8_isPerson_4 : decode cX8_isPerson 4 = .ok (.iload_n 1, 1) := dX8_isPerson_r0.2.2.1
theorem dX8_isPerson_5 : decode cX8_isPerson 5 = .ok (.aload_n 0, 1) := dX8_isPerson_r0.2.2.2.1
theorem dX8_isPerson_6 : decode cX8_isPerson 6 = .ok (.getfield 105, 3) := dX8_isPerson_r0.2.2.2.2.1
theorem dX8_isPerson_9 : decode cX8_isPerson 9 = .ok (.if_icmp .ge 7, 3) := dX8_isPerson_r0.2.2.2.2.2.1
theorem dX8_isPerson_12 : decode cX8_isPerson 12 = .ok (.iconst 1, 1) := dX8_isPerson_r0.2.2.2.2.2.2.1
theorem dX8_isPerson_13 : decode cX8_isPerson 13 = .ok (.goto 4, 3) := dX8_isPerson_r0.2.2.2.2.2.2.2.1
theorem dX8_isPerson_16 : decode cX8_isPerson 16 = .ok (.iconst 0, 1) := dX8_isPerson_r0.2.2.2.2.2.2.2.2.1
theorem dX8_isPerson_17 : decode cX8_isPerson 17 = .ok (.ireturn, 1) := dX8_isPerson_r0.2.2.2.2.2.2.2.2.2.1
def wp_128 (v1 : Int32) (m : zf_Me) (Q : Bool → zf_Me → Prop) : Prop := ((v1.toInt < 0 → Q false m) ∧ (v1.toInt ≥ 0 → ((v1.toInt ≥ ((m.1 63 1)).toInt → Q false m) ∧ (v1.toInt < ((m.1 63 1)).toInt → Q true m))))
theorem zr_128 {d : Nat} (hd : 0 ≤ d) {v1 : Int32} {Q : Bool → zf_Me → Prop} {m : zf_Me} (h : wp_128 v1 m Q) : zf_M d 128 [.inr (.inr (1, 63)), .inl v1] m (zf_B Q) := by
  unfold wp_128 at h
  refine zf_M_of (Nat.le_of_ble_eq_true rfl) zm_128 (L := [some (.inr (.inr (1, 63))), some (.inl v1)]) rfl ?_
  refine zf_ld (pc' := 1) (v := .inl v1) dX8_isPerson_0 rfl (fun _ _ _ => rfl) rfl rfl rfl ?_
  refine zf_if_lt (tgt := 16) (pc' := 4) dX8_isPerson_1 rfl rfl (fun g => ?_) (fun g => ?_)
  · replace h := h.1 g
    refine zf_ic (v := 0) (pc' := 17) dX8_isPerson_16 rfl rfl ?_
    exact zf_rb (b := false) dX8_isPerson_17 rfl h
  · replace h := h.2 g
    refine zf_ld (pc' := 5) (v := .inl v1) dX8_isPerson_4 rfl (fun _ _ _ => rfl) rfl rfl rfl ?_
    refine zf_ld (pc' := 6) (v := .inr (.inr (1, 63))) dX8_isPerson_5 rfl (fun _ _ _ => rfl) rfl rfl rfl ?_
    refine zf_gfi (pc' := 9) dX8_isPerson_6 rfl rfl (by decide) rfl rfl ?_
    refine zf_icmp_ge (tgt := 16) (pc' := 12) dX8_isPerson_9 rfl rfl (fun g => ?_) (fun g => ?_)
    · replace h := h.1 g
      refine zf_ic (v := 0) (pc' := 17) dX8_isPerson_16 rfl rfl ?_
      exact zf_rb (b := false) dX8_isPerson_17 rfl h
    · replace h := h.2 g
      refine zf_ic (v := 1) (pc' := 13) dX8_isPerson_12 rfl rfl ?_
      refine zf_goto (tgt := 17) dX8_isPerson_13 rfl ?_
      exact zf_rb (b := true) dX8_isPerson_17 rfl h
def zt_129 : zx_MT := (8, yX8_isFurlong, cX8_isFurlong, 2, (some FieldType.boolean), 1, 0)
theorem zm_129 : zx_m 129 = zt_129 := rfl
theorem dX8_isFurlong_r0 : zdcP cX8_isFurlong 0 [(.iload_n 1, 1), (.ifCond .lt 15, 3), (.iload_n 1, 1), (.aload_n 0, 1), (.getfield 108, 3), (.if_icmp .ge 7, 3), (.iconst 1, 1), (.goto 4, 3), (.iconst 0, 1), (.ireturn, 1)] := zdcA_ok (by decide +kernel)
theorem dX8_isFurlong_0 : decode cX8_isFurlong 0 = .ok (.iload_n 1, 1) := dX8_isFurlong_r0.1
theorem dX8_isFurlong_1 : decode cX8_isFurlong 1 = .ok (.ifCond .lt 15, 3) := dX8_isFurlong_r0.2.1
theorem dX8_isFurlong_4 : decode cX8_isFurlong 4 = .ok (.iload_n 1, 1) := dX8_isFurlong_r0.2.2.1
theorem dX8_isFurlong_5 : decode cX8_isFurlong 5 = .ok (.aload_n 0, 1) := dX8_isFurlong_r0.2.2.2.1
theorem dX8_isFurlong_6 : decode cX8_isFurlong 6 = .ok (.getfield 108, 3) := dX8_isFurlong_r0.2.2.2.2.1
theorem dX8_isFurlong_9 : decode cX8_isFurlong 9 = .ok (.if_icmp .ge 7, 3) := dX8_isFurlong_r0.2.2.2.2.2.1
theorem dX8_isFurlong_12 : decode cX8_isFurlong 12 = .ok (.iconst 1, 1) := dX8_isFurlong_r0.2.2.2.2.2.2.1
theorem dX8_isFurlong_13 : decode cX8_isFurlong 13 = .ok (.goto 4, 3) := dX8_isFurlong_r0.2.2.2.2.2.2.2.1
theorem dX8_isFurlong_16 : decode cX8_isFurlong 16 = .ok (.iconst 0, 1) := dX8_isFurlong_r0.2.2.2.2.2.2.2.2.1
theorem dX8_isFurlong_17 : decode cX8_isFurlong 17 = .ok (.ireturn, 1) := dX8_isFurlong_r0.2.2.2.2.2.2.2.2.2.1
def wp_129 (v1 : Int32) (m : zf_Me) (Q : Bool → zf_Me → Prop) : Prop := ((v1.toInt < 0 → Q false m) ∧ (v1.toInt ≥ 0 → ((v1.toInt ≥ ((m.1 63 0)).toInt → Q false m) ∧ (v1.toInt < ((m.1 63 0)).toInt → Q true m))))
theorem zr_129 {d : Nat} (hd : 0 ≤ d) {v1 : Int32} {Q : Bool → zf_Me → Prop} {m : zf_Me} (h : wp_129 v1 m Q) : zf_M d 129 [.inr (.inr (1, 63)), .inl v1] m (zf_B Q) := by
  unfold wp_129 at h
  refine zf_M_of (Nat.le_of_ble_eq_true rfl) zm_129 (L := [some (.inr (.inr (1, 63))), some (.inl v1)]) rfl ?_
  refine zf_ld (pc' := 1) (v := .inl v1) dX8_isFurlong_0 rfl (fun _ _ _ => rfl) rfl rfl rfl ?_
  refine zf_if_lt (tgt := 16) (pc' := 4) dX8_isFurlong_1 rfl rfl (fun g => ?_) (fun g => ?_)
  · replace h := h.1 g
    refine zf_ic (v := 0) (pc' := 17) dX8_isFurlong_16 rfl rfl ?_
    exact zf_rb (b := false) dX8_isFurlong_17 rfl h
  · replace h := h.2 g
    refine zf_ld (pc' := 5) (v := .inl v1) dX8_isFurlong_4 rfl (fun _ _ _ => rfl) rfl rfl rfl ?_
    refine zf_ld (pc' := 6) (v := .inr (.inr (1, 63))) dX8_isFurlong_5 rfl (fun _ _ _ => rfl) rfl rfl rfl ?_
    refine zf_gfi (pc' := 9) dX8_isFurlong_6 rfl rfl (by decide) rfl rfl ?_
    refine zf_icmp_ge (tgt := 16) (pc' := 12) dX8_isFurlong_9 rfl rfl (fun g => ?_) (fun g => ?_)
    · replace h := h.1 g
      refine zf_ic (v := 0) (pc' := 17) dX8_isFurlong_16 rfl rfl ?_
      exact zf_rb (b := false) dX8_isFurlong_17 rfl h
    · replace h := h.2 g
      refine zf_ic (v := 1) (pc' := 13) dX8_isFurlong_12 rfl rfl ?_
      refine zf_goto (tgt := 17) dX8_isFurlong_13 rfl ?_
      exact zf_rb (b := true) dX8_isFurlong_17 rfl h
def zt_130 : zx_MT := (8, yX8_row, cX8_row, 5, (some FieldType.int), 3, 0)
theorem zm_130 : zx_m 130 = zt_130 := rfl
theorem dX8_row_r0 : zdcP cX8_row 0 [(.aload_n 0, 1), (.iload_n 1, 1), (.invokevirtual 111, 3), (.ifCond .ne 9, 3), (.aload_n 0, 1), (.iconst (-1), 1), (.invokevirtual 115, 3), (.ireturn, 1), (.iload_n 3, 1), (.ifCond .ge 10, 3), (.aload_n 0, 1), (.bipush (-4), 2), (.invokevirtual 115, 3), (.ireturn, 1), (.iload_n 2, 1), (.ifCond .lt 8, 3)] := zdcA_ok (by decide +kernel)
theorem dX8_row_0 : decode cX8_row 0 = .ok (.aload_n 0, 1) := dX8_row_r0.1
theorem dX8_row_1 : decode cX8_row 1 = .ok (.iload_n 1, 1) := dX8_row_r0.2.1
theorem dX8_row_2 : decode cX8_row 2 = .ok (.invokevirtual 111, 3) := dX8_row_r0.2.2.1
theorem dX8_row_5 : decode cX8_row 5 = .ok (.ifCond .ne 9, 3) := dX8_row_r0.2.2.2.1
theorem dX8_row_8 : decode cX8_row 8 = .ok (.aload_n 0, 1) := dX8_row_r0.2.2.2.2.1
theorem dX8_row_9 : decode cX8_row 9 = .ok (.iconst (-1), 1) := dX8_row_r0.2.2.2.2.2.1
theorem dX8_row_10 : decode cX8_row 10 = .ok (.invokevirtual 115, 3) := dX8_row_r0.2.2.2.2.2.2.1
theorem dX8_row_13 : decode cX8_row 13 = .ok (.ireturn, 1) := dX8_row_r0.2.2.2.2.2.2.2.1
theorem dX8_row_14 : decode cX8_row 14 = .ok (.iload_n 3, 1) := dX8_row_r0.2.2.2.2.2.2.2.2.1
theorem dX8_row_15 : decode cX8_row 15 = .ok (.ifCond .ge 10, 3) := dX8_row_r0.2.2.2.2.2.2.2.2.2.1
theorem dX8_row_18 : decode cX8_row 18 = .ok (.aload_n 0, 1) := dX8_row_r0.2.2.2.2.2.2.2.2.2.2.1
theorem dX8_row_19 : decode cX8_row 19 = .ok (.bipush (-4), 2) := dX8_row_r0.2.2.2.2.2.2.2.2.2.2.2.1
theorem dX8_row_21 : decode cX8_row 21 = .ok (.invokevirtual 115, 3) := dX8_row_r0.2.2.2.2.2.2.2.2.2.2.2.2.1
theorem dX8_row_24 : decode cX8_row 24 = .ok (.ireturn, 1) := dX8_row_r0.2.2.2.2.2.2.2.2.2.2.2.2.2.1
theorem dX8_row_25 : decode cX8_row 25 = .ok (.iload_n 2, 1) := dX8_row_r0.2.2.2.2.2.2.2.2.2.2.2.2.2.2.1
theorem dX8_row_26 : decode cX8_row 26 = .ok (.ifCond .lt 8, 3) := dX8_row_r0.2.2.2.2.2.2.2.2.2.2.2.2.2.2.2.1
theorem dX8_row_r29 : zdcP cX8_row 29 [(.iload_n 2, 1), (.iconst 3, 1), (.if_icmp .le 10, 3), (.aload_n 0, 1), (.bipush (-6), 2), (.invokevirtual 115, 3), (.ireturn, 1), (.iload_n 3, 1), (.sipush 160, 3), (.if_icmp .le 10, 3), (.aload_n 0, 1), (.bipush (-7), 2), (.invokevirtual 115, 3), (.ireturn, 1), (.aload_n 0, 1), (.getfield 56, 3)] := zdcA_ok (by decide +kernel)
theorem dX8_row_29 : decode cX8_row 29 = .ok (.iload_n 2, 1) := dX8_row_r29.1
theorem dX8_row_30 : decode cX8_row 30 = .ok (.iconst 3, 1) := dX8_row_r29.2.1
theorem dX8_row_31 : decode cX8_row 31 = .ok (.if_icmp .le 10, 3) := dX8_row_r29.2.2.1
theorem dX8_row_34 : decode cX8_row 34 = .ok (.aload_n 0, 1) := dX8_row_r29.2.2.2.1
theorem dX8_row_35 : decode cX8_row 35 = .ok (.bipush (-6), 2) := dX8_row_r29.2.2.2.2.1
theorem dX8_row_37 : decode cX8_row 37 = .ok (.invokevirtual 115, 3) := dX8_row_r29.2.2.2.2.2.1
theorem dX8_row_40 : decode cX8_row 40 = .ok (.ireturn, 1) := dX8_row_r29.2.2.2.2.2.2.1
theorem dX8_row_41 : decode cX8_row 41 = .ok (.iload_n 3, 1) := dX8_row_r29.2.2.2.2.2.2.2.1
theorem dX8_row_42 : decode cX8_row 42 = .ok (.sipush 160, 3) := dX8_row_r29.2.2.2.2.2.2.2.2.1
theorem dX8_row_45 : decode cX8_row 45 = .ok (.if_icmp .le 10, 3) := dX8_row_r29.2.2.2.2.2.2.2.2.2.1
theorem dX8_row_48 : decode cX8_row 48 = .ok (.aload_n 0, 1) := dX8_row_r29.2.2.2.2.2.2.2.2.2.2.1
theorem dX8_row_49 : decode cX8_row 49 = .ok (.bipush (-7), 2) := dX8_row_r29.2.2.2.2.2.2.2.2.2.2.2.1
theorem dX8_row_51 : decode cX8_row 51 = .ok (.invokevirtual 115, 3) := dX8_row_r29.2.2.2.2.2.2.2.2.2.2.2.2.1
theorem dX8_row_54 : decode cX8_row 54 = .ok (.ireturn, 1) := dX8_row_r29.2.2.2.2.2.2.2.2.2.2.2.2.2.1
theorem dX8_row_55 : decode cX8_row 55 = .ok (.aload_n 0, 1) := dX8_row_r29.2.2.2.2.2.2.2.2.2.2.2.2.2.2.1
theorem dX8_row_56 : decode cX8_row 56 = .ok (.getfield 56, 3) := dX8_row_r29.2.2.2.2.2.2.2.2.2.2.2.2.2.2.2.1
theorem dX8_row_r59 : zdcP cX8_row 59 [(.iload_n 1, 1), (.iconst 1, 1), (.iastore, 1), (.aload_n 0, 1), (.getfield 59, 3), (.iload_n 1, 1), (.iload_n 2, 1), (.iastore, 1), (.aload_n 0, 1), (.getfield 62, 3), (.iload_n 1, 1), (.iload_n 3, 1), (.iastore, 1), (.iconst 0, 1), (.istore 4, 2), (.iload 4, 2)] := zdcA_ok (by decide +kernel)
theorem dX8_row_59 : decode cX8_row 59 = .ok (.iload_n 1, 1) := dX8_row_r59.1
theorem dX8_row_60 : decode cX8_row 60 = .ok (.iconst 1, 1) := dX8_row_r59.2.1
theorem dX8_row_61 : decode cX8_row 61 = .ok (.iastore, 1) := dX8_row_r59.2.2.1
theorem dX8_row_62 : decode cX8_row 62 = .ok (.aload_n 0, 1) := dX8_row_r59.2.2.2.1
theorem dX8_row_63 : decode cX8_row 63 = .ok (.getfield 59, 3) := dX8_row_r59.2.2.2.2.1
theorem dX8_row_66 : decode cX8_row 66 = .ok (.iload_n 1, 1) := dX8_row_r59.2.2.2.2.2.1
theorem dX8_row_67 : decode cX8_row 67 = .ok (.iload_n 2, 1) := dX8_row_r59.2.2.2.2.2.2.1
theorem dX8_row_68 : decode cX8_row 68 = .ok (.iastore, 1) := dX8_row_r59.2.2.2.2.2.2.2.1
theorem dX8_row_69 : decode cX8_row 69 = .ok (.aload_n 0, 1) := dX8_row_r59.2.2.2.2.2.2.2.2.1
theorem dX8_row_70 : decode cX8_row 70 = .ok (.getfield 62, 3) := dX8_row_r59.2.2.2.2.2.2.2.2.2.1
theorem dX8_row_73 : decode cX8_row 73 = .ok (.iload_n 1, 1) := dX8_row_r59.2.2.2.2.2.2.2.2.2.2.1
theorem dX8_row_74 : decode cX8_row 74 = .ok (.iload_n 3, 1) := dX8_row_r59.2.2.2.2.2.2.2.2.2.2.2.1
theorem dX8_row_75 : decode cX8_row 75 = .ok (.iastore, 1) := dX8_row_r59.2.2.2.2.2.2.2.2.2.2.2.2.1
theorem dX8_row_76 : decode cX8_row 76 = .ok (.iconst 0, 1) := dX8_row_r59.2.2.2.2.2.2.2.2.2.2.2.2.2.1
theorem dX8_row_77 : decode cX8_row 77 = .ok (.istore 4, 2) := dX8_row_r59.2.2.2.2.2.2.2.2.2.2.2.2.2.2.1
theorem dX8_row_79 : decode cX8_row 79 = .ok (.iload 4, 2) := dX8_row_r59.2.2.2.2.2.2.2.2.2.2.2.2.2.2.2.1
theorem dX8_row_r81 : zdcP cX8_row 81 [(.sipush 160, 3), (.if_icmp .ge 23, 3), (.aload_n 0, 1), (.getfield 68, 3), (.sipush 160, 3), (.iload_n 1, 1), (.imul, 1), (.iload 4, 2), (.iadd, 1), (.lconst 0, 1), (.lastore, 1), (.iinc 4 1, 3), (.goto (-25), 3), (.iconst 1, 1), (.ireturn, 1)] := zdcA_ok (by decide +kernel)
theorem dX8_row_81 : decode cX8_row 81 = .ok (.sipush 160, 3) := dX8_row_r81.1
theorem dX8_row_84 : decode cX8_row 84 = .ok (.if_icmp .ge 23, 3) := dX8_row_r81.2.1
theorem dX8_row_87 : decode cX8_row 87 = .ok (.aload_n 0, 1) := dX8_row_r81.2.2.1
theorem dX8_row_88 : decode cX8_row 88 = .ok (.getfield 68, 3) := dX8_row_r81.2.2.2.1
theorem dX8_row_91 : decode cX8_row 91 = .ok (.sipush 160, 3) := dX8_row_r81.2.2.2.2.1
theorem dX8_row_94 : decode cX8_row 94 = .ok (.iload_n 1, 1) := dX8_row_r81.2.2.2.2.2.1
theorem dX8_row_95 : decode cX8_row 95 = .ok (.imul, 1) := dX8_row_r81.2.2.2.2.2.2.1
theorem dX8_row_96 : decode cX8_row 96 = .ok (.iload 4, 2) := dX8_row_r81.2.2.2.2.2.2.2.1
theorem dX8_row_98 : decode cX8_row 98 = .ok (.iadd, 1) := dX8_row_r81.2.2.2.2.2.2.2.2.1
theorem dX8_row_99 : decode cX8_row 99 = .ok (.lconst 0, 1) := dX8_row_r81.2.2.2.2.2.2.2.2.2.1
theorem dX8_row_100 : decode cX8_row 100 = .ok (.lastore, 1) := dX8_row_r81.2.2.2.2.2.2.2.2.2.2.1
theorem dX8_row_101 : decode cX8_row 101 = .ok (.iinc 4 1, 3) := dX8_row_r81.2.2.2.2.2.2.2.2.2.2.2.1
theorem dX8_row_104 : decode cX8_row 104 = .ok (.goto (-25), 3) := dX8_row_r81.2.2.2.2.2.2.2.2.2.2.2.2.1
theorem dX8_row_107 : decode cX8_row 107 = .ok (.iconst 1, 1) := dX8_row_r81.2.2.2.2.2.2.2.2.2.2.2.2.2.1
theorem dX8_row_108 : decode cX8_row 108 = .ok (.ireturn, 1) := dX8_row_r81.2.2.2.2.2.2.2.2.2.2.2.2.2.2.1
def wq_130_79 (v1 : Int32) (v2 : Int32) (v3 : Int32) (Q : Int32 → zf_Me → Prop) : Nat → Int32 → zf_Me → Prop
  | 0, _, _ => False
  | n + 1, v4, m => ((v4.toInt ≥ 160 → Q 1 m) ∧ (v4.toInt < 160 → ((0 ≤ (Int32.toInt ((160 * v1) + v4)) ∧ (Int32.toInt ((160 * v1) + v4)) < (1280 : Int)) ∧ ∀ m11, m11 = zf_ul m 74 (Int32.toInt ((160 * v1) + v4)).toNat 0 → wq_130_79 v1 v2 v3 Q n (v4 + 1) m11)))
theorem zq_130_79 {d : Nat} (hd : 1 ≤ d) {v1 : Int32} {v2 : Int32} {v3 : Int32} {Q : Int32 → zf_Me → Prop} : ∀ (n : Nat) (v4 : Int32) (m : zf_Me), wq_130_79 v1 v2 v3 Q n v4 m → zf_W none 0 0 d zt_130 79 [some (.inr (.inr (1, 63))), some (.inl v1), none, none, some (.inl v4)] [] m (zf_I Q) := by
  intro n
  induction n with
  | zero =>
    intro v4 m h
    exact h.elim
  | succ n ih =>
    intro v4 m h
    unfold wq_130_79 at h
    refine zf_ld (pc' := 81) (v := .inl v4) dX8_row_79 rfl (fun _ _ _ => rfl) rfl rfl rfl ?_
    refine zf_si (v := 160) (pc' := 84) dX8_row_81 rfl rfl ?_
    refine zf_icmp_ge (tgt := 107) (pc' := 87) dX8_row_84 rfl rfl (fun g => ?_) (fun g => ?_)
    · replace h := h.1 g
      refine zf_ic (v := 1) (pc' := 108) dX8_row_107 rfl rfl ?_
      exact zf_ri dX8_row_108 rfl h
    · replace h := h.2 g
      refine zf_ld (pc' := 88) (v := .inr (.inr (1, 63))) dX8_row_87 rfl (fun _ _ _ => rfl) rfl rfl rfl ?_
      refine zf_gfr (pc' := 91) (b := 74) dX8_row_88 rfl rfl (by decide) rfl rfl ?_
      refine zf_si (v := 160) (pc' := 94) dX8_row_91 rfl rfl ?_
      refine zf_ld (pc' := 95) (v := .inl v1) dX8_row_94 rfl (fun _ _ _ => rfl) rfl rfl rfl ?_
      refine zf_in (pc' := 96) (S' := [.inl (160 * v1), .inr (.inr (1, 74))]) dX8_row_95 rfl (fun _ _ _ => rfl) ?_
      refine zf_ld (pc' := 98) (v := .inl v4) dX8_row_96 rfl (fun _ _ _ => rfl) rfl rfl rfl ?_
      refine zf_in (pc' := 99) (S' := [.inl ((160 * v1) + v4), .inr (.inr (1, 74))]) dX8_row_98 rfl (fun _ _ _ => rfl) ?_
      refine zf_in (pc' := 100) (S' := [.inr (.inl 0), .inl ((160 * v1) + v4), .inr (.inr (1, 74))]) dX8_row_99 rfl (fun _ _ _ => rfl) ?_
      refine zf_las (pc' := 101) dX8_row_100 rfl (⟨by decide, rfl⟩ : zf_larr 74 1280).1 (⟨by decide, rfl⟩ : zf_larr 74 1280).2 h.1 rfl (fun m11 e12 => ?_)
      replace h := h.2 m11 e12
      refine zf_ii (y := (v4 + 1)) (L2 := [some (.inr (.inr (1, 63))), some (.inl v1), none, none, some (.inl (v4 + 1))]) (pc' := 104) dX8_row_101 rfl rfl rfl rfl rfl ?_
      refine zf_goto (tgt := 79) dX8_row_104 rfl ?_
      exact zf_lo (ih _ _ h) ⟨rfl, rfl, rfl, trivial⟩
def wp_130 (v1 : Int32) (v2 : Int32) (v3 : Int32) (m : zf_Me) (Q : Int32 → zf_Me → Prop) : Prop := wp_127 v1 m (fun b1 m2 => ((b1 = true → ((v3.toInt ≥ 0 → ((v2.toInt < 0 → wp_125 (-6) m2 (fun x3 m4 => Q x3 m4)) ∧ (v2.toInt ≥ 0 → ((v2.toInt ≤ 3 → ((v3.toInt ≤ 160 → ((0 ≤ (Int32.toInt v1) ∧ (Int32.toInt v1) < (8 : Int)) ∧ ∀ m5, m5 = zf_u m2 70 (Int32.toInt v1).toNat 1 → ((0 ≤ (Int32.toInt v1) ∧ (Int32.toInt v1) < (8 : Int)) ∧ ∀ m7, m7 = zf_u m5 71 (Int32.toInt v1).toNat v2 → ((0 ≤ (Int32.toInt v1) ∧ (Int32.toInt v1) < (8 : Int)) ∧ ∀ m9, m9 = zf_u m7 72 (Int32.toInt v1).toNat v3 → (∃ n79, wq_130_79 v1 v2 v3 Q n79 0 m9))))) ∧ (v3.toInt > 160 → wp_125 (-7) m2 (fun x13 m14 => Q x13 m14)))) ∧ (v2.toInt > 3 → wp_125 (-6) m2 (fun x15 m16 => Q x15 m16)))))) ∧ (v3.toInt < 0 → wp_125 (-4) m2 (fun x17 m18 => Q x17 m18)))) ∧ (b1 = false → wp_125 (-1) m2 (fun x19 m20 => Q x19 m20))))
theorem zr_130 {d : Nat} (hd : 1 ≤ d) {v1 : Int32} {v2 : Int32} {v3 : Int32} {Q : Int32 → zf_Me → Prop} {m : zf_Me} (h : wp_130 v1 v2 v3 m Q) : zf_M d 130 [.inr (.inr (1, 63)), .inl v1, .inl v2, .inl v3] m (zf_I Q) := by
  obtain ⟨e, rfl⟩ : ∃ z, d = z + 1 := ⟨d - 1, by omega⟩
  unfold wp_130 at h
  refine zf_M_of (Nat.le_of_ble_eq_true rfl) zm_130 (L := [some (.inr (.inr (1, 63))), some (.inl v1), some (.inl v2), some (.inl v3), none]) rfl ?_
  refine zf_ld (pc' := 1) (v := .inr (.inr (1, 63))) dX8_row_0 rfl (fun _ _ _ => rfl) rfl rfl rfl ?_
  refine zf_ld (pc' := 2) (v := .inl v1) dX8_row_1 rfl (fun _ _ _ => rfl) rfl rfl rfl ?_
  refine zf_iv (k := 127) (pc' := 5) (r := []) dX8_row_2 rfl rfl rfl rfl (by decide) rfl rfl rfl (zr_127 (by omega) h) (zf_kB (fun b1 m2 h => ?_))
  refine zf_ib_ne (tgt := 14) (pc' := 8) dX8_row_5 rfl rfl (fun g => ?_) (fun g => ?_)
  · replace h := h.1 g
    refine zf_ld (pc' := 15) (v := .inl v3) dX8_row_14 rfl (fun _ _ _ => rfl) rfl rfl rfl ?_
    refine zf_if_ge (tgt := 25) (pc' := 18) dX8_row_15 rfl rfl (fun g => ?_) (fun g => ?_)
    · replace h := h.1 g
      refine zf_ld (pc' := 26) (v := .inl v2) dX8_row_25 rfl (fun _ _ _ => rfl) rfl rfl rfl ?_
      refine zf_if_lt (tgt := 34) (pc' := 29) dX8_row_26 rfl rfl (fun g => ?_) (fun g => ?_)
      · replace h := h.1 g
        refine zf_ld (pc' := 35) (v := .inr (.inr (1, 63))) dX8_row_34 rfl (fun _ _ _ => rfl) rfl rfl rfl ?_
        refine zf_bi (v := (-6)) (pc' := 37) dX8_row_35 rfl rfl ?_
        refine zf_iv (k := 125) (pc' := 40) (r := []) dX8_row_37 rfl rfl rfl rfl (by decide) rfl rfl rfl (zr_125 (by omega) h) (zf_kI (fun x3 m4 h => ?_))
        exact zf_ri dX8_row_40 rfl h
      · replace h := h.2 g
        refine zf_ld (pc' := 30) (v := .inl v2) dX8_row_29 rfl (fun _ _ _ => rfl) rfl rfl rfl ?_
        refine zf_ic (v := 3) (pc' := 31) dX8_row_30 rfl rfl ?_
        refine zf_icmp_le (tgt := 41) (pc' := 34) dX8_row_31 rfl rfl (fun g => ?_) (fun g => ?_)
        · replace h := h.1 g
          refine zf_ld (pc' := 42) (v := .inl v3) dX8_row_41 rfl (fun _ _ _ => rfl) rfl rfl rfl ?_
          refine zf_si (v := 160) (pc' := 45) dX8_row_42 rfl rfl ?_
          refine zf_icmp_le (tgt := 55) (pc' := 48) dX8_row_45 rfl rfl (fun g => ?_) (fun g => ?_)
          · replace h := h.1 g
            refine zf_ld (pc' := 56) (v := .inr (.inr (1, 63))) dX8_row_55 rfl (fun _ _ _ => rfl) rfl rfl rfl ?_
            refine zf_gfr (pc' := 59) (b := 70) dX8_row_56 rfl rfl (by decide) rfl rfl ?_
            refine zf_ld (pc' := 60) (v := .inl v1) dX8_row_59 rfl (fun _ _ _ => rfl) rfl rfl rfl ?_
            refine zf_ic (v := 1) (pc' := 61) dX8_row_60 rfl rfl ?_
            refine zf_ias (pc' := 62) dX8_row_61 rfl (⟨by decide, rfl⟩ : zf_arr 70 8).1 (⟨by decide, rfl⟩ : zf_arr 70 8).2 h.1 rfl (fun m5 e6 => ?_)
            replace h := h.2 m5 e6
            refine zf_ld (pc' := 63) (v := .inr (.inr (1, 63))) dX8_row_62 rfl (fun _ _ _ => rfl) rfl rfl rfl ?_
            refine zf_gfr (pc' := 66) (b := 71) dX8_row_63 rfl rfl (by decide) rfl rfl ?_
            refine zf_ld (pc' := 67) (v := .inl v1) dX8_row_66 rfl (fun _ _ _ => rfl) rfl rfl rfl ?_
            refine zf_ld (pc' := 68) (v := .inl v2) dX8_row_67 rfl (fun _ _ _ => rfl) rfl rfl rfl ?_
            refine zf_ias (pc' := 69) dX8_row_68 rfl (⟨by decide, rfl⟩ : zf_arr 71 8).1 (⟨by decide, rfl⟩ : zf_arr 71 8).2 h.1 rfl (fun m7 e8 => ?_)
            replace h := h.2 m7 e8
            refine zf_ld (pc' := 70) (v := .inr (.inr (1, 63))) dX8_row_69 rfl (fun _ _ _ => rfl) rfl rfl rfl ?_
            refine zf_gfr (pc' := 73) (b := 72) dX8_row_70 rfl rfl (by decide) rfl rfl ?_
            refine zf_ld (pc' := 74) (v := .inl v1) dX8_row_73 rfl (fun _ _ _ => rfl) rfl rfl rfl ?_
            refine zf_ld (pc' := 75) (v := .inl v3) dX8_row_74 rfl (fun _ _ _ => rfl) rfl rfl rfl ?_
            refine zf_ias (pc' := 76) dX8_row_75 rfl (⟨by decide, rfl⟩ : zf_arr 72 8).1 (⟨by decide, rfl⟩ : zf_arr 72 8).2 h.1 rfl (fun m9 e10 => ?_)
            replace h := h.2 m9 e10
            refine zf_ic (v := 0) (pc' := 77) dX8_row_76 rfl rfl ?_
            refine zf_st (pc' := 79) (L2 := [some (.inr (.inr (1, 63))), some (.inl v1), some (.inl v2), some (.inl v3), some (.inl 0)]) dX8_row_77 rfl (fun _ _ _ => rfl) rfl rfl rfl rfl rfl rfl ?_
            obtain ⟨n79, h⟩ := h
            exact zf_lo (zq_130_79 (by omega) n79 _ _ h) ⟨rfl, rfl, rfl, trivial⟩
          · replace h := h.2 g
            refine zf_ld (pc' := 49) (v := .inr (.inr (1, 63))) dX8_row_48 rfl (fun _ _ _ => rfl) rfl rfl rfl ?_
            refine zf_bi (v := (-7)) (pc' := 51) dX8_row_49 rfl rfl ?_
            refine zf_iv (k := 125) (pc' := 54) (r := []) dX8_row_51 rfl rfl rfl rfl (by decide) rfl rfl rfl (zr_125 (by omega) h) (zf_kI (fun x13 m14 h => ?_))
            exact zf_ri dX8_row_54 rfl h
        · replace h := h.2 g
          refine zf_ld (pc' := 35) (v := .inr (.inr (1, 63))) dX8_row_34 rfl (fun _ _ _ => rfl) rfl rfl rfl ?_
          refine zf_bi (v := (-6)) (pc' := 37) dX8_row_35 rfl rfl ?_
          refine zf_iv (k := 125) (pc' := 40) (r := []) dX8_row_37 rfl rfl rfl rfl (by decide) rfl rfl rfl (zr_125 (by omega) h) (zf_kI (fun x15 m16 h => ?_))
          exact zf_ri dX8_row_40 rfl h
    · replace h := h.2 g
      refine zf_ld (pc' := 19) (v := .inr (.inr (1, 63))) dX8_row_18 rfl (fun _ _ _ => rfl) rfl rfl rfl ?_
      refine zf_bi (v := (-4)) (pc' := 21) dX8_row_19 rfl rfl ?_
      refine zf_iv (k := 125) (pc' := 24) (r := []) dX8_row_21 rfl rfl rfl rfl (by decide) rfl rfl rfl (zr_125 (by omega) h) (zf_kI (fun x17 m18 h => ?_))
      exact zf_ri dX8_row_24 rfl h
  · replace h := h.2 g
    refine zf_ld (pc' := 9) (v := .inr (.inr (1, 63))) dX8_row_8 rfl (fun _ _ _ => rfl) rfl rfl rfl ?_
    refine zf_ic (v := (-1)) (pc' := 10) dX8_row_9 rfl rfl ?_
    refine zf_iv (k := 125) (pc' := 13) (r := []) dX8_row_10 rfl rfl rfl rfl (by decide) rfl rfl rfl (zr_125 (by omega) h) (zf_kI (fun x19 m20 h => ?_))
    exact zf_ri dX8_row_13 rfl h
end
section
/-! part 35: methods 131..: laid by wip/flat/dec.py -/
def zt_131 : zx_MT := (8, yX8_set, cX8_set, 5, (some FieldType.int), 3, 0)
theorem zm_131 : zx_m 131 = zt_131 := rfl
theorem dX8_set_r0 : zdcP cX8_set 0 [(.aload_n 0, 1), (.iload_n 1, 1), (.invokevirtual 111, 3), (.ifCond .ne 9, 3), (.aload_n 0, 1), (.iconst (-1), 1), (.invokevirtual 115, 3), (.ireturn, 1), (.aload_n 0, 1), (.getfield 56, 3), (.iload_n 1, 1), (.iaload, 1), (.iconst 2, 1), (.if_icmp .ne 10, 3), (.aload_n 0, 1), (.bipush (-2), 2)] := zdcA_ok (by decide +kernel)
theorem dX8_set_0 : decode cX8_set 0 = .ok (.aload_n 0, 1) := dX8_set_r0.1
theorem dX8_set_1 : decode cX8_set 1 = .ok (.iload_n 1, 1) := dX8_set_r0.2.1
theorem dX8_set_2 : decode cX8_set 2 = .ok (.invokevirtual 111, 3) := dX8_set_r0.2.2.1
theorem dX8_set_5 : decode cX8_set 5 = .ok (.ifCond .ne 9, 3) := dX8_set_r0.2.2.2.1
theorem dX8_set_8 : decode cX8_set 8 = .ok (.aload_n 0, 1) := dX8_set_r0.2.2.2.2.1
theorem dX8_set_9 : decode cX8_set 9 = .ok (.iconst (-1), 1) := dX8_set_r0.2.2.2.2.2.1
theorem dX8_set_10 : decode cX8_set 10 = .ok (.invokevirtual 115, 3) := dX8_set_r0.2.2.2.2.2.2.1
theorem dX8_set_13 : decode cX8_set 13 = .ok (.ireturn, 1) := dX8_set_r0.2.2.2.2.2.2.2.1
theorem dX8_set_14 : decode cX8_set 14 = .ok (.aload_n 0, 1) := dX8_set_r0.2.2.2.2.2.2.2.2.1
theorem dX8_set_15 : decode cX8_set 15 = .ok (.getfield 56, 3) := dX8_set_r0.2.2.2.2.2.2.2.2.2.1
theorem dX8_set_18 : decode cX8_set 18 = .ok (.iload_n 1, 1) := dX8_set_r0.2.2.2.2.2.2.2.2.2.2.1
theorem dX8_set_19 : decode cX8_set 19 = .ok (.iaload, 1) := dX8_set_r0.2.2.2.2.2.2.2.2.2.2.2.1
theorem dX8_set_20 : decode cX8_set 20 = .ok (.iconst 2, 1) := dX8_set_r0.2.2.2.2.2.2.2.2.2.2.2.2.1
theorem dX8_set_21 : decode cX8_set 21 = .ok (.if_icmp .ne 10, 3) := dX8_set_r0.2.2.2.2.2.2.2.2.2.2.2.2.2.1
theorem dX8_set_24 : decode cX8_set 24 = .ok (.aload_n 0, 1) := dX8_set_r0.2.2.2.2.2.2.2.2.2.2.2.2.2.2.1
theorem dX8_set_25 : decode cX8_set 25 = .ok (.bipush (-2), 2) := dX8_set_r0.2.2.2.2.2.2.2.2.2.2.2.2.2.2.2.1
theorem dX8_set_r27 : zdcP cX8_set 27 [(.invokevirtual 115, 3), (.ireturn, 1), (.aload_n 0, 1), (.getfield 56, 3), (.iload_n 1, 1), (.iaload, 1), (.ifCond .ne 10, 3), (.aload_n 0, 1), (.bipush (-3), 2), (.invokevirtual 115, 3), (.ireturn, 1), (.iload_n 2, 1), (.ifCond .lt 13, 3), (.iload_n 2, 1), (.aload_n 0, 1), (.getfield 62, 3)] := zdcA_ok (by decide +kernel)
theorem dX8_set_27 : decode cX8_set 27 = .ok (.invokevirtual 115, 3) := dX8_set_r27.1
theorem dX8_set_30 : decode cX8_set 30 = .ok (.ireturn, 1) := dX8_set_r27.2.1
theorem dX8_set_31 : decode cX8_set 31 = .ok (.aload_n 0, 1) := dX8_set_r27.2.2.1
theorem dX8_set_32 : decode cX8_set 32 = .ok (.getfield 56, 3) := dX8_set_r27.2.2.2.1
theorem dX8_set_35 : decode cX8_set 35 = .ok (.iload_n 1, 1) := dX8_set_r27.2.2.2.2.1
theorem dX8_set_36 : decode cX8_set 36 = .ok (.iaload, 1) := dX8_set_r27.2.2.2.2.2.1
theorem dX8_set_37 : decode cX8_set 37 = .ok (.ifCond .ne 10, 3) := dX8_set_r27.2.2.2.2.2.2.1
theorem dX8_set_40 : decode cX8_set 40 = .ok (.aload_n 0, 1) := dX8_set_r27.2.2.2.2.2.2.2.1
theorem dX8_set_41 : decode cX8_set 41 = .ok (.bipush (-3), 2) := dX8_set_r27.2.2.2.2.2.2.2.2.1
theorem dX8_set_43 : decode cX8_set 43 = .ok (.invokevirtual 115, 3) := dX8_set_r27.2.2.2.2.2.2.2.2.2.1
theorem dX8_set_46 : decode cX8_set 46 = .ok (.ireturn, 1) := dX8_set_r27.2.2.2.2.2.2.2.2.2.2.1
theorem dX8_set_47 : decode cX8_set 47 = .ok (.iload_n 2, 1) := dX8_set_r27.2.2.2.2.2.2.2.2.2.2.2.1
theorem dX8_set_48 : decode cX8_set 48 = .ok (.ifCond .lt 13, 3) := dX8_set_r27.2.2.2.2.2.2.2.2.2.2.2.2.1
theorem dX8_set_51 : decode cX8_set 51 = .ok (.iload_n 2, 1) := dX8_set_r27.2.2.2.2.2.2.2.2.2.2.2.2.2.1
theorem dX8_set_52 : decode cX8_set 52 = .ok (.aload_n 0, 1) := dX8_set_r27.2.2.2.2.2.2.2.2.2.2.2.2.2.2.1
theorem dX8_set_53 : decode cX8_set 53 = .ok (.getfield 62, 3) := dX8_set_r27.2.2.2.2.2.2.2.2.2.2.2.2.2.2.2.1
theorem dX8_set_r56 : zdcP cX8_set 56 [(.iload_n 1, 1), (.iaload, 1), (.if_icmp .lt 10, 3), (.aload_n 0, 1), (.bipush (-5), 2), (.invokevirtual 115, 3), (.ireturn, 1), (.aload_n 0, 1), (.getfield 68, 3), (.sipush 160, 3), (.iload_n 1, 1), (.imul, 1), (.iload_n 2, 1), (.iadd, 1), (.aload_n 0, 1), (.getfield 59, 3)] := zdcA_ok (by decide +kernel)
theorem dX8_set_56 : decode cX8_set 56 = .ok (.iload_n 1, 1) := dX8_set_r56.1
theorem dX8_set_57 : decode cX8_set 57 = .ok (.iaload, 1) := dX8_set_r56.2.1
theorem dX8_set_58 : decode cX8_set 58 = .ok (.if_icmp .lt 10, 3) := dX8_set_r56.2.2.1
theorem dX8_set_61 : decode cX8_set 61 = .ok (.aload_n 0, 1) := dX8_set_r56.2.2.2.1
theorem dX8_set_62 : decode cX8_set 62 = .ok (.bipush (-5), 2) := dX8_set_r56.2.2.2.2.1
theorem dX8_set_64 : decode cX8_set 64 = .ok (.invokevirtual 115, 3) := dX8_set_r56.2.2.2.2.2.1
theorem dX8_set_67 : decode cX8_set 67 = .ok (.ireturn, 1) := dX8_set_r56.2.2.2.2.2.2.1
theorem dX8_set_68 : decode cX8_set 68 = .ok (.aload_n 0, 1) := dX8_set_r56.2.2.2.2.2.2.2.1
theorem dX8_set_69 : decode cX8_set 69 = .ok (.getfield 68, 3) := dX8_set_r56.2.2.2.2.2.2.2.2.1
theorem dX8_set_72 : decode cX8_set 72 = .ok (.sipush 160, 3) := dX8_set_r56.2.2.2.2.2.2.2.2.2.1
theorem dX8_set_75 : decode cX8_set 75 = .ok (.iload_n 1, 1) := dX8_set_r56.2.2.2.2.2.2.2.2.2.2.1
theorem dX8_set_76 : decode cX8_set 76 = .ok (.imul, 1) := dX8_set_r56.2.2.2.2.2.2.2.2.2.2.2.1
theorem dX8_set_77 : decode cX8_set 77 = .ok (.iload_n 2, 1) := dX8_set_r56.2.2.2.2.2.2.2.2.2.2.2.2.1
theorem dX8_set_78 : decode cX8_set 78 = .ok (.iadd, 1) := dX8_set_r56.2.2.2.2.2.2.2.2.2.2.2.2.2.1
theorem dX8_set_79 : decode cX8_set 79 = .ok (.aload_n 0, 1) := dX8_set_r56.2.2.2.2.2.2.2.2.2.2.2.2.2.2.1
theorem dX8_set_80 : decode cX8_set 80 = .ok (.getfield 59, 3) := dX8_set_r56.2.2.2.2.2.2.2.2.2.2.2.2.2.2.2.1
theorem dX8_set_r83 : zdcP cX8_set 83 [(.iload_n 1, 1), (.iaload, 1), (.ifCond .ne 10, 3), (.lload_n 3, 1), (.l2i, 1), (.i2b, 1), (.i2l, 1), (.goto 37, 3), (.aload_n 0, 1), (.getfield 59, 3), (.iload_n 1, 1), (.iaload, 1), (.iconst 1, 1), (.if_icmp .ne 10, 3), (.lload_n 3, 1), (.l2i, 1)] := zdcA_ok (by decide +kernel)
theorem dX8_set_83 : decode cX8_set 83 = .ok (.iload_n 1, 1) := dX8_set_r83.1
theorem dX8_set_84 : decode cX8_set 84 = .ok (.iaload, 1) := dX8_set_r83.2.1
theorem dX8_set_85 : decode cX8_set 85 = .ok (.ifCond .ne 10, 3) := dX8_set_r83.2.2.1
theorem dX8_set_88 : decode cX8_set 88 = .ok (.lload_n 3, 1) := dX8_set_r83.2.2.2.1
theorem dX8_set_89 : decode cX8_set 89 = .ok (.l2i, 1) := dX8_set_r83.2.2.2.2.1
theorem dX8_set_90 : decode cX8_set 90 = .ok (.i2b, 1) := dX8_set_r83.2.2.2.2.2.1
theorem dX8_set_91 : decode cX8_set 91 = .ok (.i2l, 1) := dX8_set_r83.2.2.2.2.2.2.1
theorem dX8_set_92 : decode cX8_set 92 = .ok (.goto 37, 3) := dX8_set_r83.2.2.2.2.2.2.2.1
theorem dX8_set_95 : decode cX8_set 95 = .ok (.aload_n 0, 1) := dX8_set_r83.2.2.2.2.2.2.2.2.1
theorem dX8_set_96 : decode cX8_set 96 = .ok (.getfield 59, 3) := dX8_set_r83.2.2.2.2.2.2.2.2.2.1
theorem dX8_set_99 : decode cX8_set 99 = .ok (.iload_n 1, 1) := dX8_set_r83.2.2.2.2.2.2.2.2.2.2.1
theorem dX8_set_100 : decode cX8_set 100 = .ok (.iaload, 1) := dX8_set_r83.2.2.2.2.2.2.2.2.2.2.2.1
theorem dX8_set_101 : decode cX8_set 101 = .ok (.iconst 1, 1) := dX8_set_r83.2.2.2.2.2.2.2.2.2.2.2.2.1
theorem dX8_set_102 : decode cX8_set 102 = .ok (.if_icmp .ne 10, 3) := dX8_set_r83.2.2.2.2.2.2.2.2.2.2.2.2.2.1
theorem dX8_set_105 : decode cX8_set 105 = .ok (.lload_n 3, 1) := dX8_set_r83.2.2.2.2.2.2.2.2.2.2.2.2.2.2.1
theorem dX8_set_106 : decode cX8_set 106 = .ok (.l2i, 1) := dX8_set_r83.2.2.2.2.2.2.2.2.2.2.2.2.2.2.2.1
theorem dX8_set_r107 : zdcP cX8_set 107 [(.i2s, 1), (.i2l, 1), (.goto 20, 3), (.aload_n 0, 1), (.getfield 59, 3), (.iload_n 1, 1), (.iaload, 1), (.iconst 2, 1), (.if_icmp .ne 9, 3), (.lload_n 3, 1), (.l2i, 1), (.i2l, 1), (.goto 4, 3), (.lload_n 3, 1), (.lastore, 1), (.iconst 1, 1)] := zdcA_ok (by decide +kernel)
theorem dX8_set_107 : decode cX8_set 107 = .ok (.i2s, 1) := dX8_set_r107.1
theorem dX8_set_108 : decode cX8_set 108 = .ok (.i2l, 1) := dX8_set_r107.2.1
theorem dX8_set_109 : decode cX8_set 109 = .ok (.goto 20, 3) := dX8_set_r107.2.2.1
theorem dX8_set_112 : decode cX8_set 112 = .ok (.aload_n 0, 1) := dX8_set_r107.2.2.2.1
theorem dX8_set_113 : decode cX8_set 113 = .ok (.getfield 59, 3) := dX8_set_r107.2.2.2.2.1
theorem dX8_set_116 : decode cX8_set 116 = .ok (.iload_n 1, 1) := dX8_set_r107.2.2.2.2.2.1
theorem dX8_set_117 : decode cX8_set 117 = .ok (.iaload, 1) := dX8_set_r107.2.2.2.2.2.2.1
theorem dX8_set_118 : decode cX8_set 118 = .ok (.iconst 2, 1) := dX8_set_r107.2.2.2.2.2.2.2.1
theorem dX8_set_119 : decode cX8_set 119 = .ok (.if_icmp .ne 9, 3) := dX8_set_r107.2.2.2.2.2.2.2.2.1
theorem dX8_set_122 : decode cX8_set 122 = .ok (.lload_n 3, 1) := dX8_set_r107.2.2.2.2.2.2.2.2.2.1
theorem dX8_set_123 : decode cX8_set 123 = .ok (.l2i, 1) := dX8_set_r107.2.2.2.2.2.2.2.2.2.2.1
theorem dX8_set_124 : decode cX8_set 124 = .ok (.i2l, 1) := dX8_set_r107.2.2.2.2.2.2.2.2.2.2.2.1
theorem dX8_set_125 : decode cX8_set 125 = .ok (.goto 4, 3) := dX8_set_r107.2.2.2.2.2.2.2.2.2.2.2.2.1
theorem dX8_set_128 : decode cX8_set 128 = .ok (.lload_n 3, 1) := dX8_set_r107.2.2.2.2.2.2.2.2.2.2.2.2.2.1
theorem dX8_set_129 : decode cX8_set 129 = .ok (.lastore, 1) := dX8_set_r107.2.2.2.2.2.2.2.2.2.2.2.2.2.2.1
theorem dX8_set_130 : decode cX8_set 130 = .ok (.iconst 1, 1) := dX8_set_r107.2.2.2.2.2.2.2.2.2.2.2.2.2.2.2.1
theorem dX8_set_131 : decode cX8_set 131 = .ok (.ireturn, 1) := zdc_ok (by decide +kernel)
def wp_131 (v1 : Int32) (v2 : Int32) (v3 : Int64) (m : zf_Me) (Q : Int32 → zf_Me → Prop) : Prop := wp_127 v1 m (fun b1 m2 => ((b1 = true → ((0 ≤ (Int32.toInt v1) ∧ (Int32.toInt v1) < (8 : Int)) ∧ ((¬ ((m2.1 70 (Int32.toInt v1).toNat)).toInt = 2 → ((0 ≤ (Int32.toInt v1) ∧ (Int32.toInt v1) < (8 : Int)) ∧ ((¬ ((m2.1 70 (Int32.toInt v1).toNat)).toInt = 0 → ((v2.toInt < 0 → wp_125 (-5) m2 (fun x3 m4 => Q x3 m4)) ∧ (v2.toInt ≥ 0 → ((0 ≤ (Int32.toInt v1) ∧ (Int32.toInt v1) < (8 : Int)) ∧ ((v2.toInt < ((m2.1 72 (Int32.toInt v1).toNat)).toInt → ((0 ≤ (Int32.toInt v1) ∧ (Int32.toInt v1) < (8 : Int)) ∧ ((¬ ((m2.1 71 (Int32.toInt v1).toNat)).toInt = 0 → ((0 ≤ (Int32.toInt v1) ∧ (Int32.toInt v1) < (8 : Int)) ∧ ((¬ ((m2.1 71 (Int32.toInt v1).toNat)).toInt = 1 → ((0 ≤ (Int32.toInt v1) ∧ (Int32.toInt v1) < (8 : Int)) ∧ ((¬ ((m2.1 71 (Int32.toInt v1).toNat)).toInt = 2 → ((0 ≤ (Int32.toInt ((160 * v1) + v2)) ∧ (Int32.toInt ((160 * v1) + v2)) < (1280 : Int)) ∧ ∀ m5, m5 = zf_ul m2 74 (Int32.toInt ((160 * v1) + v2)).toNat v3 → Q 1 m5)) ∧ (((m2.1 71 (Int32.toInt v1).toNat)).toInt = 2 → ((0 ≤ (Int32.toInt ((160 * v1) + v2)) ∧ (Int32.toInt ((160 * v1) + v2)) < (1280 : Int)) ∧ ∀ m7, m7 = zf_ul m2 74 (Int32.toInt ((160 * v1) + v2)).toNat (Int32.toInt64 (Int64.toInt32 v3)) → Q 1 m7))))) ∧ (((m2.1 71 (Int32.toInt v1).toNat)).toInt = 1 → ((0 ≤ (Int32.toInt ((160 * v1) + v2)) ∧ (Int32.toInt ((160 * v1) + v2)) < (1280 : Int)) ∧ ∀ m9, m9 = zf_ul m2 74 (Int32.toInt ((160 * v1) + v2)).toNat (Int32.toInt64 (Int16.toInt32 (Int32.toInt16 (Int64.toInt32 v3)))) → Q 1 m9))))) ∧ (((m2.1 71 (Int32.toInt v1).toNat)).toInt = 0 → ((0 ≤ (Int32.toInt ((160 * v1) + v2)) ∧ (Int32.toInt ((160 * v1) + v2)) < (1280 : Int)) ∧ ∀ m11, m11 = zf_ul m2 74 (Int32.toInt ((160 * v1) + v2)).toNat (Int32.toInt64 (Int8.toInt32 (Int32.toInt8 (Int64.toInt32 v3)))) → Q 1 m11))))) ∧ (v2.toInt ≥ ((m2.1 72 (Int32.toInt v1).toNat)).toInt → wp_125 (-5) m2 (fun x13 m14 => Q x13 m14))))))) ∧ (((m2.1 70 (Int32.toInt v1).toNat)).toInt = 0 → wp_125 (-3) m2 (fun x15 m16 => Q x15 m16))))) ∧ (((m2.1 70 (Int32.toInt v1).toNat)).toInt = 2 → wp_125 (-2) m2 (fun x17 m18 => Q x17 m18))))) ∧ (b1 = false → wp_125 (-1) m2 (fun x19 m20 => Q x19 m20))))
theorem zr_131 {d : Nat} (hd : 1 ≤ d) {v1 : Int32} {v2 : Int32} {v3 : Int64} {Q : Int32 → zf_Me → Prop} {m : zf_Me} (h : wp_131 v1 v2 v3 m Q) : zf_M d 131 [.inr (.inr (1, 63)), .inl v1, .inl v2, .inr (.inl v3)] m (zf_I Q) := by
  obtain ⟨e, rfl⟩ : ∃ z, d = z + 1 := ⟨d - 1, by omega⟩
  unfold wp_131 at h
  refine zf_M_of (Nat.le_of_ble_eq_true rfl) zm_131 (L := [some (.inr (.inr (1, 63))), some (.inl v1), some (.inl v2), some (.inr (.inl v3)), none]) rfl ?_
  refine zf_ld (pc' := 1) (v := .inr (.inr (1, 63))) dX8_set_0 rfl (fun _ _ _ => rfl) rfl rfl rfl ?_
  refine zf_ld (pc' := 2) (v := .inl v1) dX8_set_1 rfl (fun _ _ _ => rfl) rfl rfl rfl ?_
  refine zf_iv (k := 127) (pc' := 5) (r := []) dX8_set_2 rfl rfl rfl rfl (by decide) rfl rfl rfl (zr_127 (by omega) h) (zf_kB (fun b1 m2 h => ?_))
  refine zf_ib_ne (tgt := 14) (pc' := 8) dX8_set_5 rfl rfl (fun g => ?_) (fun g => ?_)
  · replace h := h.1 g
    refine zf_ld (pc' := 15) (v := .inr (.inr (1, 63))) dX8_set_14 rfl (fun _ _ _ => rfl) rfl rfl rfl ?_
    refine zf_gfr (pc' := 18) (b := 70) dX8_set_15 rfl rfl (by decide) rfl rfl ?_
    refine zf_ld (pc' := 19) (v := .inl v1) dX8_set_18 rfl (fun _ _ _ => rfl) rfl rfl rfl ?_
    refine zf_ial (pc' := 20) dX8_set_19 rfl (⟨by decide, rfl⟩ : zf_arr 70 8).1 (⟨by decide, rfl⟩ : zf_arr 70 8).2 h.1 rfl ?_
    replace h := h.2
    refine zf_ic (v := 2) (pc' := 21) dX8_set_20 rfl rfl ?_
    refine zf_icmp_ne (tgt := 31) (pc' := 24) dX8_set_21 rfl rfl (fun g => ?_) (fun g => ?_)
    · replace h := h.1 g
      refine zf_ld (pc' := 32) (v := .inr (.inr (1, 63))) dX8_set_31 rfl (fun _ _ _ => rfl) rfl rfl rfl ?_
      refine zf_gfr (pc' := 35) (b := 70) dX8_set_32 rfl rfl (by decide) rfl rfl ?_
      refine zf_ld (pc' := 36) (v := .inl v1) dX8_set_35 rfl (fun _ _ _ => rfl) rfl rfl rfl ?_
      refine zf_ial (pc' := 37) dX8_set_36 rfl (⟨by decide, rfl⟩ : zf_arr 70 8).1 (⟨by decide, rfl⟩ : zf_arr 70 8).2 h.1 rfl ?_
      replace h := h.2
      refine zf_if_ne (tgt := 47) (pc' := 40) dX8_set_37 rfl rfl (fun g => ?_) (fun g => ?_)
      · replace h := h.1 g
        refine zf_ld (pc' := 48) (v := .inl v2) dX8_set_47 rfl (fun _ _ _ => rfl) rfl rfl rfl ?_
        refine zf_if_lt (tgt := 61) (pc' := 51) dX8_set_48 rfl rfl (fun g => ?_) (fun g => ?_)
        · replace h := h.1 g
          refine zf_ld (pc' := 62) (v := .inr (.inr (1, 63))) dX8_set_61 rfl (fun _ _ _ => rfl) rfl rfl rfl ?_
          refine zf_bi (v := (-5)) (pc' := 64) dX8_set_62 rfl rfl ?_
          refine zf_iv (k := 125) (pc' := 67) (r := []) dX8_set_64 rfl rfl rfl rfl (by decide) rfl rfl rfl (zr_125 (by omega) h) (zf_kI (fun x3 m4 h => ?_))
          exact zf_ri dX8_set_67 rfl h
        · replace h := h.2 g
          refine zf_ld (pc' := 52) (v := .inl v2) dX8_set_51 rfl (fun _ _ _ => rfl) rfl rfl rfl ?_
          refine zf_ld (pc' := 53) (v := .inr (.inr (1, 63))) dX8_set_52 rfl (fun _ _ _ => rfl) rfl rfl rfl ?_
          refine zf_gfr (pc' := 56) (b := 72) dX8_set_53 rfl rfl (by decide) rfl rfl ?_
          refine zf_ld (pc' := 57) (v := .inl v1) dX8_set_56 rfl (fun _ _ _ => rfl) rfl rfl rfl ?_
          refine zf_ial (pc' := 58) dX8_set_57 rfl (⟨by decide, rfl⟩ : zf_arr 72 8).1 (⟨by decide, rfl⟩ : zf_arr 72 8).2 h.1 rfl ?_
          replace h := h.2
          refine zf_icmp_lt (tgt := 68) (pc' := 61) dX8_set_58 rfl rfl (fun g => ?_) (fun g => ?_)
          · replace h := h.1 g
            refine zf_ld (pc' := 69) (v := .inr (.inr (1, 63))) dX8_set_68 rfl (fun _ _ _ => rfl) rfl rfl rfl ?_
            refine zf_gfr (pc' := 72) (b := 74) dX8_set_69 rfl rfl (by decide) rfl rfl ?_
            refine zf_si (v := 160) (pc' := 75) dX8_set_72 rfl rfl ?_
            refine zf_ld (pc' := 76) (v := .inl v1) dX8_set_75 rfl (fun _ _ _ => rfl) rfl rfl rfl ?_
            refine zf_in (pc' := 77) (S' := [.inl (160 * v1), .inr (.inr (1, 74))]) dX8_set_76 rfl (fun _ _ _ => rfl) ?_
            refine zf_ld (pc' := 78) (v := .inl v2) dX8_set_77 rfl (fun _ _ _ => rfl) rfl rfl rfl ?_
            refine zf_in (pc' := 79) (S' := [.inl ((160 * v1) + v2), .inr (.inr (1, 74))]) dX8_set_78 rfl (fun _ _ _ => rfl) ?_
            refine zf_ld (pc' := 80) (v := .inr (.inr (1, 63))) dX8_set_79 rfl (fun _ _ _ => rfl) rfl rfl rfl ?_
            refine zf_gfr (pc' := 83) (b := 71) dX8_set_80 rfl rfl (by decide) rfl rfl ?_
            refine zf_ld (pc' := 84) (v := .inl v1) dX8_set_83 rfl (fun _ _ _ => rfl) rfl rfl rfl ?_
            refine zf_ial (pc' := 85) dX8_set_84 rfl (⟨by decide, rfl⟩ : zf_arr 71 8).1 (⟨by decide, rfl⟩ : zf_arr 71 8).2 h.1 rfl ?_
            replace h := h.2
            refine zf_if_ne (tgt := 95) (pc' := 88) dX8_set_85 rfl rfl (fun g => ?_) (fun g => ?_)
            · replace h := h.1 g
              refine zf_ld (pc' := 96) (v := .inr (.inr (1, 63))) dX8_set_95 rfl (fun _ _ _ => rfl) rfl rfl rfl ?_
              refine zf_gfr (pc' := 99) (b := 71) dX8_set_96 rfl rfl (by decide) rfl rfl ?_
              refine zf_ld (pc' := 100) (v := .inl v1) dX8_set_99 rfl (fun _ _ _ => rfl) rfl rfl rfl ?_
              refine zf_ial (pc' := 101) dX8_set_100 rfl (⟨by decide, rfl⟩ : zf_arr 71 8).1 (⟨by decide, rfl⟩ : zf_arr 71 8).2 h.1 rfl ?_
              replace h := h.2
              refine zf_ic (v := 1) (pc' := 102) dX8_set_101 rfl rfl ?_
              refine zf_icmp_ne (tgt := 112) (pc' := 105) dX8_set_102 rfl rfl (fun g => ?_) (fun g => ?_)
              · replace h := h.1 g
                refine zf_ld (pc' := 113) (v := .inr (.inr (1, 63))) dX8_set_112 rfl (fun _ _ _ => rfl) rfl rfl rfl ?_
                refine zf_gfr (pc' := 116) (b := 71) dX8_set_113 rfl rfl (by decide) rfl rfl ?_
                refine zf_ld (pc' := 117) (v := .inl v1) dX8_set_116 rfl (fun _ _ _ => rfl) rfl rfl rfl ?_
                refine zf_ial (pc' := 118) dX8_set_117 rfl (⟨by decide, rfl⟩ : zf_arr 71 8).1 (⟨by decide, rfl⟩ : zf_arr 71 8).2 h.1 rfl ?_
                replace h := h.2
                refine zf_ic (v := 2) (pc' := 119) dX8_set_118 rfl rfl ?_
                refine zf_icmp_ne (tgt := 128) (pc' := 122) dX8_set_119 rfl rfl (fun g => ?_) (fun g => ?_)
                · replace h := h.1 g
                  refine zf_ld (pc' := 129) (v := .inr (.inl v3)) dX8_set_128 rfl (fun _ _ _ => rfl) rfl rfl rfl ?_
                  refine zf_las (pc' := 130) dX8_set_129 rfl (⟨by decide, rfl⟩ : zf_larr 74 1280).1 (⟨by decide, rfl⟩ : zf_larr 74 1280).2 h.1 rfl (fun m5 e6 => ?_)
                  replace h := h.2 m5 e6
                  refine zf_ic (v := 1) (pc' := 131) dX8_set_130 rfl rfl ?_
                  exact zf_ri dX8_set_131 rfl h
                · replace h := h.2 g
                  refine zf_ld (pc' := 123) (v := .inr (.inl v3)) dX8_set_122 rfl (fun _ _ _ => rfl) rfl rfl rfl ?_
                  refine zf_in (pc' := 124) (S' := [.inl (Int64.toInt32 v3), .inl ((160 * v1) + v2), .inr (.inr (1, 74))]) dX8_set_123 rfl (fun _ _ _ => rfl) ?_
                  refine zf_in (pc' := 125) (S' := [.inr (.inl (Int32.toInt64 (Int64.toInt32 v3))), .inl ((160 * v1) + v2), .inr (.inr (1, 74))]) dX8_set_124 rfl (fun _ _ _ => rfl) ?_
                  refine zf_goto (tgt := 129) dX8_set_125 rfl ?_
                  refine zf_las (pc' := 130) dX8_set_129 rfl (⟨by decide, rfl⟩ : zf_larr 74 1280).1 (⟨by decide, rfl⟩ : zf_larr 74 1280).2 h.1 rfl (fun m7 e8 => ?_)
                  replace h := h.2 m7 e8
                  refine zf_ic (v := 1) (pc' := 131) dX8_set_130 rfl rfl ?_
                  exact zf_ri dX8_set_131 rfl h
              · replace h := h.2 g
                refine zf_ld (pc' := 106) (v := .inr (.inl v3)) dX8_set_105 rfl (fun _ _ _ => rfl) rfl rfl rfl ?_
                refine zf_in (pc' := 107) (S' := [.inl (Int64.toInt32 v3), .inl ((160 * v1) + v2), .inr (.inr (1, 74))]) dX8_set_106 rfl (fun _ _ _ => rfl) ?_
                refine zf_in (pc' := 108) (S' := [.inl (Int16.toInt32 (Int32.toInt16 (Int64.toInt32 v3))), .inl ((160 * v1) + v2), .inr (.inr (1, 74))]) dX8_set_107 rfl (fun _ _ _ => rfl) ?_
                refine zf_in (pc' := 109) (S' := [.inr (.inl (Int32.toInt64 (Int16.toInt32 (Int32.toInt16 (Int64.toInt32 v3))))), .inl ((160 * v1) + v2), .inr (.inr (1, 74))]) dX8_set_108 rfl (fun _ _ _ => rfl) ?_
                refine zf_goto (tgt := 129) dX8_set_109 rfl ?_
                refine zf_las (pc' := 130) dX8_set_129 rfl (⟨by decide, rfl⟩ : zf_larr 74 1280).1 (⟨by decide, rfl⟩ : zf_larr 74 1280).2 h.1 rfl (fun m9 e10 => ?_)
                replace h := h.2 m9 e10
                refine zf_ic (v := 1) (pc' := 131) dX8_set_130 rfl rfl ?_
                exact zf_ri dX8_set_131 rfl h
            · replace h := h.2 g
              refine zf_ld (pc' := 89) (v := .inr (.inl v3)) dX8_set_88 rfl (fun _ _ _ => rfl) rfl rfl rfl ?_
              refine zf_in (pc' := 90) (S' := [.inl (Int64.toInt32 v3), .inl ((160 * v1) + v2), .inr (.inr (1, 74))]) dX8_set_89 rfl (fun _ _ _ => rfl) ?_
              refine zf_in (pc' := 91) (S' := [.inl (Int8.toInt32 (Int32.toInt8 (Int64.toInt32 v3))), .inl ((160 * v1) + v2), .inr (.inr (1, 74))]) dX8_set_90 rfl (fun _ _ _ => rfl) ?_
              refine zf_in (pc' := 92) (S' := [.inr (.inl (Int32.toInt64 (Int8.toInt32 (Int32.toInt8 (Int64.toInt32 v3))))), .inl ((160 * v1) + v2), .inr (.inr (1, 74))]) dX8_set_91 rfl (fun _ _ _ => rfl) ?_
              refine zf_goto (tgt := 129) dX8_set_92 rfl ?_
              refine zf_las (pc' := 130) dX8_set_129 rfl (⟨by decide, rfl⟩ : zf_larr 74 1280).1 (⟨by decide, rfl⟩ : zf_larr 74 1280).2 h.1 rfl (fun m11 e12 => ?_)
              replace h := h.2 m11 e12
              refine zf_ic (v := 1) (pc' := 131) dX8_set_130 rfl rfl ?_
              exact zf_ri dX8_set_131 rfl h
          · replace h := h.2 g
            refine zf_ld (pc' := 62) (v := .inr (.inr (1, 63))) dX8_set_61 rfl (fun _ _ _ => rfl) rfl rfl rfl ?_
            refine zf_bi (v := (-5)) (pc' := 64) dX8_set_62 rfl rfl ?_
            refine zf_iv (k := 125) (pc' := 67) (r := []) dX8_set_64 rfl rfl rfl rfl (by decide) rfl rfl rfl (zr_125 (by omega) h) (zf_kI (fun x13 m14 h => ?_))
            exact zf_ri dX8_set_67 rfl h
      · replace h := h.2 g
        refine zf_ld (pc' := 41) (v := .inr (.inr (1, 63))) dX8_set_40 rfl (fun _ _ _ => rfl) rfl rfl rfl ?_
        refine zf_bi (v := (-3)) (pc' := 43) dX8_set_41 rfl rfl ?_
        refine zf_iv (k := 125) (pc' := 46) (r := []) dX8_set_43 rfl rfl rfl rfl (by decide) rfl rfl rfl (zr_125 (by omega) h) (zf_kI (fun x15 m16 h => ?_))
        exact zf_ri dX8_set_46 rfl h
    · replace h := h.2 g
      refine zf_ld (pc' := 25) (v := .inr (.inr (1, 63))) dX8_set_24 rfl (fun _ _ _ => rfl) rfl rfl rfl ?_
      refine zf_bi (v := (-2)) (pc' := 27) dX8_set_25 rfl rfl ?_
      refine zf_iv (k := 125) (pc' := 30) (r := []) dX8_set_27 rfl rfl rfl rfl (by decide) rfl rfl rfl (zr_125 (by omega) h) (zf_kI (fun x17 m18 h => ?_))
      exact zf_ri dX8_set_30 rfl h
  · replace h := h.2 g
    refine zf_ld (pc' := 9) (v := .inr (.inr (1, 63))) dX8_set_8 rfl (fun _ _ _ => rfl) rfl rfl rfl ?_
    refine zf_ic (v := (-1)) (pc' := 10) dX8_set_9 rfl rfl ?_
    refine zf_iv (k := 125) (pc' := 13) (r := []) dX8_set_10 rfl rfl rfl rfl (by decide) rfl rfl rfl (zr_125 (by omega) h) (zf_kI (fun x19 m20 h => ?_))
    exact zf_ri dX8_set_13 rfl h
def zt_132 : zx_MT := (8, yX8_copy, cX8_copy, 7, (some FieldType.int), 5, 0)
theorem zm_132 : zx_m 132 = zt_132 := rfl
theorem dX8_copy_r0 : zdcP cX8_copy 0 [(.aload_n 0, 1), (.iload_n 1, 1), (.invokevirtual 111, 3), (.ifCond .eq 11, 3), (.aload_n 0, 1), (.iload_n 2, 1), (.invokevirtual 111, 3), (.ifCond .ne 9, 3), (.aload_n 0, 1), (.iconst (-1), 1), (.invokevirtual 115, 3), (.ireturn, 1), (.aload_n 0, 1), (.getfield 56, 3), (.iload_n 1, 1), (.iaload, 1)] := zdcA_ok (by decide +kernel)
theorem dX8_copy_0 : decode cX8_copy 0 = .ok (.aload_n 0, 1) := dX8_copy_r0.1
theorem dX8_copy_1 : decode cX8_copy 1 = .ok (.iload_n 1, 1) := dX8_copy_r0.2.1
theorem dX8_copy_2 : decode cX8_copy 2 = .ok (.invokevirtual 111, 3) := dX8_copy_r0.2.2.1
theorem dX8_copy_5 : decode cX8_copy 5 = .ok (.ifCond .eq 11, 3) := dX8_copy_r0.2.2.2.1
theorem dX8_copy_8 : decode cX8_copy 8 = .ok (.aload_n 0, 1) := dX8_copy_r0.2.2.2.2.1
theorem dX8_copy_9 : decode cX8_copy 9 = .ok (.iload_n 2, 1) := dX8_copy_r0.2.2.2.2.2.1
theorem dX8_copy_10 : decode cX8_copy 10 = .ok (.invokevirtual 111, 3) := dX8_copy_r0.2.2.2.2.2.2.1
theorem dX8_copy_13 : decode cX8_copy 13 = .ok (.ifCond .ne 9, 3) := dX8_copy_r0.2.2.2.2.2.2.2.1
theorem dX8_copy_16 : decode cX8_copy 16 = .ok (.aload_n 0, 1) := dX8_copy_r0.2.2.2.2.2.2.2.2.1
theorem dX8_copy_17 : decode cX8_copy 17 = .ok (.iconst (-1), 1) := dX8_copy_r0.2.2.2.2.2.2.2.2.2.1
theorem dX8_copy_18 : decode cX8_copy 18 = .ok (.invokevirtual 115, 3) := dX8_copy_r0.2.2.2.2.2.2.2.2.2.2.1
theorem dX8_copy_21 : decode cX8_copy 21 = .ok (.ireturn, 1) := dX8_copy_r0.2.2.2.2.2.2.2.2.2.2.2.1
theorem dX8_copy_22 : decode cX8_copy 22 = .ok (.aload_n 0, 1) := dX8_copy_r0.2.2.2.2.2.2.2.2.2.2.2.2.1
theorem dX8_copy_23 : decode cX8_copy 23 = .ok (.getfield 56, 3) := dX8_copy_r0.2.2.2.2.2.2.2.2.2.2.2.2.2.1
theorem dX8_copy_26 : decode cX8_copy 26 = .ok (.iload_n 1, 1) := dX8_copy_r0.2.2.2.2.2.2.2.2.2.2.2.2.2.2.1
theorem dX8_copy_27 : decode cX8_copy 27 = .ok (.iaload, 1) := dX8_copy_r0.2.2.2.2.2.2.2.2.2.2.2.2.2.2.2.1
theorem dX8_copy_r28 : zdcP cX8_copy 28 [(.iconst 2, 1), (.if_icmp .eq 48, 3), (.aload_n 0, 1), (.getfield 56, 3), (.iload_n 2, 1), (.iaload, 1), (.iconst 2, 1), (.if_icmp .eq 38, 3), (.aload_n 0, 1), (.getfield 56, 3), (.iload_n 1, 1), (.iaload, 1), (.iconst 1, 1), (.if_icmp .ne 35, 3), (.aload_n 0, 1), (.getfield 56, 3)] := zdcA_ok (by decide +kernel)
theorem dX8_copy_28 : decode cX8_copy 28 = .ok (.iconst 2, 1) := dX8_copy_r28.1
theorem dX8_copy_29 : decode cX8_copy 29 = .ok (.if_icmp .eq 48, 3) := dX8_copy_r28.2.1
theorem dX8_copy_32 : decode cX8_copy 32 = .ok (.aload_n 0, 1) := dX8_copy_r28.2.2.1
theorem dX8_copy_33 : decode cX8_copy 33 = .ok (.getfield 56, 3) := dX8_copy_r28.2.2.2.1
theorem dX8_copy_36 : decode cX8_copy 36 = .ok (.iload_n 2, 1) := dX8_copy_r28.2.2.2.2.1
theorem dX8_copy_37 : decode cX8_copy 37 = .ok (.iaload, 1) := dX8_copy_r28.2.2.2.2.2.1
theorem dX8_copy_38 : decode cX8_copy 38 = .ok (.iconst 2, 1) := dX8_copy_r28.2.2.2.2.2.2.1
theorem dX8_copy_39 : decode cX8_copy 39 = .ok (.if_icmp .eq 38, 3) := dX8_copy_r28.2.2.2.2.2.2.2.1
theorem dX8_copy_42 : decode cX8_copy 42 = .ok (.aload_n 0, 1) := dX8_copy_r28.2.2.2.2.2.2.2.2.1
theorem dX8_copy_43 : decode cX8_copy 43 = .ok (.getfield 56, 3) := dX8_copy_r28.2.2.2.2.2.2.2.2.2.1
theorem dX8_copy_46 : decode cX8_copy 46 = .ok (.iload_n 1, 1) := dX8_copy_r28.2.2.2.2.2.2.2.2.2.2.1
theorem dX8_copy_47 : decode cX8_copy 47 = .ok (.iaload, 1) := dX8_copy_r28.2.2.2.2.2.2.2.2.2.2.2.1
theorem dX8_copy_48 : decode cX8_copy 48 = .ok (.iconst 1, 1) := dX8_copy_r28.2.2.2.2.2.2.2.2.2.2.2.2.1
theorem dX8_copy_49 : decode cX8_copy 49 = .ok (.if_icmp .ne 35, 3) := dX8_copy_r28.2.2.2.2.2.2.2.2.2.2.2.2.2.1
theorem dX8_copy_52 : decode cX8_copy 52 = .ok (.aload_n 0, 1) := dX8_copy_r28.2.2.2.2.2.2.2.2.2.2.2.2.2.2.1
theorem dX8_copy_53 : decode cX8_copy 53 = .ok (.getfield 56, 3) := dX8_copy_r28.2.2.2.2.2.2.2.2.2.2.2.2.2.2.2.1
theorem dX8_copy_r56 : zdcP cX8_copy 56 [(.iload_n 2, 1), (.iaload, 1), (.iconst 1, 1), (.if_icmp .ne 25, 3), (.aload_n 0, 1), (.getfield 59, 3), (.iload_n 1, 1), (.iaload, 1), (.aload_n 0, 1), (.getfield 59, 3), (.iload_n 2, 1), (.iaload, 1), (.if_icmp .eq 10, 3), (.aload_n 0, 1), (.bipush (-2), 2), (.invokevirtual 115, 3)] := zdcA_ok (by decide +kernel)
theorem dX8_copy_56 : decode cX8_copy 56 = .ok (.iload_n 2, 1) := dX8_copy_r56.1
theorem dX8_copy_57 : decode cX8_copy 57 = .ok (.iaload, 1) := dX8_copy_r56.2.1
theorem dX8_copy_58 : decode cX8_copy 58 = .ok (.iconst 1, 1) := dX8_copy_r56.2.2.1
theorem dX8_copy_59 : decode cX8_copy 59 = .ok (.if_icmp .ne 25, 3) := dX8_copy_r56.2.2.2.1
theorem dX8_copy_62 : decode cX8_copy 62 = .ok (.aload_n 0, 1) := dX8_copy_r56.2.2.2.2.1
theorem dX8_copy_63 : decode cX8_copy 63 = .ok (.getfield 59, 3) := dX8_copy_r56.2.2.2.2.2.1
theorem dX8_copy_66 : decode cX8_copy 66 = .ok (.iload_n 1, 1) := dX8_copy_r56.2.2.2.2.2.2.1
theorem dX8_copy_67 : decode cX8_copy 67 = .ok (.iaload, 1) := dX8_copy_r56.2.2.2.2.2.2.2.1
theorem dX8_copy_68 : decode cX8_copy 68 = .ok (.aload_n 0, 1) := dX8_copy_r56.2.2.2.2.2.2.2.2.1
theorem dX8_copy_69 : decode cX8_copy 69 = .ok (.getfield 59, 3) := dX8_copy_r56.2.2.2.2.2.2.2.2.2.1
theorem dX8_copy_72 : decode cX8_copy 72 = .ok (.iload_n 2, 1) := dX8_copy_r56.2.2.2.2.2.2.2.2.2.2.1
theorem dX8_copy_73 : decode cX8_copy 73 = .ok (.iaload, 1) := dX8_copy_r56.2.2.2.2.2.2.2.2.2.2.2.1
theorem dX8_copy_74 : decode cX8_copy 74 = .ok (.if_icmp .eq 10, 3) := dX8_copy_r56.2.2.2.2.2.2.2.2.2.2.2.2.1
theorem dX8_copy_77 : decode cX8_copy 77 = .ok (.aload_n 0, 1) := dX8_copy_r56.2.2.2.2.2.2.2.2.2.2.2.2.2.1
theorem dX8_copy_78 : decode cX8_copy 78 = .ok (.bipush (-2), 2) := dX8_copy_r56.2.2.2.2.2.2.2.2.2.2.2.2.2.2.1
theorem dX8_copy_80 : decode cX8_copy 80 = .ok (.invokevirtual 115, 3) := dX8_copy_r56.2.2.2.2.2.2.2.2.2.2.2.2.2.2.2.1
theorem dX8_copy_r83 : zdcP cX8_copy 83 [(.ireturn, 1), (.aload_n 0, 1), (.getfield 56, 3), (.iload_n 1, 1), (.iaload, 1), (.ifCond .eq 12, 3), (.aload_n 0, 1), (.getfield 56, 3), (.iload_n 2, 1), (.iaload, 1), (.ifCond .ne 10, 3), (.aload_n 0, 1), (.bipush (-3), 2), (.invokevirtual 115, 3), (.ireturn, 1), (.iload 5, 2)] := zdcA_ok (by decide +kernel)
theorem dX8_copy_83 : decode cX8_copy 83 = .ok (.ireturn, 1) := dX8_copy_r83.1
theorem dX8_copy_84 : decode cX8_copy 84 = .ok (.aload_n 0, 1) := dX8_copy_r83.2.1
theorem dX8_copy_85 : decode cX8_copy 85 = .ok (.getfield 56, 3) := dX8_copy_r83.2.2.1
theorem dX8_copy_88 : decode cX8_copy 88 = .ok (.iload_n 1, 1) := dX8_copy_r83.2.2.2.1
theorem dX8_copy_89 : decode cX8_copy 89 = .ok (.iaload, 1) := dX8_copy_r83.2.2.2.2.1
theorem dX8_copy_90 : decode cX8_copy 90 = .ok (.ifCond .eq 12, 3) := dX8_copy_r83.2.2.2.2.2.1
theorem dX8_copy_93 : decode cX8_copy 93 = .ok (.aload_n 0, 1) := dX8_copy_r83.2.2.2.2.2.2.1
theorem dX8_copy_94 : decode cX8_copy 94 = .ok (.getfield 56, 3) := dX8_copy_r83.2.2.2.2.2.2.2.1
theorem dX8_copy_97 : decode cX8_copy 97 = .ok (.iload_n 2, 1) := dX8_copy_r83.2.2.2.2.2.2.2.2.1
theorem dX8_copy_98 : decode cX8_copy 98 = .ok (.iaload, 1) := dX8_copy_r83.2.2.2.2.2.2.2.2.2.1
theorem dX8_copy_99 : decode cX8_copy 99 = .ok (.ifCond .ne 10, 3) := dX8_copy_r83.2.2.2.2.2.2.2.2.2.2.1
theorem dX8_copy_102 : decode cX8_copy 102 = .ok (.aload_n 0, 1) := dX8_copy_r83.2.2.2.2.2.2.2.2.2.2.2.1
theorem dX8_copy_103 : decode cX8_copy 103 = .ok (.bipush (-3), 2) := dX8_copy_r83.2.2.2.2.2.2.2.2.2.2.2.2.1
theorem dX8_copy_105 : decode cX8_copy 105 = .ok (.invokevirtual 115, 3) := dX8_copy_r83.2.2.2.2.2.2.2.2.2.2.2.2.2.1
theorem dX8_copy_108 : decode cX8_copy 108 = .ok (.ireturn, 1) := dX8_copy_r83.2.2.2.2.2.2.2.2.2.2.2.2.2.2.1
theorem dX8_copy_109 : decode cX8_copy 109 = .ok (.iload 5, 2) := dX8_copy_r83.2.2.2.2.2.2.2.2.2.2.2.2.2.2.2.1
theorem dX8_copy_r111 : zdcP cX8_copy 111 [(.ifCond .ge 10, 3), (.aload_n 0, 1), (.bipush (-4), 2), (.invokevirtual 115, 3), (.ireturn, 1), (.iload_n 3, 1), (.ifCond .lt 35, 3), (.iload 4, 2), (.ifCond .lt 30, 3), (.iload_n 3, 1), (.aload_n 0, 1), (.getfield 62, 3), (.iload_n 1, 1), (.iaload, 1), (.iload 5, 2), (.isub, 1)] := zdcA_ok (by decide +kernel)
theorem dX8_copy_111 : decode cX8_copy 111 = .ok (.ifCond .ge 10, 3) := dX8_copy_r111.1
theorem dX8_copy_114 : decode cX8_copy 114 = .ok (.aload_n 0, 1) := dX8_copy_r111.2.1
theorem dX8_copy_115 : decode cX8_copy 115 = .ok (.bipush (-4), 2) := dX8_copy_r111.2.2.1
theorem dX8_copy_117 : decode cX8_copy 117 = .ok (.invokevirtual 115, 3) := dX8_copy_r111.2.2.2.1
theorem dX8_copy_120 : decode cX8_copy 120 = .ok (.ireturn, 1) := dX8_copy_r111.2.2.2.2.1
theorem dX8_copy_121 : decode cX8_copy 121 = .ok (.iload_n 3, 1) := dX8_copy_r111.2.2.2.2.2.1
theorem dX8_copy_122 : decode cX8_copy 122 = .ok (.ifCond .lt 35, 3) := dX8_copy_r111.2.2.2.2.2.2.1
theorem dX8_copy_125 : decode cX8_copy 125 = .ok (.iload 4, 2) := dX8_copy_r111.2.2.2.2.2.2.2.1
theorem dX8_copy_127 : decode cX8_copy 127 = .ok (.ifCond .lt 30, 3) := dX8_copy_r111.2.2.2.2.2.2.2.2.1
theorem dX8_copy_130 : decode cX8_copy 130 = .ok (.iload_n 3, 1) := dX8_copy_r111.2.2.2.2.2.2.2.2.2.1
theorem dX8_copy_131 : decode cX8_copy 131 = .ok (.aload_n 0, 1) := dX8_copy_r111.2.2.2.2.2.2.2.2.2.2.1
theorem dX8_copy_132 : decode cX8_copy 132 = .ok (.getfield 62, 3) := dX8_copy_r111.2.2.2.2.2.2.2.2.2.2.2.1
theorem dX8_copy_135 : decode cX8_copy 135 = .ok (.iload_n 1, 1) := dX8_copy_r111.2.2.2.2.2.2.2.2.2.2.2.2.1
theorem dX8_copy_136 : decode cX8_copy 136 = .ok (.iaload, 1) := dX8_copy_r111.2.2.2.2.2.2.2.2.2.2.2.2.2.1
theorem dX8_copy_137 : decode cX8_copy 137 = .ok (.iload 5, 2) := dX8_copy_r111.2.2.2.2.2.2.2.2.2.2.2.2.2.2.1
theorem dX8_copy_139 : decode cX8_copy 139 = .ok (.isub, 1) := dX8_copy_r111.2.2.2.2.2.2.2.2.2.2.2.2.2.2.2.1
theorem dX8_copy_r140 : zdcP cX8_copy 140 [(.if_icmp .gt 17, 3), (.iload 4, 2), (.aload_n 0, 1), (.getfield 62, 3), (.iload_n 2, 1), (.iaload, 1), (.iload 5, 2), (.isub, 1), (.if_icmp .le 10, 3), (.aload_n 0, 1), (.bipush (-5), 2), (.invokevirtual 115, 3), (.ireturn, 1), (.iconst 0, 1), (.istore 6, 2), (.iload 6, 2)] := zdcA_ok (by decide +kernel)
theorem dX8_copy_140 : decode cX8_copy 140 = .ok (.if_icmp .gt 17, 3) := dX8_copy_r140.1
theorem dX8_copy_143 : decode cX8_copy 143 = .ok (.iload 4, 2) := dX8_copy_r140.2.1
theorem dX8_copy_145 : decode cX8_copy 145 = .ok (.aload_n 0, 1) := dX8_copy_r140.2.2.1
theorem dX8_copy_146 : decode cX8_copy 146 = .ok (.getfield 62, 3) := dX8_copy_r140.2.2.2.1
theorem dX8_copy_149 : decode cX8_copy 149 = .ok (.iload_n 2, 1) := dX8_copy_r140.2.2.2.2.1
theorem dX8_copy_150 : decode cX8_copy 150 = .ok (.iaload, 1) := dX8_copy_r140.2.2.2.2.2.1
theorem dX8_copy_151 : decode cX8_copy 151 = .ok (.iload 5, 2) := dX8_copy_r140.2.2.2.2.2.2.1
theorem dX8_copy_153 : decode cX8_copy 153 = .ok (.isub, 1) := dX8_copy_r140.2.2.2.2.2.2.2.1
theorem dX8_copy_154 : decode cX8_copy 154 = .ok (.if_icmp .le 10, 3) := dX8_copy_r140.2.2.2.2.2.2.2.2.1
theorem dX8_copy_157 : decode cX8_copy 157 = .ok (.aload_n 0, 1) := dX8_copy_r140.2.2.2.2.2.2.2.2.2.1
theorem dX8_copy_158 : decode cX8_copy 158 = .ok (.bipush (-5), 2) := dX8_copy_r140.2.2.2.2.2.2.2.2.2.2.1
theorem dX8_copy_160 : decode cX8_copy 160 = .ok (.invokevirtual 115, 3) := dX8_copy_r140.2.2.2.2.2.2.2.2.2.2.2.1
theorem dX8_copy_163 : decode cX8_copy 163 = .ok (.ireturn, 1) := dX8_copy_r140.2.2.2.2.2.2.2.2.2.2.2.2.1
theorem dX8_copy_164 : decode cX8_copy 164 = .ok (.iconst 0, 1) := dX8_copy_r140.2.2.2.2.2.2.2.2.2.2.2.2.2.1
theorem dX8_copy_165 : decode cX8_copy 165 = .ok (.istore 6, 2) := dX8_copy_r140.2.2.2.2.2.2.2.2.2.2.2.2.2.2.1
theorem dX8_copy_167 : decode cX8_copy 167 = .ok (.iload 6, 2) := dX8_copy_r140.2.2.2.2.2.2.2.2.2.2.2.2.2.2.2.1
theorem dX8_copy_r169 : zdcP cX8_copy 169 [(.iload 5, 2), (.if_icmp .ge 31, 3), (.aload_n 0, 1), (.getfield 72, 3), (.iload 6, 2), (.aload_n 0, 1), (.getfield 68, 3), (.sipush 160, 3), (.iload_n 1, 1), (.imul, 1), (.iload_n 3, 1), (.iadd, 1), (.iload 6, 2), (.iadd, 1), (.laload, 1), (.lastore, 1)] := zdcA_ok (by decide +kernel)
theorem dX8_copy_169 : decode cX8_copy 169 = .ok (.iload 5, 2) := dX8_copy_r169.1
theorem dX8_copy_171 : decode cX8_copy 171 = .ok (.if_icmp .ge 31, 3) := dX8_copy_r169.2.1
theorem dX8_copy_174 : decode cX8_copy 174 = .ok (.aload_n 0, 1) := dX8_copy_r169.2.2.1
theorem dX8_copy_175 : decode cX8_copy 175 = .ok (.getfield 72, 3) := dX8_copy_r169.2.2.2.1
theorem dX8_copy_178 : decode cX8_copy 178 = .ok (.iload 6, 2) := dX8_copy_r169.2.2.2.2.1
theorem dX8_copy_180 : decode cX8_copy 180 = .ok (.aload_n 0, 1) := dX8_copy_r169.2.2.2.2.2.1
theorem dX8_copy_181 : decode cX8_copy 181 = .ok (.getfield 68, 3) := dX8_copy_r169.2.2.2.2.2.2.1
theorem dX8_copy_184 : decode cX8_copy 184 = .ok (.sipush 160, 3) := dX8_copy_r169.2.2.2.2.2.2.2.1
theorem dX8_copy_187 : decode cX8_copy 187 = .ok (.iload_n 1, 1) := dX8_copy_r169.2.2.2.2.2.2.2.2.1
theorem dX8_copy_188 : decode cX8_copy 188 = .ok (.imul, 1) := dX8_copy_r169.2.2.2.2.2.2.2.2.2.1
theorem dX8_copy_189 : decode cX8_copy 189 = .ok (.iload_n 3, 1) := dX8_copy_r169.2.2.2.2.2.2.2.2.2.2.1
theorem dX8_copy_190 : decode cX8_copy 190 = .ok (.iadd, 1) := dX8_copy_r169.2.2.2.2.2.2.2.2.2.2.2.1
theorem dX8_copy_191 : decode cX8_copy 191 = .ok (.iload 6, 2) := dX8_copy_r169.2.2.2.2.2.2.2.2.2.2.2.2.1
theorem dX8_copy_193 : decode cX8_copy 193 = .ok (.iadd, 1) := dX8_copy_r169.2.2.2.2.2.2.2.2.2.2.2.2.2.1
theorem dX8_copy_194 : decode cX8_copy 194 = .ok (.laload, 1) := dX8_copy_r169.2.2.2.2.2.2.2.2.2.2.2.2.2.2.1
theorem dX8_copy_195 : decode cX8_copy 195 = .ok (.lastore, 1) := dX8_copy_r169.2.2.2.2.2.2.2.2.2.2.2.2.2.2.2.1
theorem dX8_copy_r196 : zdcP cX8_copy 196 [(.iinc 6 1, 3), (.goto (-32), 3), (.iconst 0, 1), (.istore 6, 2), (.iload 6, 2), (.iload 5, 2), (.if_icmp .ge 32, 3), (.aload_n 0, 1), (.getfield 68, 3), (.sipush 160, 3), (.iload_n 2, 1), (.imul, 1), (.iload 4, 2), (.iadd, 1), (.iload 6, 2), (.iadd, 1)] := zdcA_ok (by decide +kernel)
theorem dX8_copy_196 : decode cX8_copy 196 = .ok (.iinc 6 1, 3) := dX8_copy_r196.1
theorem dX8_copy_199 : decode cX8_copy 199 = .ok (.goto (-32), 3) := dX8_copy_r196.2.1
theorem dX8_copy_202 : decode cX8_copy 202 = .ok (.iconst 0, 1) := dX8_copy_r196.2.2.1
theorem dX8_copy_203 : decode cX8_copy 203 = .ok (.istore 6, 2) := dX8_copy_r196.2.2.2.1
theorem dX8_copy_205 : decode cX8_copy 205 = .ok (.iload 6, 2) := dX8_copy_r196.2.2.2.2.1
theorem dX8_copy_207 : decode cX8_copy 207 = .ok (.iload 5, 2) := dX8_copy_r196.2.2.2.2.2.1
theorem dX8_copy_209 : decode cX8_copy 209 = .ok (.if_icmp .ge 32, 3) := dX8_copy_r196.2.2.2.2.2.2.1
theorem dX8_copy_212 : decode cX8_copy 212 = .ok (.aload_n 0, 1) := dX8_copy_r196.2.2.2.2.2.2.2.1
theorem dX8_copy_213 : decode cX8_copy 213 = .ok (.getfield 68, 3) := dX8_copy_r196.2.2.2.2.2.2.2.2.1
theorem dX8_copy_216 : decode cX8_copy 216 = .ok (.sipush 160, 3) := dX8_copy_r196.2.2.2.2.2.2.2.2.2.1
theorem dX8_copy_219 : decode cX8_copy 219 = .ok (.iload_n 2, 1) := dX8_copy_r196.2.2.2.2.2.2.2.2.2.2.1
theorem dX8_copy_220 : decode cX8_copy 220 = .ok (.imul, 1) := dX8_copy_r196.2.2.2.2.2.2.2.2.2.2.2.1
theorem dX8_copy_221 : decode cX8_copy 221 = .ok (.iload 4, 2) := dX8_copy_r196.2.2.2.2.2.2.2.2.2.2.2.2.1
theorem dX8_copy_223 : decode cX8_copy 223 = .ok (.iadd, 1) := dX8_copy_r196.2.2.2.2.2.2.2.2.2.2.2.2.2.1
theorem dX8_copy_224 : decode cX8_copy 224 = .ok (.iload 6, 2) := dX8_copy_r196.2.2.2.2.2.2.2.2.2.2.2.2.2.2.1
theorem dX8_copy_226 : decode cX8_copy 226 = .ok (.iadd, 1) := dX8_copy_r196.2.2.2.2.2.2.2.2.2.2.2.2.2.2.2.1
theorem dX8_copy_r227 : zdcP cX8_copy 227 [(.aload_n 0, 1), (.getfield 72, 3), (.iload 6, 2), (.laload, 1), (.lastore, 1), (.iinc 6 1, 3), (.goto (-33), 3), (.iconst 1, 1), (.ireturn, 1)] := zdcA_ok (by decide +kernel)
theorem dX8_copy_227 : decode cX8_copy 227 = .ok (.aload_n 0, 1) := dX8_copy_r227.1
theorem dX8_copy_228 : decode cX8_copy 228 = .ok (.getfield 72, 3) := dX8_copy_r227.2.1
theorem dX8_copy_231 : decode cX8_copy 231 = .ok (.iload 6, 2) := dX8_copy_r227.2.2.1
theorem dX8_copy_233 : decode cX8_copy 233 = .ok (.laload, 1) := dX8_copy_r227.2.2.2.1
theorem dX8_copy_234 : decode cX8_copy 234 = .ok (.lastore, 1) := dX8_copy_r227.2.2.2.2.1
theorem dX8_copy_235 : decode cX8_copy 235 = .ok (.iinc 6 1, 3) := dX8_copy_r227.2.2.2.2.2.1
theorem dX8_copy_238 : decode cX8_copy 238 = .ok (.goto (-33), 3) := dX8_copy_r227.2.2.2.2.2.2.1
theorem dX8_copy_241 : decode cX8_copy 241 = .ok (.iconst 1, 1) := dX8_copy_r227.2.2.2.2.2.2.2.1
theorem dX8_copy_242 : decode cX8_copy 242 = .ok (.ireturn, 1) := dX8_copy_r227.2.2.2.2.2.2.2.2.1
def wq_132_205 (v1 : Int32) (v2 : Int32) (v3 : Int32) (v4 : Int32) (v5 : Int32) (Q : Int32 → zf_Me → Prop) : Nat → Int32 → zf_Me → Prop
  | 0, _, _ => False
  | n + 1, v6, m => ((v6.toInt ≥ v5.toInt → Q 1 m) ∧ (v6.toInt < v5.toInt → ((0 ≤ (Int32.toInt v6) ∧ (Int32.toInt v6) < (160 : Int)) ∧ ((0 ≤ (Int32.toInt (((160 * v2) + v4) + v6)) ∧ (Int32.toInt (((160 * v2) + v4) + v6)) < (1280 : Int)) ∧ ∀ m19, m19 = zf_ul m 74 (Int32.toInt (((160 * v2) + v4) + v6)).toNat (m.2 75 (Int32.toInt v6).toNat) → wq_132_205 v1 v2 v3 v4 v5 Q n (v6 + 1) m19))))
theorem zq_132_205 {d : Nat} (hd : 1 ≤ d) {v1 : Int32} {v2 : Int32} {v3 : Int32} {v4 : Int32} {v5 : Int32} {Q : Int32 → zf_Me → Prop} : ∀ (n : Nat) (v6 : Int32) (m : zf_Me), wq_132_205 v1 v2 v3 v4 v5 Q n v6 m → zf_W none 0 0 d zt_132 205 [some (.inr (.inr (1, 63))), none, some (.inl v2), none, some (.inl v4), some (.inl v5), some (.inl v6)] [] m (zf_I Q) := by
  intro n
  induction n with
  | zero =>
    intro v6 m h
    exact h.elim
  | succ n ih =>
    intro v6 m h
    unfold wq_132_205 at h
    refine zf_ld (pc' := 207) (v := .inl v6) dX8_copy_205 rfl (fun _ _ _ => rfl) rfl rfl rfl ?_
    refine zf_ld (pc' := 209) (v := .inl v5) dX8_copy_207 rfl (fun _ _ _ => rfl) rfl rfl rfl ?_
    refine zf_icmp_ge (tgt := 241) (pc' := 212) dX8_copy_209 rfl rfl (fun g => ?_) (fun g => ?_)
    · replace h := h.1 g
      refine zf_ic (v := 1) (pc' := 242) dX8_copy_241 rfl rfl ?_
      exact zf_ri dX8_copy_242 rfl h
    · replace h := h.2 g
      refine zf_ld (pc' := 213) (v := .inr (.inr (1, 63))) dX8_copy_212 rfl (fun _ _ _ => rfl) rfl rfl rfl ?_
      refine zf_gfr (pc' := 216) (b := 74) dX8_copy_213 rfl rfl (by decide) rfl rfl ?_
      refine zf_si (v := 160) (pc' := 219) dX8_copy_216 rfl rfl ?_
      refine zf_ld (pc' := 220) (v := .inl v2) dX8_copy_219 rfl (fun _ _ _ => rfl) rfl rfl rfl ?_
      refine zf_in (pc' := 221) (S' := [.inl (160 * v2), .inr (.inr (1, 74))]) dX8_copy_220 rfl (fun _ _ _ => rfl) ?_
      refine zf_ld (pc' := 223) (v := .inl v4) dX8_copy_221 rfl (fun _ _ _ => rfl) rfl rfl rfl ?_
      refine zf_in (pc' := 224) (S' := [.inl ((160 * v2) + v4), .inr (.inr (1, 74))]) dX8_copy_223 rfl (fun _ _ _ => rfl) ?_
      refine zf_ld (pc' := 226) (v := .inl v6) dX8_copy_224 rfl (fun _ _ _ => rfl) rfl rfl rfl ?_
      refine zf_in (pc' := 227) (S' := [.inl (((160 * v2) + v4) + v6), .inr (.inr (1, 74))]) dX8_copy_226 rfl (fun _ _ _ => rfl) ?_
      refine zf_ld (pc' := 228) (v := .inr (.inr (1, 63))) dX8_copy_227 rfl (fun _ _ _ => rfl) rfl rfl rfl ?_
      refine zf_gfr (pc' := 231) (b := 75) dX8_copy_228 rfl rfl (by decide) rfl rfl ?_
      refine zf_ld (pc' := 233) (v := .inl v6) dX8_copy_231 rfl (fun _ _ _ => rfl) rfl rfl rfl ?_
      refine zf_lal (pc' := 234) dX8_copy_233 rfl (⟨by decide, rfl⟩ : zf_larr 75 160).1 (⟨by decide, rfl⟩ : zf_larr 75 160).2 h.1 rfl ?_
      replace h := h.2
      refine zf_las (pc' := 235) dX8_copy_234 rfl (⟨by decide, rfl⟩ : zf_larr 74 1280).1 (⟨by decide, rfl⟩ : zf_larr 74 1280).2 h.1 rfl (fun m19 e20 => ?_)
      replace h := h.2 m19 e20
      refine zf_ii (y := (v6 + 1)) (L2 := [some (.inr (.inr (1, 63))), none, some (.inl v2), none, some (.inl v4), some (.inl v5), some (.inl (v6 + 1))]) (pc' := 238) dX8_copy_235 rfl rfl rfl rfl rfl ?_
      refine zf_goto (tgt := 205) dX8_copy_238 rfl ?_
      exact zf_lo (ih _ _ h) ⟨rfl, rfl, rfl, rfl, rfl, trivial⟩
def wq_132_167 (v1 : Int32) (v2 : Int32) (v3 : Int32) (v4 : Int32) (v5 : Int32) (Q : Int32 → zf_Me → Prop) : Nat → Int32 → zf_Me → Prop
  | 0, _, _ => False
  | n + 1, v6, m => ((v6.toInt ≥ v5.toInt → (∃ n205, wq_132_205 v1 v2 v3 v4 v5 Q n205 0 m)) ∧ (v6.toInt < v5.toInt → ((0 ≤ (Int32.toInt (((160 * v1) + v3) + v6)) ∧ (Int32.toInt (((160 * v1) + v3) + v6)) < (1280 : Int)) ∧ ((0 ≤ (Int32.toInt v6) ∧ (Int32.toInt v6) < (160 : Int)) ∧ ∀ m21, m21 = zf_ul m 75 (Int32.toInt v6).toNat (m.2 74 (Int32.toInt (((160 * v1) + v3) + v6)).toNat) → wq_132_167 v1 v2 v3 v4 v5 Q n (v6 + 1) m21))))
theorem zq_132_167 {d : Nat} (hd : 1 ≤ d) {v1 : Int32} {v2 : Int32} {v3 : Int32} {v4 : Int32} {v5 : Int32} {Q : Int32 → zf_Me → Prop} : ∀ (n : Nat) (v6 : Int32) (m : zf_Me), wq_132_167 v1 v2 v3 v4 v5 Q n v6 m → zf_W none 0 0 d zt_132 167 [some (.inr (.inr (1, 63))), some (.inl v1), some (.inl v2), some (.inl v3), some (.inl v4), some (.inl v5), some (.inl v6)] [] m (zf_I Q) := by
  intro n
  induction n with
  | zero =>
    intro v6 m h
    exact h.elim
  | succ n ih =>
    intro v6 m h
    unfold wq_132_167 at h
    refine zf_ld (pc' := 169) (v := .inl v6) dX8_copy_167 rfl (fun _ _ _ => rfl) rfl rfl rfl ?_
    refine zf_ld (pc' := 171) (v := .inl v5) dX8_copy_169 rfl (fun _ _ _ => rfl) rfl rfl rfl ?_
    refine zf_icmp_ge (tgt := 202) (pc' := 174) dX8_copy_171 rfl rfl (fun g => ?_) (fun g => ?_)
    · replace h := h.1 g
      refine zf_ic (v := 0) (pc' := 203) dX8_copy_202 rfl rfl ?_
      refine zf_st (pc' := 205) (L2 := [some (.inr (.inr (1, 63))), some (.inl v1), some (.inl v2), some (.inl v3), some (.inl v4), some (.inl v5), some (.inl 0)]) dX8_copy_203 rfl (fun _ _ _ => rfl) rfl rfl rfl rfl rfl rfl ?_
      obtain ⟨n205, h⟩ := h
      exact zf_lo (zq_132_205 (by omega) n205 _ _ h) ⟨rfl, rfl, rfl, rfl, rfl, trivial⟩
    · replace h := h.2 g
      refine zf_ld (pc' := 175) (v := .inr (.inr (1, 63))) dX8_copy_174 rfl (fun _ _ _ => rfl) rfl rfl rfl ?_
      refine zf_gfr (pc' := 178) (b := 75) dX8_copy_175 rfl rfl (by decide) rfl rfl ?_
      refine zf_ld (pc' := 180) (v := .inl v6) dX8_copy_178 rfl (fun _ _ _ => rfl) rfl rfl rfl ?_
      refine zf_ld (pc' := 181) (v := .inr (.inr (1, 63))) dX8_copy_180 rfl (fun _ _ _ => rfl) rfl rfl rfl ?_
      refine zf_gfr (pc' := 184) (b := 74) dX8_copy_181 rfl rfl (by decide) rfl rfl ?_
      refine zf_si (v := 160) (pc' := 187) dX8_copy_184 rfl rfl ?_
      refine zf_ld (pc' := 188) (v := .inl v1) dX8_copy_187 rfl (fun _ _ _ => rfl) rfl rfl rfl ?_
      refine zf_in (pc' := 189) (S' := [.inl (160 * v1), .inr (.inr (1, 74)), .inl v6, .inr (.inr (1, 75))]) dX8_copy_188 rfl (fun _ _ _ => rfl) ?_
      refine zf_ld (pc' := 190) (v := .inl v3) dX8_copy_189 rfl (fun _ _ _ => rfl) rfl rfl rfl ?_
      refine zf_in (pc' := 191) (S' := [.inl ((160 * v1) + v3), .inr (.inr (1, 74)), .inl v6, .inr (.inr (1, 75))]) dX8_copy_190 rfl (fun _ _ _ => rfl) ?_
      refine zf_ld (pc' := 193) (v := .inl v6) dX8_copy_191 rfl (fun _ _ _ => rfl) rfl rfl rfl ?_
      refine zf_in (pc' := 194) (S' := [.inl (((160 * v1) + v3) + v6), .inr (.inr (1, 74)), .inl v6, .inr (.inr (1, 75))]) dX8_copy_193 rfl (fun _ _ _ => rfl) ?_
      refine zf_lal (pc' := 195) dX8_copy_194 rfl (⟨by decide, rfl⟩ : zf_larr 74 1280).1 (⟨by decide, rfl⟩ : zf_larr 74 1280).2 h.1 rfl ?_
      replace h := h.2
      refine zf_las (pc' := 196) dX8_copy_195 rfl (⟨by decide, rfl⟩ : zf_larr 75 160).1 (⟨by decide, rfl⟩ : zf_larr 75 160).2 h.1 rfl (fun m21 e22 => ?_)
      replace h := h.2 m21 e22
      refine zf_ii (y := (v6 + 1)) (L2 := [some (.inr (.inr (1, 63))), some (.inl v1), some (.inl v2), some (.inl v3), some (.inl v4), some (.inl v5), some (.inl (v6 + 1))]) (pc' := 199) dX8_copy_196 rfl rfl rfl rfl rfl ?_
      refine zf_goto (tgt := 167) dX8_copy_199 rfl ?_
      exact zf_lo (ih _ _ h) ⟨rfl, rfl, rfl, rfl, rfl, rfl, rfl, trivial⟩
def wq_132_84 (v1 : Int32) (v2 : Int32) (v3 : Int32) (v4 : Int32) (v5 : Int32) (m : zf_Me) (Q : Int32 → zf_Me → Prop) : Prop := ((0 ≤ (Int32.toInt v1) ∧ (Int32.toInt v1) < (8 : Int)) ∧ ((((m.1 70 (Int32.toInt v1).toNat)).toInt = 0 → wp_125 (-3) m (fun x11 m12 => Q x11 m12)) ∧ (¬ ((m.1 70 (Int32.toInt v1).toNat)).toInt = 0 → ((0 ≤ (Int32.toInt v2) ∧ (Int32.toInt v2) < (8 : Int)) ∧ ((¬ ((m.1 70 (Int32.toInt v2).toNat)).toInt = 0 → ((v5.toInt ≥ 0 → ((v3.toInt < 0 → wp_125 (-5) m (fun x13 m14 => Q x13 m14)) ∧ (v3.toInt ≥ 0 → ((v4.toInt < 0 → wp_125 (-5) m (fun x15 m16 => Q x15 m16)) ∧ (v4.toInt ≥ 0 → ((0 ≤ (Int32.toInt v1) ∧ (Int32.toInt v1) < (8 : Int)) ∧ ((v3.toInt > (((m.1 72 (Int32.toInt v1).toNat) - v5)).toInt → wp_125 (-5) m (fun x17 m18 => Q x17 m18)) ∧ (v3.toInt ≤ (((m.1 72 (Int32.toInt v1).toNat) - v5)).toInt → ((0 ≤ (Int32.toInt v2) ∧ (Int32.toInt v2) < (8 : Int)) ∧ ((v4.toInt ≤ (((m.1 72 (Int32.toInt v2).toNat) - v5)).toInt → (∃ n167, wq_132_167 v1 v2 v3 v4 v5 Q n167 0 m)) ∧ (v4.toInt > (((m.1 72 (Int32.toInt v2).toNat) - v5)).toInt → wp_125 (-5) m (fun x23 m24 => Q x23 m24)))))))))))) ∧ (v5.toInt < 0 → wp_125 (-4) m (fun x25 m26 => Q x25 m26)))) ∧ (((m.1 70 (Int32.toInt v2).toNat)).toInt = 0 → wp_125 (-3) m (fun x27 m28 => Q x27 m28)))))))
theorem zq_132_84 {d : Nat} (hd : 1 ≤ d) {v1 : Int32} {v2 : Int32} {v3 : Int32} {v4 : Int32} {v5 : Int32} {Q : Int32 → zf_Me → Prop} {m : zf_Me} (h : wq_132_84 v1 v2 v3 v4 v5 m Q) : zf_W none 0 0 d zt_132 84 [some (.inr (.inr (1, 63))), some (.inl v1), some (.inl v2), some (.inl v3), some (.inl v4), some (.inl v5), none] [] m (zf_I Q) := by
  obtain ⟨e, rfl⟩ : ∃ z, d = z + 1 := ⟨d - 1, by omega⟩
  unfold wq_132_84 at h
  refine zf_ld (pc' := 85) (v := .inr (.inr (1, 63))) dX8_copy_84 rfl (fun _ _ _ => rfl) rfl rfl rfl ?_
  refine zf_gfr (pc' := 88) (b := 70) dX8_copy_85 rfl rfl (by decide) rfl rfl ?_
  refine zf_ld (pc' := 89) (v := .inl v1) dX8_copy_88 rfl (fun _ _ _ => rfl) rfl rfl rfl ?_
  refine zf_ial (pc' := 90) dX8_copy_89 rfl (⟨by decide, rfl⟩ : zf_arr 70 8).1 (⟨by decide, rfl⟩ : zf_arr 70 8).2 h.1 rfl ?_
  replace h := h.2
  refine zf_if_eq (tgt := 102) (pc' := 93) dX8_copy_90 rfl rfl (fun g => ?_) (fun g => ?_)
  · replace h := h.1 g
    refine zf_ld (pc' := 103) (v := .inr (.inr (1, 63))) dX8_copy_102 rfl (fun _ _ _ => rfl) rfl rfl rfl ?_
    refine zf_bi (v := (-3)) (pc' := 105) dX8_copy_103 rfl rfl ?_
    refine zf_iv (k := 125) (pc' := 108) (r := []) dX8_copy_105 rfl rfl rfl rfl (by decide) rfl rfl rfl (zr_125 (by omega) h) (zf_kI (fun x11 m12 h => ?_))
    exact zf_ri dX8_copy_108 rfl h
  · replace h := h.2 g
    refine zf_ld (pc' := 94) (v := .inr (.inr (1, 63))) dX8_copy_93 rfl (fun _ _ _ => rfl) rfl rfl rfl ?_
    refine zf_gfr (pc' := 97) (b := 70) dX8_copy_94 rfl rfl (by decide) rfl rfl ?_
    refine zf_ld (pc' := 98) (v := .inl v2) dX8_copy_97 rfl (fun _ _ _ => rfl) rfl rfl rfl ?_
    refine zf_ial (pc' := 99) dX8_copy_98 rfl (⟨by decide, rfl⟩ : zf_arr 70 8).1 (⟨by decide, rfl⟩ : zf_arr 70 8).2 h.1 rfl ?_
    replace h := h.2
    refine zf_if_ne (tgt := 109) (pc' := 102) dX8_copy_99 rfl rfl (fun g => ?_) (fun g => ?_)
    · replace h := h.1 g
      refine zf_ld (pc' := 111) (v := .inl v5) dX8_copy_109 rfl (fun _ _ _ => rfl) rfl rfl rfl ?_
      refine zf_if_ge (tgt := 121) (pc' := 114) dX8_copy_111 rfl rfl (fun g => ?_) (fun g => ?_)
      · replace h := h.1 g
        refine zf_ld (pc' := 122) (v := .inl v3) dX8_copy_121 rfl (fun _ _ _ => rfl) rfl rfl rfl ?_
        refine zf_if_lt (tgt := 157) (pc' := 125) dX8_copy_122 rfl rfl (fun g => ?_) (fun g => ?_)
        · replace h := h.1 g
          refine zf_ld (pc' := 158) (v := .inr (.inr (1, 63))) dX8_copy_157 rfl (fun _ _ _ => rfl) rfl rfl rfl ?_
          refine zf_bi (v := (-5)) (pc' := 160) dX8_copy_158 rfl rfl ?_
          refine zf_iv (k := 125) (pc' := 163) (r := []) dX8_copy_160 rfl rfl rfl rfl (by decide) rfl rfl rfl (zr_125 (by omega) h) (zf_kI (fun x13 m14 h => ?_))
          exact zf_ri dX8_copy_163 rfl h
        · replace h := h.2 g
          refine zf_ld (pc' := 127) (v := .inl v4) dX8_copy_125 rfl (fun _ _ _ => rfl) rfl rfl rfl ?_
          refine zf_if_lt (tgt := 157) (pc' := 130) dX8_copy_127 rfl rfl (fun g => ?_) (fun g => ?_)
          · replace h := h.1 g
            refine zf_ld (pc' := 158) (v := .inr (.inr (1, 63))) dX8_copy_157 rfl (fun _ _ _ => rfl) rfl rfl rfl ?_
            refine zf_bi (v := (-5)) (pc' := 160) dX8_copy_158 rfl rfl ?_
            refine zf_iv (k := 125) (pc' := 163) (r := []) dX8_copy_160 rfl rfl rfl rfl (by decide) rfl rfl rfl (zr_125 (by omega) h) (zf_kI (fun x15 m16 h => ?_))
            exact zf_ri dX8_copy_163 rfl h
          · replace h := h.2 g
            refine zf_ld (pc' := 131) (v := .inl v3) dX8_copy_130 rfl (fun _ _ _ => rfl) rfl rfl rfl ?_
            refine zf_ld (pc' := 132) (v := .inr (.inr (1, 63))) dX8_copy_131 rfl (fun _ _ _ => rfl) rfl rfl rfl ?_
            refine zf_gfr (pc' := 135) (b := 72) dX8_copy_132 rfl rfl (by decide) rfl rfl ?_
            refine zf_ld (pc' := 136) (v := .inl v1) dX8_copy_135 rfl (fun _ _ _ => rfl) rfl rfl rfl ?_
            refine zf_ial (pc' := 137) dX8_copy_136 rfl (⟨by decide, rfl⟩ : zf_arr 72 8).1 (⟨by decide, rfl⟩ : zf_arr 72 8).2 h.1 rfl ?_
            replace h := h.2
            refine zf_ld (pc' := 139) (v := .inl v5) dX8_copy_137 rfl (fun _ _ _ => rfl) rfl rfl rfl ?_
            refine zf_in (pc' := 140) (S' := [.inl ((m.1 72 (Int32.toInt v1).toNat) - v5), .inl v3]) dX8_copy_139 rfl (fun _ _ _ => rfl) ?_
            refine zf_icmp_gt (tgt := 157) (pc' := 143) dX8_copy_140 rfl rfl (fun g => ?_) (fun g => ?_)
            · replace h := h.1 g
              refine zf_ld (pc' := 158) (v := .inr (.inr (1, 63))) dX8_copy_157 rfl (fun _ _ _ => rfl) rfl rfl rfl ?_
              refine zf_bi (v := (-5)) (pc' := 160) dX8_copy_158 rfl rfl ?_
              refine zf_iv (k := 125) (pc' := 163) (r := []) dX8_copy_160 rfl rfl rfl rfl (by decide) rfl rfl rfl (zr_125 (by omega) h) (zf_kI (fun x17 m18 h => ?_))
              exact zf_ri dX8_copy_163 rfl h
            · replace h := h.2 g
              refine zf_ld (pc' := 145) (v := .inl v4) dX8_copy_143 rfl (fun _ _ _ => rfl) rfl rfl rfl ?_
              refine zf_ld (pc' := 146) (v := .inr (.inr (1, 63))) dX8_copy_145 rfl (fun _ _ _ => rfl) rfl rfl rfl ?_
              refine zf_gfr (pc' := 149) (b := 72) dX8_copy_146 rfl rfl (by decide) rfl rfl ?_
              refine zf_ld (pc' := 150) (v := .inl v2) dX8_copy_149 rfl (fun _ _ _ => rfl) rfl rfl rfl ?_
              refine zf_ial (pc' := 151) dX8_copy_150 rfl (⟨by decide, rfl⟩ : zf_arr 72 8).1 (⟨by decide, rfl⟩ : zf_arr 72 8).2 h.1 rfl ?_
              replace h := h.2
              refine zf_ld (pc' := 153) (v := .inl v5) dX8_copy_151 rfl (fun _ _ _ => rfl) rfl rfl rfl ?_
              refine zf_in (pc' := 154) (S' := [.inl ((m.1 72 (Int32.toInt v2).toNat) - v5), .inl v4]) dX8_copy_153 rfl (fun _ _ _ => rfl) ?_
              refine zf_icmp_le (tgt := 164) (pc' := 157) dX8_copy_154 rfl rfl (fun g => ?_) (fun g => ?_)
              · replace h := h.1 g
                refine zf_ic (v := 0) (pc' := 165) dX8_copy_164 rfl rfl ?_
                refine zf_st (pc' := 167) (L2 := [some (.inr (.inr (1, 63))), some (.inl v1), some (.inl v2), some (.inl v3), some (.inl v4), some (.inl v5), some (.inl 0)]) dX8_copy_165 rfl (fun _ _ _ => rfl) rfl rfl rfl rfl rfl rfl ?_
                obtain ⟨n167, h⟩ := h
                exact zf_lo (zq_132_167 (by omega) n167 _ _ h) ⟨rfl, rfl, rfl, rfl, rfl, rfl, rfl, trivial⟩
              · replace h := h.2 g
                refine zf_ld (pc' := 158) (v := .inr (.inr (1, 63))) dX8_copy_157 rfl (fun _ _ _ => rfl) rfl rfl rfl ?_
                refine zf_bi (v := (-5)) (pc' := 160) dX8_copy_158 rfl rfl ?_
                refine zf_iv (k := 125) (pc' := 163) (r := []) dX8_copy_160 rfl rfl rfl rfl (by decide) rfl rfl rfl (zr_125 (by omega) h) (zf_kI (fun x23 m24 h => ?_))
                exact zf_ri dX8_copy_163 rfl h
      · replace h := h.2 g
        refine zf_ld (pc' := 115) (v := .inr (.inr (1, 63))) dX8_copy_114 rfl (fun _ _ _ => rfl) rfl rfl rfl ?_
        refine zf_bi (v := (-4)) (pc' := 117) dX8_copy_115 rfl rfl ?_
        refine zf_iv (k := 125) (pc' := 120) (r := []) dX8_copy_117 rfl rfl rfl rfl (by decide) rfl rfl rfl (zr_125 (by omega) h) (zf_kI (fun x25 m26 h => ?_))
        exact zf_ri dX8_copy_120 rfl h
    · replace h := h.2 g
      refine zf_ld (pc' := 103) (v := .inr (.inr (1, 63))) dX8_copy_102 rfl (fun _ _ _ => rfl) rfl rfl rfl ?_
      refine zf_bi (v := (-3)) (pc' := 105) dX8_copy_103 rfl rfl ?_
      refine zf_iv (k := 125) (pc' := 108) (r := []) dX8_copy_105 rfl rfl rfl rfl (by decide) rfl rfl rfl (zr_125 (by omega) h) (zf_kI (fun x27 m28 h => ?_))
      exact zf_ri dX8_copy_108 rfl h
def wp_132 (v1 : Int32) (v2 : Int32) (v3 : Int32) (v4 : Int32) (v5 : Int32) (m : zf_Me) (Q : Int32 → zf_Me → Prop) : Prop := wp_127 v1 m (fun b1 m2 => ((b1 = false → wp_125 (-1) m2 (fun x3 m4 => Q x3 m4)) ∧ (b1 = true → wp_127 v2 m2 (fun b5 m6 => ((b5 = true → ((0 ≤ (Int32.toInt v1) ∧ (Int32.toInt v1) < (8 : Int)) ∧ ((((m6.1 70 (Int32.toInt v1).toNat)).toInt = 2 → wp_125 (-2) m6 (fun x7 m8 => Q x7 m8)) ∧ (¬ ((m6.1 70 (Int32.toInt v1).toNat)).toInt = 2 → ((0 ≤ (Int32.toInt v2) ∧ (Int32.toInt v2) < (8 : Int)) ∧ ((((m6.1 70 (Int32.toInt v2).toNat)).toInt = 2 → wp_125 (-2) m6 (fun x9 m10 => Q x9 m10)) ∧ (¬ ((m6.1 70 (Int32.toInt v2).toNat)).toInt = 2 → ((0 ≤ (Int32.toInt v1) ∧ (Int32.toInt v1) < (8 : Int)) ∧ ((¬ ((m6.1 70 (Int32.toInt v1).toNat)).toInt = 1 → wq_132_84 v1 v2 v3 v4 v5 m6 Q) ∧ (((m6.1 70 (Int32.toInt v1).toNat)).toInt = 1 → ((0 ≤ (Int32.toInt v2) ∧ (Int32.toInt v2) < (8 : Int)) ∧ ((¬ ((m6.1 70 (Int32.toInt v2).toNat)).toInt = 1 → wq_132_84 v1 v2 v3 v4 v5 m6 Q) ∧ (((m6.1 70 (Int32.toInt v2).toNat)).toInt = 1 → ((0 ≤ (Int32.toInt v1) ∧ (Int32.toInt v1) < (8 : Int)) ∧ ((0 ≤ (Int32.toInt v2) ∧ (Int32.toInt v2) < (8 : Int)) ∧ ((((m6.1 71 (Int32.toInt v1).toNat)).toInt = ((m6.1 71 (Int32.toInt v2).toNat)).toInt → wq_132_84 v1 v2 v3 v4 v5 m6 Q) ∧ (¬ ((m6.1 71 (Int32.toInt v1).toNat)).toInt = ((m6.1 71 (Int32.toInt v2).toNat)).toInt → wp_125 (-2) m6 (fun x29 m30 => Q x29 m30)))))))))))))))))) ∧ (b5 = false → wp_125 (-1) m6 (fun x31 m32 => Q x31 m32)))))))
theorem zr_132 {d : Nat} (hd : 1 ≤ d) {v1 : Int32} {v2 : Int32} {v3 : Int32} {v4 : Int32} {v5 : Int32} {Q : Int32 → zf_Me → Prop} {m : zf_Me} (h : wp_132 v1 v2 v3 v4 v5 m Q) : zf_M d 132 [.inr (.inr (1, 63)), .inl v1, .inl v2, .inl v3, .inl v4, .inl v5] m (zf_I Q) := by
  obtain ⟨e, rfl⟩ : ∃ z, d = z + 1 := ⟨d - 1, by omega⟩
  unfold wp_132 at h
  refine zf_M_of (Nat.le_of_ble_eq_true rfl) zm_132 (L := [some (.inr (.inr (1, 63))), some (.inl v1), some (.inl v2), some (.inl v3), some (.inl v4), some (.inl v5), none]) rfl ?_
  refine zf_ld (pc' := 1) (v := .inr (.inr (1, 63))) dX8_copy_0 rfl (fun _ _ _ => rfl) rfl rfl rfl ?_
  refine zf_ld (pc' := 2) (v := .inl v1) dX8_copy_1 rfl (fun _ _ _ => rfl) rfl rfl rfl ?_
  refine zf_iv (k := 127) (pc' := 5) (r := []) dX8_copy_2 rfl rfl rfl rfl (by decide) rfl rfl rfl (zr_127 (by omega) h) (zf_kB (fun b1 m2 h => ?_))
  refine zf_ib_eq (tgt := 16) (pc' := 8) dX8_copy_5 rfl rfl (fun g => ?_) (fun g => ?_)
  · replace h := h.1 g
    refine zf_ld (pc' := 17) (v := .inr (.inr (1, 63))) dX8_copy_16 rfl (fun _ _ _ => rfl) rfl rfl rfl ?_
    refine zf_ic (v := (-1)) (pc' := 18) dX8_copy_17 rfl rfl ?_
    refine zf_iv (k := 125) (pc' := 21) (r := []) dX8_copy_18 rfl rfl rfl rfl (by decide) rfl rfl rfl (zr_125 (by omega) h) (zf_kI (fun x3 m4 h => ?_))
    exact zf_ri dX8_copy_21 rfl h
  · replace h := h.2 g
    refine zf_ld (pc' := 9) (v := .inr (.inr (1, 63))) dX8_copy_8 rfl (fun _ _ _ => rfl) rfl rfl rfl ?_
    refine zf_ld (pc' := 10) (v := .inl v2) dX8_copy_9 rfl (fun _ _ _ => rfl) rfl rfl rfl ?_
    refine zf_iv (k := 127) (pc' := 13) (r := []) dX8_copy_10 rfl rfl rfl rfl (by decide) rfl rfl rfl (zr_127 (by omega) h) (zf_kB (fun b5 m6 h => ?_))
    refine zf_ib_ne (tgt := 22) (pc' := 16) dX8_copy_13 rfl rfl (fun g => ?_) (fun g => ?_)
    · replace h := h.1 g
      refine zf_ld (pc' := 23) (v := .inr (.inr (1, 63))) dX8_copy_22 rfl (fun _ _ _ => rfl) rfl rfl rfl ?_
      refine zf_gfr (pc' := 26) (b := 70) dX8_copy_23 rfl rfl (by decide) rfl rfl ?_
      refine zf_ld (pc' := 27) (v := .inl v1) dX8_copy_26 rfl (fun _ _ _ => rfl) rfl rfl rfl ?_
      refine zf_ial (pc' := 28) dX8_copy_27 rfl (⟨by decide, rfl⟩ : zf_arr 70 8).1 (⟨by decide, rfl⟩ : zf_arr 70 8).2 h.1 rfl ?_
      replace h := h.2
      refine zf_ic (v := 2) (pc' := 29) dX8_copy_28 rfl rfl ?_
      refine zf_icmp_eq (tgt := 77) (pc' := 32) dX8_copy_29 rfl rfl (fun g => ?_) (fun g => ?_)
      · replace h := h.1 g
        refine zf_ld (pc' := 78) (v := .inr (.inr (1, 63))) dX8_copy_77 rfl (fun _ _ _ => rfl) rfl rfl rfl ?_
        refine zf_bi (v := (-2)) (pc' := 80) dX8_copy_78 rfl rfl ?_
        refine zf_iv (k := 125) (pc' := 83) (r := []) dX8_copy_80 rfl rfl rfl rfl (by decide) rfl rfl rfl (zr_125 (by omega) h) (zf_kI (fun x7 m8 h => ?_))
        exact zf_ri dX8_copy_83 rfl h
      · replace h := h.2 g
        refine zf_ld (pc' := 33) (v := .inr (.inr (1, 63))) dX8_copy_32 rfl (fun _ _ _ => rfl) rfl rfl rfl ?_
        refine zf_gfr (pc' := 36) (b := 70) dX8_copy_33 rfl rfl (by decide) rfl rfl ?_
        refine zf_ld (pc' := 37) (v := .inl v2) dX8_copy_36 rfl (fun _ _ _ => rfl) rfl rfl rfl ?_
        refine zf_ial (pc' := 38) dX8_copy_37 rfl (⟨by decide, rfl⟩ : zf_arr 70 8).1 (⟨by decide, rfl⟩ : zf_arr 70 8).2 h.1 rfl ?_
        replace h := h.2
        refine zf_ic (v := 2) (pc' := 39) dX8_copy_38 rfl rfl ?_
        refine zf_icmp_eq (tgt := 77) (pc' := 42) dX8_copy_39 rfl rfl (fun g => ?_) (fun g => ?_)
        · replace h := h.1 g
          refine zf_ld (pc' := 78) (v := .inr (.inr (1, 63))) dX8_copy_77 rfl (fun _ _ _ => rfl) rfl rfl rfl ?_
          refine zf_bi (v := (-2)) (pc' := 80) dX8_copy_78 rfl rfl ?_
          refine zf_iv (k := 125) (pc' := 83) (r := []) dX8_copy_80 rfl rfl rfl rfl (by decide) rfl rfl rfl (zr_125 (by omega) h) (zf_kI (fun x9 m10 h => ?_))
          exact zf_ri dX8_copy_83 rfl h
        · replace h := h.2 g
          refine zf_ld (pc' := 43) (v := .inr (.inr (1, 63))) dX8_copy_42 rfl (fun _ _ _ => rfl) rfl rfl rfl ?_
          refine zf_gfr (pc' := 46) (b := 70) dX8_copy_43 rfl rfl (by decide) rfl rfl ?_
          refine zf_ld (pc' := 47) (v := .inl v1) dX8_copy_46 rfl (fun _ _ _ => rfl) rfl rfl rfl ?_
          refine zf_ial (pc' := 48) dX8_copy_47 rfl (⟨by decide, rfl⟩ : zf_arr 70 8).1 (⟨by decide, rfl⟩ : zf_arr 70 8).2 h.1 rfl ?_
          replace h := h.2
          refine zf_ic (v := 1) (pc' := 49) dX8_copy_48 rfl rfl ?_
          refine zf_icmp_ne (tgt := 84) (pc' := 52) dX8_copy_49 rfl rfl (fun g => ?_) (fun g => ?_)
          · replace h := h.1 g
            exact zf_lo (zq_132_84 (by omega) h) ⟨rfl, rfl, rfl, rfl, rfl, rfl, trivial⟩
          · replace h := h.2 g
            refine zf_ld (pc' := 53) (v := .inr (.inr (1, 63))) dX8_copy_52 rfl (fun _ _ _ => rfl) rfl rfl rfl ?_
            refine zf_gfr (pc' := 56) (b := 70) dX8_copy_53 rfl rfl (by decide) rfl rfl ?_
            refine zf_ld (pc' := 57) (v := .inl v2) dX8_copy_56 rfl (fun _ _ _ => rfl) rfl rfl rfl ?_
            refine zf_ial (pc' := 58) dX8_copy_57 rfl (⟨by decide, rfl⟩ : zf_arr 70 8).1 (⟨by decide, rfl⟩ : zf_arr 70 8).2 h.1 rfl ?_
            replace h := h.2
            refine zf_ic (v := 1) (pc' := 59) dX8_copy_58 rfl rfl ?_
            refine zf_icmp_ne (tgt := 84) (pc' := 62) dX8_copy_59 rfl rfl (fun g => ?_) (fun g => ?_)
            · replace h := h.1 g
              exact zf_lo (zq_132_84 (by omega) h) ⟨rfl, rfl, rfl, rfl, rfl, rfl, trivial⟩
            · replace h := h.2 g
              refine zf_ld (pc' := 63) (v := .inr (.inr (1, 63))) dX8_copy_62 rfl (fun _ _ _ => rfl) rfl rfl rfl ?_
              refine zf_gfr (pc' := 66) (b := 71) dX8_copy_63 rfl rfl (by decide) rfl rfl ?_
              refine zf_ld (pc' := 67) (v := .inl v1) dX8_copy_66 rfl (fun _ _ _ => rfl) rfl rfl rfl ?_
              refine zf_ial (pc' := 68) dX8_copy_67 rfl (⟨by decide, rfl⟩ : zf_arr 71 8).1 (⟨by decide, rfl⟩ : zf_arr 71 8).2 h.1 rfl ?_
              replace h := h.2
              refine zf_ld (pc' := 69) (v := .inr (.inr (1, 63))) dX8_copy_68 rfl (fun _ _ _ => rfl) rfl rfl rfl ?_
              refine zf_gfr (pc' := 72) (b := 71) dX8_copy_69 rfl rfl (by decide) rfl rfl ?_
              refine zf_ld (pc' := 73) (v := .inl v2) dX8_copy_72 rfl (fun _ _ _ => rfl) rfl rfl rfl ?_
              refine zf_ial (pc' := 74) dX8_copy_73 rfl (⟨by decide, rfl⟩ : zf_arr 71 8).1 (⟨by decide, rfl⟩ : zf_arr 71 8).2 h.1 rfl ?_
              replace h := h.2
              refine zf_icmp_eq (tgt := 84) (pc' := 77) dX8_copy_74 rfl rfl (fun g => ?_) (fun g => ?_)
              · replace h := h.1 g
                exact zf_lo (zq_132_84 (by omega) h) ⟨rfl, rfl, rfl, rfl, rfl, rfl, trivial⟩
              · replace h := h.2 g
                refine zf_ld (pc' := 78) (v := .inr (.inr (1, 63))) dX8_copy_77 rfl (fun _ _ _ => rfl) rfl rfl rfl ?_
                refine zf_bi (v := (-2)) (pc' := 80) dX8_copy_78 rfl rfl ?_
                refine zf_iv (k := 125) (pc' := 83) (r := []) dX8_copy_80 rfl rfl rfl rfl (by decide) rfl rfl rfl (zr_125 (by omega) h) (zf_kI (fun x29 m30 h => ?_))
                exact zf_ri dX8_copy_83 rfl h
    · replace h := h.2 g
      refine zf_ld (pc' := 17) (v := .inr (.inr (1, 63))) dX8_copy_16 rfl (fun _ _ _ => rfl) rfl rfl rfl ?_
      refine zf_ic (v := (-1)) (pc' := 18) dX8_copy_17 rfl rfl ?_
      refine zf_iv (k := 125) (pc' := 21) (r := []) dX8_copy_18 rfl rfl rfl rfl (by decide) rfl rfl rfl (zr_125 (by omega) h) (zf_kI (fun x31 m32 h => ?_))
      exact zf_ri dX8_copy_21 rfl h
def zt_133 : zx_MT := (8, yX8_element, cX8_element, 3, (some FieldType.long), 2, 0)
theorem zm_133 : zx_m 133 = zt_133 := rfl
theorem dX8_element_r0 : zdcP cX8_element 0 [(.aload_n 0, 1), (.iload_n 1, 1), (.invokevirtual 111, 3), (.ifCond .eq 42, 3), (.aload_n 0, 1), (.getfield 56, 3), (.iload_n 1, 1), (.iaload, 1), (.iconst 1, 1), (.if_icmp .ne 32, 3), (.iload_n 2, 1), (.ifCond .lt 28, 3), (.iload_n 2, 1), (.aload_n 0, 1), (.getfield 62, 3), (.iload_n 1, 1)] := zdcA_ok (by decide +kernel)
theorem dX8_element_0 : decode cX8_element 0 = .ok (.aload_n 0, 1) := dX8_element_r0.1
theorem dX8_element_1 : decode cX8_element 1 = .ok (.iload_n 1, 1) := dX8_element_r0.2.1
theorem dX8_element_2 : decode cX8_element 2 = .ok (.invokevirtual 111, 3) := dX8_element_r0.2.2.1
theorem dX8_element_5 : decode cX8_element 5 = .ok (.ifCond .eq 42, 3) := dX8_element_r0.2.2.2.1
theorem dX8_element_8 : decode cX8_element 8 = .ok (.aload_n 0, 1) := dX8_element_r0.2.2.2.2.1
theorem dX8_element_9 : decode cX8_element 9 = .ok (.getfield 56, 3) := dX8_element_r0.2.2.2.2.2.1
theorem dX8_element_12 : decode cX8_element 12 = .ok (.iload_n 1, 1) := dX8_element_r0.2.2.2.2.2.2.1
theorem dX8_element_13 : decode cX8_element 13 = .ok (.iaload, 1) := dX8_element_r0.2.2.2.2.2.2.2.1
theorem dX8_element_14 : decode cX8_element 14 = .ok (.iconst 1, 1) := dX8_element_r0.2.2.2.2.2.2.2.2.1
theorem dX8_element_15 : decode cX8_element 15 = .ok (.if_icmp .ne 32, 3) := dX8_element_r0.2.2.2.2.2.2.2.2.2.1
theorem dX8_element_18 : decode cX8_element 18 = .ok (.iload_n 2, 1) := dX8_element_r0.2.2.2.2.2.2.2.2.2.2.1
theorem dX8_element_19 : decode cX8_element 19 = .ok (.ifCond .lt 28, 3) := dX8_element_r0.2.2.2.2.2.2.2.2.2.2.2.1
theorem dX8_element_22 : decode cX8_element 22 = .ok (.iload_n 2, 1) := dX8_element_r0.2.2.2.2.2.2.2.2.2.2.2.2.1
theorem dX8_element_23 : decode cX8_element 23 = .ok (.aload_n 0, 1) := dX8_element_r0.2.2.2.2.2.2.2.2.2.2.2.2.2.1
theorem dX8_element_24 : decode cX8_element 24 = .ok (.getfield 62, 3) := dX8_element_r0.2.2.2.2.2.2.2.2.2.2.2.2.2.2.1
theorem dX8_element_27 : decode cX8_element 27 = .ok (.iload_n 1, 1) := dX8_element_r0.2.2.2.2.2.2.2.2.2.2.2.2.2.2.2.1
theorem dX8_element_r28 : zdcP cX8_element 28 [(.iaload, 1), (.if_icmp .ge 18, 3), (.aload_n 0, 1), (.getfield 68, 3), (.sipush 160, 3), (.iload_n 1, 1), (.imul, 1), (.iload_n 2, 1), (.iadd, 1), (.laload, 1), (.goto 4, 3), (.lconst 0, 1), (.lreturn, 1)] := zdcA_ok (by decide +kernel)
theorem dX8_element_28 : decode cX8_element 28 = .ok (.iaload, 1) := dX8_element_r28.1
theorem dX8_element_29 : decode cX8_element 29 = .ok (.if_icmp .ge 18, 3) := dX8_element_r28.2.1
theorem dX8_element_32 : decode cX8_element 32 = .ok (.aload_n 0, 1) := dX8_element_r28.2.2.1
theorem dX8_element_33 : decode cX8_element 33 = .ok (.getfield 68, 3) := dX8_element_r28.2.2.2.1
theorem dX8_element_36 : decode cX8_element 36 = .ok (.sipush 160, 3) := dX8_element_r28.2.2.2.2.1
theorem dX8_element_39 : decode cX8_element 39 = .ok (.iload_n 1, 1) := dX8_element_r28.2.2.2.2.2.1
theorem dX8_element_40 : decode cX8_element 40 = .ok (.imul, 1) := dX8_element_r28.2.2.2.2.2.2.1
theorem dX8_element_41 : decode cX8_element 41 = .ok (.iload_n 2, 1) := dX8_element_r28.2.2.2.2.2.2.2.1
theorem dX8_element_42 : decode cX8_element 42 = .ok (.iadd, 1) := dX8_element_r28.2.2.2.2.2.2.2.2.1
theorem dX8_element_43 : decode cX8_element 43 = .ok (.laload, 1) := dX8_element_r28.2.2.2.2.2.2.2.2.2.1
theorem dX8_element_44 : decode cX8_element 44 = .ok (.goto 4, 3) := dX8_element_r28.2.2.2.2.2.2.2.2.2.2.1
theorem dX8_element_47 : decode cX8_element 47 = .ok (.lconst 0, 1) := dX8_element_r28.2.2.2.2.2.2.2.2.2.2.2.1
theorem dX8_element_48 : decode cX8_element 48 = .ok (.lreturn, 1) := dX8_element_r28.2.2.2.2.2.2.2.2.2.2.2.2.1
def wp_133 (v1 : Int32) (v2 : Int32) (m : zf_Me) (Q : Int64 → zf_Me → Prop) : Prop := wp_127 v1 m (fun b1 m2 => ((b1 = false → Q 0 m2) ∧ (b1 = true → ((0 ≤ (Int32.toInt v1) ∧ (Int32.toInt v1) < (8 : Int)) ∧ ((¬ ((m2.1 70 (Int32.toInt v1).toNat)).toInt = 1 → Q 0 m2) ∧ (((m2.1 70 (Int32.toInt v1).toNat)).toInt = 1 → ((v2.toInt < 0 → Q 0 m2) ∧ (v2.toInt ≥ 0 → ((0 ≤ (Int32.toInt v1) ∧ (Int32.toInt v1) < (8 : Int)) ∧ ((v2.toInt ≥ ((m2.1 72 (Int32.toInt v1).toNat)).toInt → Q 0 m2) ∧ (v2.toInt < ((m2.1 72 (Int32.toInt v1).toNat)).toInt → ((0 ≤ (Int32.toInt ((160 * v1) + v2)) ∧ (Int32.toInt ((160 * v1) + v2)) < (1280 : Int)) ∧ Q (m2.2 74 (Int32.toInt ((160 * v1) + v2)).toNat) m2))))))))))))
theorem zr_133 {d : Nat} (hd : 1 ≤ d) {v1 : Int32} {v2 : Int32} {Q : Int64 → zf_Me → Prop} {m : zf_Me} (h : wp_133 v1 v2 m Q) : zf_M d 133 [.inr (.inr (1, 63)), .inl v1, .inl v2] m (zf_J Q) := by
  obtain ⟨e, rfl⟩ : ∃ z, d = z + 1 := ⟨d - 1, by omega⟩
  unfold wp_133 at h
  refine zf_M_of (Nat.le_of_ble_eq_true rfl) zm_133 (L := [some (.inr (.inr (1, 63))), some (.inl v1), some (.inl v2)]) rfl ?_
  refine zf_ld (pc' := 1) (v := .inr (.inr (1, 63))) dX8_element_0 rfl (fun _ _ _ => rfl) rfl rfl rfl ?_
  refine zf_ld (pc' := 2) (v := .inl v1) dX8_element_1 rfl (fun _ _ _ => rfl) rfl rfl rfl ?_
  refine zf_iv (k := 127) (pc' := 5) (r := []) dX8_element_2 rfl rfl rfl rfl (by decide) rfl rfl rfl (zr_127 (by omega) h) (zf_kB (fun b1 m2 h => ?_))
  refine zf_ib_eq (tgt := 47) (pc' := 8) dX8_element_5 rfl rfl (fun g => ?_) (fun g => ?_)
  · replace h := h.1 g
    refine zf_in (pc' := 48) (S' := [.inr (.inl 0)]) dX8_element_47 rfl (fun _ _ _ => rfl) ?_
    exact zf_rl dX8_element_48 rfl h
  · replace h := h.2 g
    refine zf_ld (pc' := 9) (v := .inr (.inr (1, 63))) dX8_element_8 rfl (fun _ _ _ => rfl) rfl rfl rfl ?_
    refine zf_gfr (pc' := 12) (b := 70) dX8_element_9 rfl rfl (by decide) rfl rfl ?_
    refine zf_ld (pc' := 13) (v := .inl v1) dX8_element_12 rfl (fun _ _ _ => rfl) rfl rfl rfl ?_
    refine zf_ial (pc' := 14) dX8_element_13 rfl (⟨by decide, rfl⟩ : zf_arr 70 8).1 (⟨by decide, rfl⟩ : zf_arr 70 8).2 h.1 rfl ?_
    replace h := h.2
    refine zf_ic (v := 1) (pc' := 15) dX8_element_14 rfl rfl ?_
    refine zf_icmp_ne (tgt := 47) (pc' := 18) dX8_element_15 rfl rfl (fun g => ?_) (fun g => ?_)
    · replace h := h.1 g
      refine zf_in (pc' := 48) (S' := [.inr (.inl 0)]) dX8_element_47 rfl (fun _ _ _ => rfl) ?_
      exact zf_rl dX8_element_48 rfl h
    · replace h := h.2 g
      refine zf_ld (pc' := 19) (v := .inl v2) dX8_element_18 rfl (fun _ _ _ => rfl) rfl rfl rfl ?_
      refine zf_if_lt (tgt := 47) (pc' := 22) dX8_element_19 rfl rfl (fun g => ?_) (fun g => ?_)
      · replace h := h.1 g
        refine zf_in (pc' := 48) (S' := [.inr (.inl 0)]) dX8_element_47 rfl (fun _ _ _ => rfl) ?_
        exact zf_rl dX8_element_48 rfl h
      · replace h := h.2 g
        refine zf_ld (pc' := 23) (v := .inl v2) dX8_element_22 rfl (fun _ _ _ => rfl) rfl rfl rfl ?_
        refine zf_ld (pc' := 24) (v := .inr (.inr (1, 63))) dX8_element_23 rfl (fun _ _ _ => rfl) rfl rfl rfl ?_
        refine zf_gfr (pc' := 27) (b := 72) dX8_element_24 rfl rfl (by decide) rfl rfl ?_
        refine zf_ld (pc' := 28) (v := .inl v1) dX8_element_27 rfl (fun _ _ _ => rfl) rfl rfl rfl ?_
        refine zf_ial (pc' := 29) dX8_element_28 rfl (⟨by decide, rfl⟩ : zf_arr 72 8).1 (⟨by decide, rfl⟩ : zf_arr 72 8).2 h.1 rfl ?_
        replace h := h.2
        refine zf_icmp_ge (tgt := 47) (pc' := 32) dX8_element_29 rfl rfl (fun g => ?_) (fun g => ?_)
        · replace h := h.1 g
          refine zf_in (pc' := 48) (S' := [.inr (.inl 0)]) dX8_element_47 rfl (fun _ _ _ => rfl) ?_
          exact zf_rl dX8_element_48 rfl h
        · replace h := h.2 g
          refine zf_ld (pc' := 33) (v := .inr (.inr (1, 63))) dX8_element_32 rfl (fun _ _ _ => rfl) rfl rfl rfl ?_
          refine zf_gfr (pc' := 36) (b := 74) dX8_element_33 rfl rfl (by decide) rfl rfl ?_
          refine zf_si (v := 160) (pc' := 39) dX8_element_36 rfl rfl ?_
          refine zf_ld (pc' := 40) (v := .inl v1) dX8_element_39 rfl (fun _ _ _ => rfl) rfl rfl rfl ?_
          refine zf_in (pc' := 41) (S' := [.inl (160 * v1), .inr (.inr (1, 74))]) dX8_element_40 rfl (fun _ _ _ => rfl) ?_
          refine zf_ld (pc' := 42) (v := .inl v2) dX8_element_41 rfl (fun _ _ _ => rfl) rfl rfl rfl ?_
          refine zf_in (pc' := 43) (S' := [.inl ((160 * v1) + v2), .inr (.inr (1, 74))]) dX8_element_42 rfl (fun _ _ _ => rfl) ?_
          refine zf_lal (pc' := 44) dX8_element_43 rfl (⟨by decide, rfl⟩ : zf_larr 74 1280).1 (⟨by decide, rfl⟩ : zf_larr 74 1280).2 h.1 rfl ?_
          replace h := h.2
          refine zf_goto (tgt := 48) dX8_element_44 rfl ?_
          exact zf_rl dX8_element_48 rfl h
def zt_134 : zx_MT := (8, yX8_show, cX8_show, 3, (some FieldType.int), 2, 0)
theorem zm_134 : zx_m 134 = zt_134 := rfl
theorem dX8_show_r0 : zdcP cX8_show 0 [(.aload_n 0, 1), (.iload_n 1, 1), (.invokevirtual 111, 3), (.ifCond .eq 16, 3), (.iload_n 2, 1), (.iconst (-1), 1), (.if_icmp .eq 17, 3), (.aload_n 0, 1), (.iload_n 2, 1), (.invokevirtual 119, 3), (.ifCond .ne 9, 3), (.aload_n 0, 1), (.iconst (-1), 1), (.invokevirtual 115, 3), (.ireturn, 1), (.aload_n 0, 1)] := zdcA_ok (by decide +kernel)
theorem dX8_show_0 : decode cX8_show 0 = .ok (.aload_n 0, 1) := dX8_show_r0.1
theorem dX8_show_1 : decode cX8_show 1 = .ok (.iload_n 1, 1) := dX8_show_r0.2.1
theorem dX8_show_2 : decode cX8_show 2 = .ok (.invokevirtual 111, 3) := dX8_show_r0.2.2.1
theorem dX8_show_5 : decode cX8_show 5 = .ok (.ifCond .eq 16, 3) := dX8_show_r0.2.2.2.1
theorem dX8_show_8 : decode cX8_show 8 = .ok (.iload_n 2, 1) := dX8_show_r0.2.2.2.2.1
theorem dX8_show_9 : decode cX8_show 9 = .ok (.iconst (-1), 1) := dX8_show_r0.2.2.2.2.2.1
theorem dX8_show_10 : decode cX8_show 10 = .ok (.if_icmp .eq 17, 3) := dX8_show_r0.2.2.2.2.2.2.1
theorem dX8_show_13 : decode cX8_show 13 = .ok (.aload_n 0, 1) := dX8_show_r0.2.2.2.2.2.2.2.1
theorem dX8_show_14 : decode cX8_show 14 = .ok (.iload_n 2, 1) := dX8_show_r0.2.2.2.2.2.2.2.2.1
theorem dX8_show_15 : decode cX8_show 15 = .ok (.invokevirtual 119, 3) := dX8_show_r0.2.2.2.2.2.2.2.2.2.1
theorem dX8_show_18 : decode cX8_show 18 = .ok (.ifCond .ne 9, 3) := dX8_show_r0.2.2.2.2.2.2.2.2.2.2.1
theorem dX8_show_21 : decode cX8_show 21 = .ok (.aload_n 0, 1) := dX8_show_r0.2.2.2.2.2.2.2.2.2.2.2.1
theorem dX8_show_22 : decode cX8_show 22 = .ok (.iconst (-1), 1) := dX8_show_r0.2.2.2.2.2.2.2.2.2.2.2.2.1
theorem dX8_show_23 : decode cX8_show 23 = .ok (.invokevirtual 115, 3) := dX8_show_r0.2.2.2.2.2.2.2.2.2.2.2.2.2.1
theorem dX8_show_26 : decode cX8_show 26 = .ok (.ireturn, 1) := dX8_show_r0.2.2.2.2.2.2.2.2.2.2.2.2.2.2.1
theorem dX8_show_27 : decode cX8_show 27 = .ok (.aload_n 0, 1) := dX8_show_r0.2.2.2.2.2.2.2.2.2.2.2.2.2.2.2.1
theorem dX8_show_r28 : zdcP cX8_show 28 [(.getfield 56, 3), (.iload_n 1, 1), (.iload_n 2, 1), (.iconst (-1), 1), (.if_icmp .ne 7, 3), (.iconst 0, 1), (.goto 4, 3), (.iconst 2, 1), (.iastore, 1), (.aload_n 0, 1), (.getfield 65, 3), (.iload_n 1, 1), (.iload_n 2, 1), (.iastore, 1), (.iload_n 2, 1), (.iconst (-1), 1)] := zdcA_ok (by decide +kernel)
theorem dX8_show_28 : decode cX8_show 28 = .ok (.getfield 56, 3) := dX8_show_r28.1
theorem dX8_show_31 : decode cX8_show 31 = .ok (.iload_n 1, 1) := dX8_show_r28.2.1
theorem dX8_show_32 : decode cX8_show 32 = .ok (.iload_n 2, 1) := dX8_show_r28.2.2.1
theorem dX8_show_33 : decode cX8_show 33 = .ok (.iconst (-1), 1) := dX8_show_r28.2.2.2.1
theorem dX8_show_34 : decode cX8_show 34 = .ok (.if_icmp .ne 7, 3) := dX8_show_r28.2.2.2.2.1
theorem dX8_show_37 : decode cX8_show 37 = .ok (.iconst 0, 1) := dX8_show_r28.2.2.2.2.2.1
theorem dX8_show_38 : decode cX8_show 38 = .ok (.goto 4, 3) := dX8_show_r28.2.2.2.2.2.2.1
theorem dX8_show_41 : decode cX8_show 41 = .ok (.iconst 2, 1) := dX8_show_r28.2.2.2.2.2.2.2.1
theorem dX8_show_42 : decode cX8_show 42 = .ok (.iastore, 1) := dX8_show_r28.2.2.2.2.2.2.2.2.1
theorem dX8_show_43 : decode cX8_show 43 = .ok (.aload_n 0, 1) := dX8_show_r28.2.2.2.2.2.2.2.2.2.1
theorem dX8_show_44 : decode cX8_show 44 = .ok (.getfield 65, 3) := dX8_show_r28.2.2.2.2.2.2.2.2.2.2.1
theorem dX8_show_47 : decode cX8_show 47 = .ok (.iload_n 1, 1) := dX8_show_r28.2.2.2.2.2.2.2.2.2.2.2.1
theorem dX8_show_48 : decode cX8_show 48 = .ok (.iload_n 2, 1) := dX8_show_r28.2.2.2.2.2.2.2.2.2.2.2.2.1
theorem dX8_show_49 : decode cX8_show 49 = .ok (.iastore, 1) := dX8_show_r28.2.2.2.2.2.2.2.2.2.2.2.2.2.1
theorem dX8_show_50 : decode cX8_show 50 = .ok (.iload_n 2, 1) := dX8_show_r28.2.2.2.2.2.2.2.2.2.2.2.2.2.2.1
theorem dX8_show_51 : decode cX8_show 51 = .ok (.iconst (-1), 1) := dX8_show_r28.2.2.2.2.2.2.2.2.2.2.2.2.2.2.2.1
theorem dX8_show_r52 : zdcP cX8_show 52 [(.if_icmp .ne 7, 3), (.iconst 0, 1), (.goto 4, 3), (.iconst 1, 1), (.ireturn, 1)] := zdcA_ok (by decide +kernel)
theorem dX8_show_52 : decode cX8_show 52 = .ok (.if_icmp .ne 7, 3) := dX8_show_r52.1
theorem dX8_show_55 : decode cX8_show 55 = .ok (.iconst 0, 1) := dX8_show_r52.2.1
theorem dX8_show_56 : decode cX8_show 56 = .ok (.goto 4, 3) := dX8_show_r52.2.2.1
theorem dX8_show_59 : decode cX8_show 59 = .ok (.iconst 1, 1) := dX8_show_r52.2.2.2.1
theorem dX8_show_60 : decode cX8_show 60 = .ok (.ireturn, 1) := dX8_show_r52.2.2.2.2.1
def wq_134_42 (v1 : Int32) (v2 : Int32) (u0 : Int32) (u1 : Int32) (m : zf_Me) (Q : Int32 → zf_Me → Prop) : Prop := ((0 ≤ (Int32.toInt u1) ∧ (Int32.toInt u1) < (8 : Int)) ∧ ∀ m5, m5 = zf_u m 70 (Int32.toInt u1).toNat u0 → ((0 ≤ (Int32.toInt v1) ∧ (Int32.toInt v1) < (8 : Int)) ∧ ∀ m7, m7 = zf_u m5 73 (Int32.toInt v1).toNat v2 → ((¬ v2.toInt = (-1) → Q 1 m7) ∧ (v2.toInt = (-1) → Q 0 m7))))
theorem zq_134_42 {d : Nat} (hd : 1 ≤ d) {v1 : Int32} {v2 : Int32} {Q : Int32 → zf_Me → Prop} {u0 : Int32} {u1 : Int32} {m : zf_Me} (h : wq_134_42 v1 v2 u0 u1 m Q) : zf_W none 0 0 d zt_134 42 [some (.inr (.inr (1, 63))), some (.inl v1), some (.inl v2)] [.inl u0, .inl u1, .inr (.inr (1, 70))] m (zf_I Q) := by
  unfold wq_134_42 at h
  refine zf_ias (pc' := 43) dX8_show_42 rfl (⟨by decide, rfl⟩ : zf_arr 70 8).1 (⟨by decide, rfl⟩ : zf_arr 70 8).2 h.1 rfl (fun m5 e6 => ?_)
  replace h := h.2 m5 e6
  refine zf_ld (pc' := 44) (v := .inr (.inr (1, 63))) dX8_show_43 rfl (fun _ _ _ => rfl) rfl rfl rfl ?_
  refine zf_gfr (pc' := 47) (b := 73) dX8_show_44 rfl rfl (by decide) rfl rfl ?_
  refine zf_ld (pc' := 48) (v := .inl v1) dX8_show_47 rfl (fun _ _ _ => rfl) rfl rfl rfl ?_
  refine zf_ld (pc' := 49) (v := .inl v2) dX8_show_48 rfl (fun _ _ _ => rfl) rfl rfl rfl ?_
  refine zf_ias (pc' := 50) dX8_show_49 rfl (⟨by decide, rfl⟩ : zf_arr 73 8).1 (⟨by decide, rfl⟩ : zf_arr 73 8).2 h.1 rfl (fun m7 e8 => ?_)
  replace h := h.2 m7 e8
  refine zf_ld (pc' := 51) (v := .inl v2) dX8_show_50 rfl (fun _ _ _ => rfl) rfl rfl rfl ?_
  refine zf_ic (v := (-1)) (pc' := 52) dX8_show_51 rfl rfl ?_
  refine zf_icmp_ne (tgt := 59) (pc' := 55) dX8_show_52 rfl rfl (fun g => ?_) (fun g => ?_)
  · replace h := h.1 g
    refine zf_ic (v := 1) (pc' := 60) dX8_show_59 rfl rfl ?_
    exact zf_ri dX8_show_60 rfl h
  · replace h := h.2 g
    refine zf_ic (v := 0) (pc' := 56) dX8_show_55 rfl rfl ?_
    refine zf_goto (tgt := 60) dX8_show_56 rfl ?_
    exact zf_ri dX8_show_60 rfl h
def wq_134_27 (v1 : Int32) (v2 : Int32) (m : zf_Me) (Q : Int32 → zf_Me → Prop) : Prop := ((¬ v2.toInt = (-1) → wq_134_42 v1 v2 2 v1 m Q) ∧ (v2.toInt = (-1) → wq_134_42 v1 v2 0 v1 m Q))
theorem zq_134_27 {d : Nat} (hd : 1 ≤ d) {v1 : Int32} {v2 : Int32} {Q : Int32 → zf_Me → Prop} {m : zf_Me} (h : wq_134_27 v1 v2 m Q) : zf_W none 0 0 d zt_134 27 [some (.inr (.inr (1, 63))), some (.inl v1), some (.inl v2)] [] m (zf_I Q) := by
  unfold wq_134_27 at h
  refine zf_ld (pc' := 28) (v := .inr (.inr (1, 63))) dX8_show_27 rfl (fun _ _ _ => rfl) rfl rfl rfl ?_
  refine zf_gfr (pc' := 31) (b := 70) dX8_show_28 rfl rfl (by decide) rfl rfl ?_
  refine zf_ld (pc' := 32) (v := .inl v1) dX8_show_31 rfl (fun _ _ _ => rfl) rfl rfl rfl ?_
  refine zf_ld (pc' := 33) (v := .inl v2) dX8_show_32 rfl (fun _ _ _ => rfl) rfl rfl rfl ?_
  refine zf_ic (v := (-1)) (pc' := 34) dX8_show_33 rfl rfl ?_
  refine zf_icmp_ne (tgt := 41) (pc' := 37) dX8_show_34 rfl rfl (fun g => ?_) (fun g => ?_)
  · replace h := h.1 g
    refine zf_ic (v := 2) (pc' := 42) dX8_show_41 rfl rfl ?_
    exact zf_lo (zq_134_42 (by omega) h) ⟨rfl, rfl, rfl, trivial⟩
  · replace h := h.2 g
    refine zf_ic (v := 0) (pc' := 38) dX8_show_37 rfl rfl ?_
    refine zf_goto (tgt := 42) dX8_show_38 rfl ?_
    exact zf_lo (zq_134_42 (by omega) h) ⟨rfl, rfl, rfl, trivial⟩
def wp_134 (v1 : Int32) (v2 : Int32) (m : zf_Me) (Q : Int32 → zf_Me → Prop) : Prop := wp_127 v1 m (fun b1 m2 => ((b1 = false → wp_125 (-1) m2 (fun x3 m4 => Q x3 m4)) ∧ (b1 = true → ((v2.toInt = (-1) → wq_134_27 v1 v2 m2 Q) ∧ (¬ v2.toInt = (-1) → wp_128 v2 m2 (fun b9 m10 => ((b9 = true → wq_134_27 v1 v2 m10 Q) ∧ (b9 = false → wp_125 (-1) m10 (fun x11 m12 => Q x11 m12)))))))))
theorem zr_134 {d : Nat} (hd : 1 ≤ d) {v1 : Int32} {v2 : Int32} {Q : Int32 → zf_Me → Prop} {m : zf_Me} (h : wp_134 v1 v2 m Q) : zf_M d 134 [.inr (.inr (1, 63)), .inl v1, .inl v2] m (zf_I Q) := by
  obtain ⟨e, rfl⟩ : ∃ z, d = z + 1 := ⟨d - 1, by omega⟩
  unfold wp_134 at h
  refine zf_M_of (Nat.le_of_ble_eq_true rfl) zm_134 (L := [some (.inr (.inr (1, 63))), some (.inl v1), some (.inl v2)]) rfl ?_
  refine zf_ld (pc' := 1) (v := .inr (.inr (1, 63))) dX8_show_0 rfl (fun _ _ _ => rfl) rfl rfl rfl ?_
  refine zf_ld (pc' := 2) (v := .inl v1) dX8_show_1 rfl (fun _ _ _ => rfl) rfl rfl rfl ?_
  refine zf_iv (k := 127) (pc' := 5) (r := []) dX8_show_2 rfl rfl rfl rfl (by decide) rfl rfl rfl (zr_127 (by omega) h) (zf_kB (fun b1 m2 h => ?_))
  refine zf_ib_eq (tgt := 21) (pc' := 8) dX8_show_5 rfl rfl (fun g => ?_) (fun g => ?_)
  · replace h := h.1 g
    refine zf_ld (pc' := 22) (v := .inr (.inr (1, 63))) dX8_show_21 rfl (fun _ _ _ => rfl) rfl rfl rfl ?_
    refine zf_ic (v := (-1)) (pc' := 23) dX8_show_22 rfl rfl ?_
    refine zf_iv (k := 125) (pc' := 26) (r := []) dX8_show_23 rfl rfl rfl rfl (by decide) rfl rfl rfl (zr_125 (by omega) h) (zf_kI (fun x3 m4 h => ?_))
    exact zf_ri dX8_show_26 rfl h
  · replace h := h.2 g
    refine zf_ld (pc' := 9) (v := .inl v2) dX8_show_8 rfl (fun _ _ _ => rfl) rfl rfl rfl ?_
    refine zf_ic (v := (-1)) (pc' := 10) dX8_show_9 rfl rfl ?_
    refine zf_icmp_eq (tgt := 27) (pc' := 13) dX8_show_10 rfl rfl (fun g => ?_) (fun g => ?_)
    · replace h := h.1 g
      exact zf_lo (zq_134_27 (by omega) h) ⟨rfl, rfl, rfl, trivial⟩
    · replace h := h.2 g
      refine zf_ld (pc' := 14) (v := .inr (.inr (1, 63))) dX8_show_13 rfl (fun _ _ _ => rfl) rfl rfl rfl ?_
      refine zf_ld (pc' := 15) (v := .inl v2) dX8_show_14 rfl (fun _ _ _ => rfl) rfl rfl rfl ?_
      refine zf_iv (k := 128) (pc' := 18) (r := []) dX8_show_15 rfl rfl rfl rfl (by decide) rfl rfl rfl (zr_128 (by omega) h) (zf_kB (fun b9 m10 h => ?_))
      refine zf_ib_ne (tgt := 27) (pc' := 21) dX8_show_18 rfl rfl (fun g => ?_) (fun g => ?_)
      · replace h := h.1 g
        exact zf_lo (zq_134_27 (by omega) h) ⟨rfl, rfl, rfl, trivial⟩
      · replace h := h.2 g
        refine zf_ld (pc' := 22) (v := .inr (.inr (1, 63))) dX8_show_21 rfl (fun _ _ _ => rfl) rfl rfl rfl ?_
        refine zf_ic (v := (-1)) (pc' := 23) dX8_show_22 rfl rfl ?_
        refine zf_iv (k := 125) (pc' := 26) (r := []) dX8_show_23 rfl rfl rfl rfl (by decide) rfl rfl rfl (zr_125 (by omega) h) (zf_kI (fun x11 m12 h => ?_))
        exact zf_ri dX8_show_26 rfl h
def zt_135 : zx_MT := (8, yX8_holds, cX8_holds, 2, (some FieldType.int), 1, 0)
theorem zm_135 : zx_m 135 = zt_135 := rfl
theorem dX8_holds_r0 : zdcP cX8_holds 0 [(.aload_n 0, 1), (.iload_n 1, 1), (.invokevirtual 111, 3), (.ifCond .eq 12, 3), (.aload_n 0, 1), (.getfield 56, 3), (.iload_n 1, 1), (.iaload, 1), (.ifCond .ne 5, 3), (.iconst (-1), 1), (.ireturn, 1), (.aload_n 0, 1), (.getfield 56, 3), (.iload_n 1, 1), (.iaload, 1), (.iconst 1, 1)] := zdcA_ok (by decide +kernel)
theorem dX8_holds_0 : decode cX8_holds 0 = .ok (.aload_n 0, 1) := dX8_holds_r0.1
theorem dX8_holds_1 : decode cX8_holds 1 = .ok (.iload_n 1, 1) := dX8_holds_r0.2.1
theorem dX8_holds_2 : decode cX8_holds 2 = .ok (.invokevirtual 111, 3) := dX8_holds_r0.2.2.1
theorem dX8_holds_5 : decode cX8_holds 5 = .ok (.ifCond .eq 12, 3) := dX8_holds_r0.2.2.2.1
theorem dX8_holds_8 : decode cX8_holds 8 = .ok (.aload_n 0, 1) := dX8_holds_r0.2.2.2.2.1
theorem dX8_holds_9 : decode cX8_holds 9 = .ok (.getfield 56, 3) := dX8_holds_r0.2.2.2.2.2.1
theorem dX8_holds_12 : decode cX8_holds 12 = .ok (.iload_n 1, 1) := dX8_holds_r0.2.2.2.2.2.2.1
theorem dX8_holds_13 : decode cX8_holds 13 = .ok (.iaload, 1) := dX8_holds_r0.2.2.2.2.2.2.2.1
theorem dX8_holds_14 : decode cX8_holds 14 = .ok (.ifCond .ne 5, 3) := dX8_holds_r0.2.2.2.2.2.2.2.2.1
theorem dX8_holds_17 : decode cX8_holds 17 = .ok (.iconst (-1), 1) := dX8_holds_r0.2.2.2.2.2.2.2.2.2.1
theorem dX8_holds_18 : decode cX8_holds 18 = .ok (.ireturn, 1) := dX8_holds_r0.2.2.2.2.2.2.2.2.2.2.1
theorem dX8_holds_19 : decode cX8_holds 19 = .ok (.aload_n 0, 1) := dX8_holds_r0.2.2.2.2.2.2.2.2.2.2.2.1
theorem dX8_holds_20 : decode cX8_holds 20 = .ok (.getfield 56, 3) := dX8_holds_r0.2.2.2.2.2.2.2.2.2.2.2.2.1
theorem dX8_holds_23 : decode cX8_holds 23 = .ok (.iload_n 1, 1) := dX8_holds_r0.2.2.2.2.2.2.2.2.2.2.2.2.2.1
theorem dX8_holds_24 : decode cX8_holds 24 = .ok (.iaload, 1) := dX8_holds_r0.2.2.2.2.2.2.2.2.2.2.2.2.2.2.1
theorem dX8_holds_25 : decode cX8_holds 25 = .ok (.iconst 1, 1) := dX8_holds_r0.2.2.2.2.2.2.2.2.2.2.2.2.2.2.2.1
theorem dX8_holds_r26 : zdcP cX8_holds 26 [(.if_icmp .ne 15, 3), (.bipush 100, 2), (.aload_n 0, 1), (.getfield 59, 3), (.iload_n 1, 1), (.iaload, 1), (.iadd, 1), (.goto 9, 3), (.aload_n 0, 1), (.getfield 65, 3), (.iload_n 1, 1), (.iaload, 1), (.ireturn, 1)] := zdcA_ok (by decide +kernel)
theorem dX8_holds_26 : decode cX8_holds 26 = .ok (.if_icmp .ne 15, 3) := dX8_holds_r26.1
theorem dX8_holds_29 : decode cX8_holds 29 = .ok (.bipush 100, 2) := dX8_holds_r26.2.1
theorem dX8_holds_31 : decode cX8_holds 31 = .ok (.aload_n 0, 1) := dX8_holds_r26.2.2.1
theorem dX8_holds_32 : decode cX8_holds 32 = .ok (.getfield 59, 3) := dX8_holds_r26.2.2.2.1
theorem dX8_holds_35 : decode cX8_holds 35 = .ok (.iload_n 1, 1) := dX8_holds_r26.2.2.2.2.1
theorem dX8_holds_36 : decode cX8_holds 36 = .ok (.iaload, 1) := dX8_holds_r26.2.2.2.2.2.1
theorem dX8_holds_37 : decode cX8_holds 37 = .ok (.iadd, 1) := dX8_holds_r26.2.2.2.2.2.2.1
theorem dX8_holds_38 : decode cX8_holds 38 = .ok (.goto 9, 3) := dX8_holds_r26.2.2.2.2.2.2.2.1
theorem dX8_holds_41 : decode cX8_holds 41 = .ok (.aload_n 0, 1) := dX8_holds_r26.2.2.2.2.2.2.2.2.1
theorem dX8_holds_42 : decode cX8_holds 42 = .ok (.getfield 65, 3) := dX8_holds_r26.2.2.2.2.2.2.2.2.2.1
theorem dX8_holds_45 : decode cX8_holds 45 = .ok (.iload_n 1, 1) := dX8_holds_r26.2.2.2.2.2.2.2.2.2.2.1
theorem dX8_holds_46 : decode cX8_holds 46 = .ok (.iaload, 1) := dX8_holds_r26.2.2.2.2.2.2.2.2.2.2.2.1
theorem dX8_holds_47 : decode cX8_holds 47 = .ok (.ireturn, 1) := dX8_holds_r26.2.2.2.2.2.2.2.2.2.2.2.2.1
def wp_135 (v1 : Int32) (m : zf_Me) (Q : Int32 → zf_Me → Prop) : Prop := wp_127 v1 m (fun b1 m2 => ((b1 = false → Q (-1) m2) ∧ (b1 = true → ((0 ≤ (Int32.toInt v1) ∧ (Int32.toInt v1) < (8 : Int)) ∧ ((¬ ((m2.1 70 (Int32.toInt v1).toNat)).toInt = 0 → ((0 ≤ (Int32.toInt v1) ∧ (Int32.toInt v1) < (8 : Int)) ∧ ((¬ ((m2.1 70 (Int32.toInt v1).toNat)).toInt = 1 → ((0 ≤ (Int32.toInt v1) ∧ (Int32.toInt v1) < (8 : Int)) ∧ Q (m2.1 73 (Int32.toInt v1).toNat) m2)) ∧ (((m2.1 70 (Int32.toInt v1).toNat)).toInt = 1 → ((0 ≤ (Int32.toInt v1) ∧ (Int32.toInt v1) < (8 : Int)) ∧ Q (100 + (m2.1 71 (Int32.toInt v1).toNat)) m2))))) ∧ (((m2.1 70 (Int32.toInt v1).toNat)).toInt = 0 → Q (-1) m2))))))
theorem zr_135 {d : Nat} (hd : 1 ≤ d) {v1 : Int32} {Q : Int32 → zf_Me → Prop} {m : zf_Me} (h : wp_135 v1 m Q) : zf_M d 135 [.inr (.inr (1, 63)), .inl v1] m (zf_I Q) := by
  obtain ⟨e, rfl⟩ : ∃ z, d = z + 1 := ⟨d - 1, by omega⟩
  unfold wp_135 at h
  refine zf_M_of (Nat.le_of_ble_eq_true rfl) zm_135 (L := [some (.inr (.inr (1, 63))), some (.inl v1)]) rfl ?_
  refine zf_ld (pc' := 1) (v := .inr (.inr (1, 63))) dX8_holds_0 rfl (fun _ _ _ => rfl) rfl rfl rfl ?_
  refine zf_ld (pc' := 2) (v := .inl v1) dX8_holds_1 rfl (fun _ _ _ => rfl) rfl rfl rfl ?_
  refine zf_iv (k := 127) (pc' := 5) (r := []) dX8_holds_2 rfl rfl rfl rfl (by decide) rfl rfl rfl (zr_127 (by omega) h) (zf_kB (fun b1 m2 h => ?_))
  refine zf_ib_eq (tgt := 17) (pc' := 8) dX8_holds_5 rfl rfl (fun g => ?_) (fun g => ?_)
  · replace h := h.1 g
    refine zf_ic (v := (-1)) (pc' := 18) dX8_holds_17 rfl rfl ?_
    exact zf_ri dX8_holds_18 rfl h
  · replace h := h.2 g
    refine zf_ld (pc' := 9) (v := .inr (.inr (1, 63))) dX8_holds_8 rfl (fun _ _ _ => rfl) rfl rfl rfl ?_
    refine zf_gfr (pc' := 12) (b := 70) dX8_holds_9 rfl rfl (by decide) rfl rfl ?_
    refine zf_ld (pc' := 13) (v := .inl v1) dX8_holds_12 rfl (fun _ _ _ => rfl) rfl rfl rfl ?_
    refine zf_ial (pc' := 14) dX8_holds_13 rfl (⟨by decide, rfl⟩ : zf_arr 70 8).1 (⟨by decide, rfl⟩ : zf_arr 70 8).2 h.1 rfl ?_
    replace h := h.2
    refine zf_if_ne (tgt := 19) (pc' := 17) dX8_holds_14 rfl rfl (fun g => ?_) (fun g => ?_)
    · replace h := h.1 g
      refine zf_ld (pc' := 20) (v := .inr (.inr (1, 63))) dX8_holds_19 rfl (fun _ _ _ => rfl) rfl rfl rfl ?_
      refine zf_gfr (pc' := 23) (b := 70) dX8_holds_20 rfl rfl (by decide) rfl rfl ?_
      refine zf_ld (pc' := 24) (v := .inl v1) dX8_holds_23 rfl (fun _ _ _ => rfl) rfl rfl rfl ?_
      refine zf_ial (pc' := 25) dX8_holds_24 rfl (⟨by decide, rfl⟩ : zf_arr 70 8).1 (⟨by decide, rfl⟩ : zf_arr 70 8).2 h.1 rfl ?_
      replace h := h.2
      refine zf_ic (v := 1) (pc' := 26) dX8_holds_25 rfl rfl ?_
      refine zf_icmp_ne (tgt := 41) (pc' := 29) dX8_holds_26 rfl rfl (fun g => ?_) (fun g => ?_)
      · replace h := h.1 g
        refine zf_ld (pc' := 42) (v := .inr (.inr (1, 63))) dX8_holds_41 rfl (fun _ _ _ => rfl) rfl rfl rfl ?_
        refine zf_gfr (pc' := 45) (b := 73) dX8_holds_42 rfl rfl (by decide) rfl rfl ?_
        refine zf_ld (pc' := 46) (v := .inl v1) dX8_holds_45 rfl (fun _ _ _ => rfl) rfl rfl rfl ?_
        refine zf_ial (pc' := 47) dX8_holds_46 rfl (⟨by decide, rfl⟩ : zf_arr 73 8).1 (⟨by decide, rfl⟩ : zf_arr 73 8).2 h.1 rfl ?_
        replace h := h.2
        exact zf_ri dX8_holds_47 rfl h
      · replace h := h.2 g
        refine zf_bi (v := 100) (pc' := 31) dX8_holds_29 rfl rfl ?_
        refine zf_ld (pc' := 32) (v := .inr (.inr (1, 63))) dX8_holds_31 rfl (fun _ _ _ => rfl) rfl rfl rfl ?_
        refine zf_gfr (pc' := 35) (b := 71) dX8_holds_32 rfl rfl (by decide) rfl rfl ?_
        refine zf_ld (pc' := 36) (v := .inl v1) dX8_holds_35 rfl (fun _ _ _ => rfl) rfl rfl rfl ?_
        refine zf_ial (pc' := 37) dX8_holds_36 rfl (⟨by decide, rfl⟩ : zf_arr 71 8).1 (⟨by decide, rfl⟩ : zf_arr 71 8).2 h.1 rfl ?_
        replace h := h.2
        refine zf_in (pc' := 38) (S' := [.inl (100 + (m2.1 71 (Int32.toInt v1).toNat))]) dX8_holds_37 rfl (fun _ _ _ => rfl) ?_
        refine zf_goto (tgt := 47) dX8_holds_38 rfl ?_
        exact zf_ri dX8_holds_47 rfl h
    · replace h := h.2 g
      refine zf_ic (v := (-1)) (pc' := 18) dX8_holds_17 rfl rfl ?_
      exact zf_ri dX8_holds_18 rfl h
def zt_164 : zx_MT := (8, yX8_isAsleep, cX8_isAsleep, 1, (some FieldType.boolean), 0, 0)
theorem zm_164 : zx_m 164 = zt_164 := rfl
theorem dX8_isAsleep_r0 : zdcP cX8_isAsleep 0 [(.aload_n 0, 1), (.getfield 204, 3), (.aload_n 0, 1), (.getfield 19, 3), (.if_icmp .lt 7, 3), (.iconst 1, 1), (.goto 4, 3), (.iconst 0, 1), (.ireturn, 1)] := zdcA_ok (by decide +kernel)
theorem dX8_isAsleep_0 : decode cX8_isAsleep 0 = .ok (.aload_n 0, 1) := dX8_isAsleep_r0.1
theorem dX8_isAsleep_1 : decode cX8_isAsleep 1 = .ok (.getfield 204, 3) := dX8_isAsleep_r0.2.1
theorem dX8_isAsleep_4 : decode cX8_isAsleep 4 = .ok (.aload_n 0, 1) := dX8_isAsleep_r0.2.2.1
theorem dX8_isAsleep_5 : decode cX8_isAsleep 5 = .ok (.getfield 19, 3) := dX8_isAsleep_r0.2.2.2.1
theorem dX8_isAsleep_8 : decode cX8_isAsleep 8 = .ok (.if_icmp .lt 7, 3) := dX8_isAsleep_r0.2.2.2.2.1
theorem dX8_isAsleep_11 : decode cX8_isAsleep 11 = .ok (.iconst 1, 1) := dX8_isAsleep_r0.2.2.2.2.2.1
theorem dX8_isAsleep_12 : decode cX8_isAsleep 12 = .ok (.goto 4, 3) := dX8_isAsleep_r0.2.2.2.2.2.2.1
theorem dX8_isAsleep_15 : decode cX8_isAsleep 15 = .ok (.iconst 0, 1) := dX8_isAsleep_r0.2.2.2.2.2.2.2.1
theorem dX8_isAsleep_16 : decode cX8_isAsleep 16 = .ok (.ireturn, 1) := dX8_isAsleep_r0.2.2.2.2.2.2.2.2.1
def wp_164 (m : zf_Me) (Q : Bool → zf_Me → Prop) : Prop := ((((m.1 63 6)).toInt < ((m.1 63 5)).toInt → Q false m) ∧ (((m.1 63 6)).toInt ≥ ((m.1 63 5)).toInt → Q true m))
theorem zr_164 {d : Nat} (hd : 0 ≤ d) {Q : Bool → zf_Me → Prop} {m : zf_Me} (h : wp_164 m Q) : zf_M d 164 [.inr (.inr (1, 63))] m (zf_B Q) := by
  unfold wp_164 at h
  refine zf_M_of (Nat.le_of_ble_eq_true rfl) zm_164 (L := [some (.inr (.inr (1, 63)))]) rfl ?_
  refine zf_ld (pc' := 1) (v := .inr (.inr (1, 63))) dX8_isAsleep_0 rfl (fun _ _ _ => rfl) rfl rfl rfl ?_
  refine zf_gfi (pc' := 4) dX8_isAsleep_1 rfl rfl (by decide) rfl rfl ?_
  refine zf_ld (pc' := 5) (v := .inr (.inr (1, 63))) dX8_isAsleep_4 rfl (fun _ _ _ => rfl) rfl rfl rfl ?_
  refine zf_gfi (pc' := 8) dX8_isAsleep_5 rfl rfl (by decide) rfl rfl ?_
  refine zf_icmp_lt (tgt := 15) (pc' := 11) dX8_isAsleep_8 rfl rfl (fun g => ?_) (fun g => ?_)
  · replace h := h.1 g
    refine zf_ic (v := 0) (pc' := 16) dX8_isAsleep_15 rfl rfl ?_
    exact zf_rb (b := false) dX8_isAsleep_16 rfl h
  · replace h := h.2 g
    refine zf_ic (v := 1) (pc' := 12) dX8_isAsleep_11 rfl rfl ?_
    refine zf_goto (tgt := 16) dX8_isAsleep_12 rfl ?_
    exact zf_rb (b := true) dX8_isAsleep_16 rfl h
def zt_165 : zx_MT := (8, yX8_loadOf, cX8_loadOf, 4, (some FieldType.int), 2, 0)
theorem zm_165 : zx_m 165 = zt_165 := rfl
theorem dX8_loadOf_r0 : zdcP cX8_loadOf 0 [(.iconst 4, 1), (.iload_n 2, 1), (.iadd, 1), (.istore_n 3, 1), (.aload_n 0, 1), (.getfield 47, 3), (.iload_n 1, 1), (.iaload, 1)] := zdcA_ok (by decide +kernel)
theorem dX8_loadOf_0 : decode cX8_loadOf 0 = .ok (.iconst 4, 1) := dX8_loadOf_r0.1
theorem dX8_loadOf_1 : decode cX8_loadOf 1 = .ok (.iload_n 2, 1) := dX8_loadOf_r0.2.1
theorem dX8_loadOf_2 : decode cX8_loadOf 2 = .ok (.iadd, 1) := dX8_loadOf_r0.2.2.1
theorem dX8_loadOf_3 : decode cX8_loadOf 3 = .ok (.istore_n 3, 1) := dX8_loadOf_r0.2.2.2.1
theorem dX8_loadOf_4 : decode cX8_loadOf 4 = .ok (.aload_n 0, 1) := dX8_loadOf_r0.2.2.2.2.1
theorem dX8_loadOf_5 : decode cX8_loadOf 5 = .ok (.getfield 47, 3) := dX8_loadOf_r0.2.2.2.2.2.1
theorem dX8_loadOf_8 : decode cX8_loadOf 8 = .ok (.iload_n 1, 1) := dX8_loadOf_r0.2.2.2.2.2.2.1
theorem dX8_loadOf_9 : decode cX8_loadOf 9 = .ok (.iaload, 1) := dX8_loadOf_r0.2.2.2.2.2.2.2.1
theorem dX8_loadOf_10 : decode cX8_loadOf 10 = .ok (.tableswitch 79 1 6 #[38, 50, 44, 56, 79, 62], 38) := by decide +kernel
theorem dX8_loadOf_r48 : zdcP cX8_loadOf 48 [(.iinc 3 (-1), 3), (.goto 38, 3), (.iinc 3 (-2), 3), (.goto 32, 3), (.iinc 3 1, 3), (.goto 26, 3), (.iinc 3 2, 3), (.goto 20, 3), (.iload_n 3, 1), (.iconst 2, 1), (.aload_n 0, 1), (.getfield 53, 3), (.iload_n 1, 1), (.iaload, 1), (.bipush 10, 2), (.idiv, 1)] := zdcA_ok (by decide +kernel)
theorem dX8_loadOf_48 : decode cX8_loadOf 48 = .ok (.iinc 3 (-1), 3) := dX8_loadOf_r48.1
theorem dX8_loadOf_51 : decode cX8_loadOf 51 = .ok (.goto 38, 3) := dX8_loadOf_r48.2.1
theorem dX8_loadOf_54 : decode cX8_loadOf 54 = .ok (.iinc 3 (-2), 3) := dX8_loadOf_r48.2.2.1
theorem dX8_loadOf_57 : decode cX8_loadOf 57 = .ok (.goto 32, 3) := dX8_loadOf_r48.2.2.2.1
theorem dX8_loadOf_60 : decode cX8_loadOf 60 = .ok (.iinc 3 1, 3) := dX8_loadOf_r48.2.2.2.2.1
theorem dX8_loadOf_63 : decode cX8_loadOf 63 = .ok (.goto 26, 3) := dX8_loadOf_r48.2.2.2.2.2.1
theorem dX8_loadOf_66 : decode cX8_loadOf 66 = .ok (.iinc 3 2, 3) := dX8_loadOf_r48.2.2.2.2.2.2.1
theorem dX8_loadOf_69 : decode cX8_loadOf 69 = .ok (.goto 20, 3) := dX8_loadOf_r48.2.2.2.2.2.2.2.1
theorem dX8_loadOf_72 : decode cX8_loadOf 72 = .ok (.iload_n 3, 1) := dX8_loadOf_r48.2.2.2.2.2.2.2.2.1
theorem dX8_loadOf_73 : decode cX8_loadOf 73 = .ok (.iconst 2, 1) := dX8_loadOf_r48.2.2.2.2.2.2.2.2.2.1
theorem dX8_loadOf_74 : decode cX8_loadOf 74 = .ok (.aload_n 0, 1) := dX8_loadOf_r48.2.2.2.2.2.2.2.2.2.2.1
theorem dX8_loadOf_75 : decode cX8_loadOf 75 = .ok (.getfield 53, 3) := dX8_loadOf_r48.2.2.2.2.2.2.2.2.2.2.2.1
theorem dX8_loadOf_78 : decode cX8_loadOf 78 = .ok (.iload_n 1, 1) := dX8_loadOf_r48.2.2.2.2.2.2.2.2.2.2.2.2.1
theorem dX8_loadOf_79 : decode cX8_loadOf 79 = .ok (.iaload, 1) := dX8_loadOf_r48.2.2.2.2.2.2.2.2.2.2.2.2.2.1
theorem dX8_loadOf_80 : decode cX8_loadOf 80 = .ok (.bipush 10, 2) := dX8_loadOf_r48.2.2.2.2.2.2.2.2.2.2.2.2.2.2.1
theorem dX8_loadOf_82 : decode cX8_loadOf 82 = .ok (.idiv, 1) := dX8_loadOf_r48.2.2.2.2.2.2.2.2.2.2.2.2.2.2.2.1
theorem dX8_loadOf_r83 : zdcP cX8_loadOf 83 [(.iadd, 1), (.iadd, 1), (.istore_n 3, 1), (.goto 3, 3), (.aload_n 0, 1), (.getfield 9, 3), (.iload_n 1, 1), (.if_icmp .ne 6, 3), (.iinc 3 2, 3), (.iload_n 3, 1), (.iconst 1, 1), (.if_icmp .ge 7, 3), (.iconst 1, 1), (.goto 4, 3), (.iload_n 3, 1), (.ireturn, 1)] := zdcA_ok (by decide +kernel)
theorem dX8_loadOf_83 : decode cX8_loadOf 83 = .ok (.iadd, 1) := dX8_loadOf_r83.1
theorem dX8_loadOf_84 : decode cX8_loadOf 84 = .ok (.iadd, 1) := dX8_loadOf_r83.2.1
theorem dX8_loadOf_85 : decode cX8_loadOf 85 = .ok (.istore_n 3, 1) := dX8_loadOf_r83.2.2.1
theorem dX8_loadOf_86 : decode cX8_loadOf 86 = .ok (.goto 3, 3) := dX8_loadOf_r83.2.2.2.1
theorem dX8_loadOf_89 : decode cX8_loadOf 89 = .ok (.aload_n 0, 1) := dX8_loadOf_r83.2.2.2.2.1
theorem dX8_loadOf_90 : decode cX8_loadOf 90 = .ok (.getfield 9, 3) := dX8_loadOf_r83.2.2.2.2.2.1
theorem dX8_loadOf_93 : decode cX8_loadOf 93 = .ok (.iload_n 1, 1) := dX8_loadOf_r83.2.2.2.2.2.2.1
theorem dX8_loadOf_94 : decode cX8_loadOf 94 = .ok (.if_icmp .ne 6, 3) := dX8_loadOf_r83.2.2.2.2.2.2.2.1
theorem dX8_loadOf_97 : decode cX8_loadOf 97 = .ok (.iinc 3 2, 3) := dX8_loadOf_r83.2.2.2.2.2.2.2.2.1
theorem dX8_loadOf_100 : decode cX8_loadOf 100 = .ok (.iload_n 3, 1) := dX8_loadOf_r83.2.2.2.2.2.2.2.2.2.1
theorem dX8_loadOf_101 : decode cX8_loadOf 101 = .ok (.iconst 1, 1) := dX8_loadOf_r83.2.2.2.2.2.2.2.2.2.2.1
theorem dX8_loadOf_102 : decode cX8_loadOf 102 = .ok (.if_icmp .ge 7, 3) := dX8_loadOf_r83.2.2.2.2.2.2.2.2.2.2.2.1
theorem dX8_loadOf_105 : decode cX8_loadOf 105 = .ok (.iconst 1, 1) := dX8_loadOf_r83.2.2.2.2.2.2.2.2.2.2.2.2.1
theorem dX8_loadOf_106 : decode cX8_loadOf 106 = .ok (.goto 4, 3) := dX8_loadOf_r83.2.2.2.2.2.2.2.2.2.2.2.2.2.1
theorem dX8_loadOf_109 : decode cX8_loadOf 109 = .ok (.iload_n 3, 1) := dX8_loadOf_r83.2.2.2.2.2.2.2.2.2.2.2.2.2.2.1
theorem dX8_loadOf_110 : decode cX8_loadOf 110 = .ok (.ireturn, 1) := dX8_loadOf_r83.2.2.2.2.2.2.2.2.2.2.2.2.2.2.2.1
def wq_165_100 (v1 : Int32) (v2 : Int32) (v3 : Int32) (m : zf_Me) (Q : Int32 → zf_Me → Prop) : Prop := ((v3.toInt ≥ 1 → Q v3 m) ∧ (v3.toInt < 1 → Q 1 m))
theorem zq_165_100 {d : Nat} (hd : 0 ≤ d) {v1 : Int32} {v2 : Int32} {Q : Int32 → zf_Me → Prop} {v3 : Int32} {m : zf_Me} (h : wq_165_100 v1 v2 v3 m Q) : zf_W none 0 0 d zt_165 100 [none, none, none, some (.inl v3)] [] m (zf_I Q) := by
  unfold wq_165_100 at h
  refine zf_ld (pc' := 101) (v := .inl v3) dX8_loadOf_100 rfl (fun _ _ _ => rfl) rfl rfl rfl ?_
  refine zf_ic (v := 1) (pc' := 102) dX8_loadOf_101 rfl rfl ?_
  refine zf_icmp_ge (tgt := 109) (pc' := 105) dX8_loadOf_102 rfl rfl (fun g => ?_) (fun g => ?_)
  · replace h := h.1 g
    refine zf_ld (pc' := 110) (v := .inl v3) dX8_loadOf_109 rfl (fun _ _ _ => rfl) rfl rfl rfl ?_
    exact zf_ri dX8_loadOf_110 rfl h
  · replace h := h.2 g
    refine zf_ic (v := 1) (pc' := 106) dX8_loadOf_105 rfl rfl ?_
    refine zf_goto (tgt := 110) dX8_loadOf_106 rfl ?_
    exact zf_ri dX8_loadOf_110 rfl h
def wq_165_89 (v1 : Int32) (v2 : Int32) (v3 : Int32) (m : zf_Me) (Q : Int32 → zf_Me → Prop) : Prop := ((¬ ((m.1 63 2)).toInt = v1.toInt → wq_165_100 v1 v2 v3 m Q) ∧ (((m.1 63 2)).toInt = v1.toInt → wq_165_100 v1 v2 (v3 + 2) m Q))
theorem zq_165_89 {d : Nat} (hd : 0 ≤ d) {v1 : Int32} {v2 : Int32} {Q : Int32 → zf_Me → Prop} {v3 : Int32} {m : zf_Me} (h : wq_165_89 v1 v2 v3 m Q) : zf_W none 0 0 d zt_165 89 [some (.inr (.inr (1, 63))), some (.inl v1), none, some (.inl v3)] [] m (zf_I Q) := by
  unfold wq_165_89 at h
  refine zf_ld (pc' := 90) (v := .inr (.inr (1, 63))) dX8_loadOf_89 rfl (fun _ _ _ => rfl) rfl rfl rfl ?_
  refine zf_gfi (pc' := 93) dX8_loadOf_90 rfl rfl (by decide) rfl rfl ?_
  refine zf_ld (pc' := 94) (v := .inl v1) dX8_loadOf_93 rfl (fun _ _ _ => rfl) rfl rfl rfl ?_
  refine zf_icmp_ne (tgt := 100) (pc' := 97) dX8_loadOf_94 rfl rfl (fun g => ?_) (fun g => ?_)
  · replace h := h.1 g
    exact zf_lo (zq_165_100 (by omega) h) ⟨rfl, trivial⟩
  · replace h := h.2 g
    refine zf_ii (y := (v3 + 2)) (L2 := [some (.inr (.inr (1, 63))), some (.inl v1), none, some (.inl (v3 + 2))]) (pc' := 100) dX8_loadOf_97 rfl rfl rfl rfl rfl ?_
    exact zf_lo (zq_165_100 (by omega) h) ⟨rfl, trivial⟩
def wp_165 (v1 : Int32) (v2 : Int32) (m : zf_Me) (Q : Int32 → zf_Me → Prop) : Prop := ((0 ≤ (Int32.toInt v1) ∧ (Int32.toInt v1) < (6 : Int)) ∧ (((((m.1 67 (Int32.toInt v1).toNat)).toInt < 1 ∨ ((m.1 67 (Int32.toInt v1).toNat)).toInt > 6) → wq_165_89 v1 v2 (4 + v2) m Q) ∧ (((m.1 67 (Int32.toInt v1).toNat)).toInt = 1 → wq_165_89 v1 v2 ((4 + v2) + (-1)) m Q) ∧ (((m.1 67 (Int32.toInt v1).toNat)).toInt = 2 → wq_165_89 v1 v2 ((4 + v2) + 1) m Q) ∧ (((m.1 67 (Int32.toInt v1).toNat)).toInt = 3 → wq_165_89 v1 v2 ((4 + v2) + (-2)) m Q) ∧ (((m.1 67 (Int32.toInt v1).toNat)).toInt = 4 → wq_165_89 v1 v2 ((4 + v2) + 2) m Q) ∧ (((m.1 67 (Int32.toInt v1).toNat)).toInt = 5 → wq_165_89 v1 v2 (4 + v2) m Q) ∧ (((m.1 67 (Int32.toInt v1).toNat)).toInt = 6 → ((0 ≤ (Int32.toInt v1) ∧ (Int32.toInt v1) < (6 : Int)) ∧ wq_165_89 v1 v2 ((4 + v2) + (2 + ((m.1 69 (Int32.toInt v1).toNat) / 10))) m Q))))
theorem zr_165 {d : Nat} (hd : 0 ≤ d) {v1 : Int32} {v2 : Int32} {Q : Int32 → zf_Me → Prop} {m : zf_Me} (h : wp_165 v1 v2 m Q) : zf_M d 165 [.inr (.inr (1, 63)), .inl v1, .inl v2] m (zf_I Q) := by
  unfold wp_165 at h
  refine zf_M_of (Nat.le_of_ble_eq_true rfl) zm_165 (L := [some (.inr (.inr (1, 63))), some (.inl v1), some (.inl v2), none]) rfl ?_
  refine zf_ic (v := 4) (pc' := 1) dX8_loadOf_0 rfl rfl ?_
  refine zf_ld (pc' := 2) (v := .inl v2) dX8_loadOf_1 rfl (fun _ _ _ => rfl) rfl rfl rfl ?_
  refine zf_in (pc' := 3) (S' := [.inl (4 + v2)]) dX8_loadOf_2 rfl (fun _ _ _ => rfl) ?_
  refine zf_st (pc' := 4) (L2 := [some (.inr (.inr (1, 63))), some (.inl v1), some (.inl v2), some (.inl (4 + v2))]) dX8_loadOf_3 rfl (fun _ _ _ => rfl) rfl rfl rfl rfl rfl rfl ?_
  refine zf_ld (pc' := 5) (v := .inr (.inr (1, 63))) dX8_loadOf_4 rfl (fun _ _ _ => rfl) rfl rfl rfl ?_
  refine zf_gfr (pc' := 8) (b := 67) dX8_loadOf_5 rfl rfl (by decide) rfl rfl ?_
  refine zf_ld (pc' := 9) (v := .inl v1) dX8_loadOf_8 rfl (fun _ _ _ => rfl) rfl rfl rfl ?_
  refine zf_ial (pc' := 10) dX8_loadOf_9 rfl (⟨by decide, rfl⟩ : zf_arr 67 6).1 (⟨by decide, rfl⟩ : zf_arr 67 6).2 h.1 rfl ?_
  replace h := h.2
  refine zf_tsc (tgd := 89) dX8_loadOf_10 rfl [48, 60, 54, 66, 89, 72] (by decide) (by decide) (fun g => ?_) (zl_cons (fun g => ?_) (zl_cons (fun g => ?_) (zl_cons (fun g => ?_) (zl_cons (fun g => ?_) (zl_cons (fun g => ?_) (zl_cons (fun g => ?_) (zl_nil)))))))
  · replace h := h.1 (by omega)
    exact zf_lo (zq_165_89 (by omega) h) ⟨rfl, rfl, rfl, trivial⟩
  · replace h := h.2.1 (by omega)
    refine zf_ii (y := ((4 + v2) + (-1))) (L2 := [some (.inr (.inr (1, 63))), some (.inl v1), some (.inl v2), some (.inl ((4 + v2) + (-1)))]) (pc' := 51) dX8_loadOf_48 rfl rfl rfl rfl rfl ?_
    refine zf_goto (tgt := 89) dX8_loadOf_51 rfl ?_
    exact zf_lo (zq_165_89 (by omega) h) ⟨rfl, rfl, rfl, trivial⟩
  · replace h := h.2.2.1 (by omega)
    refine zf_ii (y := ((4 + v2) + 1)) (L2 := [some (.inr (.inr (1, 63))), some (.inl v1), some (.inl v2), some (.inl ((4 + v2) + 1))]) (pc' := 63) dX8_loadOf_60 rfl rfl rfl rfl rfl ?_
    refine zf_goto (tgt := 89) dX8_loadOf_63 rfl ?_
    exact zf_lo (zq_165_89 (by omega) h) ⟨rfl, rfl, rfl, trivial⟩
  · replace h := h.2.2.2.1 (by omega)
    refine zf_ii (y := ((4 + v2) + (-2))) (L2 := [some (.inr (.inr (1, 63))), some (.inl v1), some (.inl v2), some (.inl ((4 + v2) + (-2)))]) (pc' := 57) dX8_loadOf_54 rfl rfl rfl rfl rfl ?_
    refine zf_goto (tgt := 89) dX8_loadOf_57 rfl ?_
    exact zf_lo (zq_165_89 (by omega) h) ⟨rfl, rfl, rfl, trivial⟩
  · replace h := h.2.2.2.2.1 (by omega)
    refine zf_ii (y := ((4 + v2) + 2)) (L2 := [some (.inr (.inr (1, 63))), some (.inl v1), some (.inl v2), some (.inl ((4 + v2) + 2))]) (pc' := 69) dX8_loadOf_66 rfl rfl rfl rfl rfl ?_
    refine zf_goto (tgt := 89) dX8_loadOf_69 rfl ?_
    exact zf_lo (zq_165_89 (by omega) h) ⟨rfl, rfl, rfl, trivial⟩
  · replace h := h.2.2.2.2.2.1 (by omega)
    exact zf_lo (zq_165_89 (by omega) h) ⟨rfl, rfl, rfl, trivial⟩
  · replace h := h.2.2.2.2.2.2 (by omega)
    refine zf_ld (pc' := 73) (v := .inl (4 + v2)) dX8_loadOf_72 rfl (fun _ _ _ => rfl) rfl rfl rfl ?_
    refine zf_ic (v := 2) (pc' := 74) dX8_loadOf_73 rfl rfl ?_
    refine zf_ld (pc' := 75) (v := .inr (.inr (1, 63))) dX8_loadOf_74 rfl (fun _ _ _ => rfl) rfl rfl rfl ?_
    refine zf_gfr (pc' := 78) (b := 69) dX8_loadOf_75 rfl rfl (by decide) rfl rfl ?_
    refine zf_ld (pc' := 79) (v := .inl v1) dX8_loadOf_78 rfl (fun _ _ _ => rfl) rfl rfl rfl ?_
    refine zf_ial (pc' := 80) dX8_loadOf_79 rfl (⟨by decide, rfl⟩ : zf_arr 69 6).1 (⟨by decide, rfl⟩ : zf_arr 69 6).2 h.1 rfl ?_
    replace h := h.2
    refine zf_bi (v := 10) (pc' := 82) dX8_loadOf_80 rfl rfl ?_
    refine zf_div (pc' := 83) dX8_loadOf_82 rfl (by decide) ?_
    refine zf_in (pc' := 84) (S' := [.inl (2 + ((m.1 69 (Int32.toInt v1).toNat) / 10)), .inl (4 + v2)]) dX8_loadOf_83 rfl (fun _ _ _ => rfl) ?_
    refine zf_in (pc' := 85) (S' := [.inl ((4 + v2) + (2 + ((m.1 69 (Int32.toInt v1).toNat) / 10)))]) dX8_loadOf_84 rfl (fun _ _ _ => rfl) ?_
    refine zf_st (pc' := 86) (L2 := [some (.inr (.inr (1, 63))), some (.inl v1), some (.inl v2), some (.inl ((4 + v2) + (2 + ((m.1 69 (Int32.toInt v1).toNat) / 10))))]) dX8_loadOf_85 rfl (fun _ _ _ => rfl) rfl rfl rfl rfl rfl rfl ?_
    refine zf_goto (tgt := 89) dX8_loadOf_86 rfl ?_
    exact zf_lo (zq_165_89 (by omega) h) ⟨rfl, rfl, rfl, trivial⟩
end
