/-! part 26: methods 57..: laid by wip/flat/dec.py -/
def zt_57 : zx_MT := (5, yX5_walk, cX5_walk, 1, none, 0, 0)
theorem zm_57 : zx_m 57 = zt_57 := rfl
theorem dX5_walk_r0 : zdcP cX5_walk 0 [(.aload_n 0, 1), (.dup, 1), (.getfield 22, 3), (.iconst 1, 1), (.isub, 1), (.putfield 22, 3), (.aload_n 0, 1), (.iconst 0, 1), (.putfield 28, 3), (.aload_n 0, 1), (.dup, 1), (.getfield 43, 3), (.bipush 9, 2), (.aload_n 0, 1), (.getfield 49, 3), (.getfield 102, 3)] := zdcA_ok (by decide +kernel)
theorem dX5_walk_0 : decode cX5_walk 0 = .ok (.aload_n 0, 1) := dX5_walk_r0.1
theorem dX5_walk_1 : decode cX5_walk 1 = .ok (.dup, 1) := dX5_walk_r0.2.1
theorem dX5_walk_2 : decode cX5_walk 2 = .ok (.getfield 22, 3) := dX5_walk_r0.2.2.1
theorem dX5_walk_5 : decode cX5_walk 5 = .ok (.iconst 1, 1) := dX5_walk_r0.2.2.2.1
theorem dX5_walk_6 : decode cX5_walk 6 = .ok (.isub, 1) := dX5_walk_r0.2.2.2.2.1
theorem dX5_walk_7 : decode cX5_walk 7 = .ok (.putfield 22, 3) := dX5_walk_r0.2.2.2.2.2.1
theorem dX5_walk_10 : decode cX5_walk 10 = .ok (.aload_n 0, 1) := dX5_walk_r0.2.2.2.2.2.2.1
theorem dX5_walk_11 : decode cX5_walk 11 = .ok (.iconst 0, 1) := dX5_walk_r0.2.2.2.2.2.2.2.1
theorem dX5_walk_12 : decode cX5_walk 12 = .ok (.putfield 28, 3) := dX5_walk_r0.2.2.2.2.2.2.2.2.1
theorem dX5_walk_15 : decode cX5_walk 15 = .ok (.aload_n 0, 1) := dX5_walk_r0.2.2.2.2.2.2.2.2.2.1
theorem dX5_walk_16 : decode cX5_walk 16 = .ok (.dup, 1) := dX5_walk_r0.2.2.2.2.2.2.2.2.2.2.1
theorem dX5_walk_17 : decode cX5_walk 17 = .ok (.getfield 43, 3) := dX5_walk_r0.2.2.2.2.2.2.2.2.2.2.2.1
theorem dX5_walk_20 : decode cX5_walk 20 = .ok (.bipush 9, 2) := dX5_walk_r0.2.2.2.2.2.2.2.2.2.2.2.2.1
theorem dX5_walk_22 : decode cX5_walk 22 = .ok (.aload_n 0, 1) := dX5_walk_r0.2.2.2.2.2.2.2.2.2.2.2.2.2.1
theorem dX5_walk_23 : decode cX5_walk 23 = .ok (.getfield 49, 3) := dX5_walk_r0.2.2.2.2.2.2.2.2.2.2.2.2.2.2.1
theorem dX5_walk_26 : decode cX5_walk 26 = .ok (.getfield 102, 3) := dX5_walk_r0.2.2.2.2.2.2.2.2.2.2.2.2.2.2.2.1
theorem dX5_walk_r29 : zdcP cX5_walk 29 [(.aload_n 0, 1), (.getfield 40, 3), (.iaload, 1), (.iadd, 1), (.iadd, 1), (.putfield 43, 3), (.aload_n 0, 1), (.iconst (-1), 1), (.invokevirtual 124, 3), (.aload_n 0, 1), (.dup, 1), (.getfield 40, 3), (.iconst 1, 1), (.iadd, 1), (.putfield 40, 3), (.return_, 1)] := zdcA_ok (by decide +kernel)
theorem dX5_walk_29 : decode cX5_walk 29 = .ok (.aload_n 0, 1) := dX5_walk_r29.1
theorem dX5_walk_30 : decode cX5_walk 30 = .ok (.getfield 40, 3) := dX5_walk_r29.2.1
theorem dX5_walk_33 : decode cX5_walk 33 = .ok (.iaload, 1) := dX5_walk_r29.2.2.1
theorem dX5_walk_34 : decode cX5_walk 34 = .ok (.iadd, 1) := dX5_walk_r29.2.2.2.1
theorem dX5_walk_35 : decode cX5_walk 35 = .ok (.iadd, 1) := dX5_walk_r29.2.2.2.2.1
theorem dX5_walk_36 : decode cX5_walk 36 = .ok (.putfield 43, 3) := dX5_walk_r29.2.2.2.2.2.1
theorem dX5_walk_39 : decode cX5_walk 39 = .ok (.aload_n 0, 1) := dX5_walk_r29.2.2.2.2.2.2.1
theorem dX5_walk_40 : decode cX5_walk 40 = .ok (.iconst (-1), 1) := dX5_walk_r29.2.2.2.2.2.2.2.1
theorem dX5_walk_41 : decode cX5_walk 41 = .ok (.invokevirtual 124, 3) := dX5_walk_r29.2.2.2.2.2.2.2.2.1
theorem dX5_walk_44 : decode cX5_walk 44 = .ok (.aload_n 0, 1) := dX5_walk_r29.2.2.2.2.2.2.2.2.2.1
theorem dX5_walk_45 : decode cX5_walk 45 = .ok (.dup, 1) := dX5_walk_r29.2.2.2.2.2.2.2.2.2.2.1
theorem dX5_walk_46 : decode cX5_walk 46 = .ok (.getfield 40, 3) := dX5_walk_r29.2.2.2.2.2.2.2.2.2.2.2.1
theorem dX5_walk_49 : decode cX5_walk 49 = .ok (.iconst 1, 1) := dX5_walk_r29.2.2.2.2.2.2.2.2.2.2.2.2.1
theorem dX5_walk_50 : decode cX5_walk 50 = .ok (.iadd, 1) := dX5_walk_r29.2.2.2.2.2.2.2.2.2.2.2.2.2.1
theorem dX5_walk_51 : decode cX5_walk 51 = .ok (.putfield 40, 3) := dX5_walk_r29.2.2.2.2.2.2.2.2.2.2.2.2.2.2.1
theorem dX5_walk_54 : decode cX5_walk 54 = .ok (.return_, 1) := dX5_walk_r29.2.2.2.2.2.2.2.2.2.2.2.2.2.2.2.1
def wp_57 (w0 : Nat) (y0 : Nat) (r0 : Nat) (m : zf_Me) (Q : zf_Me → Prop) : Prop := (∀ m1, m1 = zf_u m w0 4 ((m.1 w0 4) - 1) → (∀ m3, m3 = zf_u m1 w0 6 0 → ((0 ≤ (Int32.toInt (m3.1 w0 10)) ∧ (Int32.toInt (m3.1 w0 10)) < (24 : Int)) ∧ (∀ m5, m5 = zf_u m3 w0 11 ((m3.1 w0 11) + (9 + (m3.1 (y0 + 1) (Int32.toInt (m3.1 w0 10)).toNat))) → wp_59 w0 y0 r0 (-1) m5 (fun m8 => (∀ m9, m9 = zf_u m8 w0 10 ((m8.1 w0 10) + 1) → Q m9))))))
theorem zr_57 {d : Nat} (hd : 2 ≤ d) {w0 : Nat} {y0 : Nat} {r0 : Nat} (hp0 : zf_walk w0 y0 r0) {Q : zf_Me → Prop} {m : zf_Me} (h : wp_57 w0 y0 r0 m Q) : zf_M d 57 [.inr (.inr (1, w0))] m (zf_O Q) := by
  obtain ⟨e, rfl⟩ : ∃ z, d = z + 1 := ⟨d - 1, by omega⟩
  unfold wp_57 at h
  refine zf_M_of (Nat.le_of_ble_eq_true rfl) zm_57 (L := [some (.inr (.inr (1, w0)))]) rfl ?_
  refine zf_ld (pc' := 1) (v := .inr (.inr (1, w0))) dX5_walk_0 rfl (fun _ _ _ => rfl) rfl rfl rfl ?_
  refine zf_in (pc' := 2) (S' := [.inr (.inr (1, w0)), .inr (.inr (1, w0))]) dX5_walk_1 rfl (fun _ _ _ => rfl) ?_
  refine zf_gfi (pc' := 5) dX5_walk_2 rfl rfl hp0.1 hp0.2.1 rfl ?_
  refine zf_ic (v := 1) (pc' := 6) dX5_walk_5 rfl rfl ?_
  refine zf_in (pc' := 7) (S' := [.inl ((m.1 w0 4) - 1), .inr (.inr (1, w0))]) dX5_walk_6 rfl (fun _ _ _ => rfl) ?_
  refine zf_pf (pc' := 10) dX5_walk_7 rfl rfl hp0.1 hp0.2.1 rfl rfl (fun m1 e2 => ?_)
  replace h := h m1 e2
  refine zf_ld (pc' := 11) (v := .inr (.inr (1, w0))) dX5_walk_10 rfl (fun _ _ _ => rfl) rfl rfl rfl ?_
  refine zf_ic (v := 0) (pc' := 12) dX5_walk_11 rfl rfl ?_
  refine zf_pf (pc' := 15) dX5_walk_12 rfl rfl hp0.1 hp0.2.1 rfl rfl (fun m3 e4 => ?_)
  replace h := h m3 e4
  refine zf_ld (pc' := 16) (v := .inr (.inr (1, w0))) dX5_walk_15 rfl (fun _ _ _ => rfl) rfl rfl rfl ?_
  refine zf_in (pc' := 17) (S' := [.inr (.inr (1, w0)), .inr (.inr (1, w0))]) dX5_walk_16 rfl (fun _ _ _ => rfl) ?_
  refine zf_gfi (pc' := 20) dX5_walk_17 rfl rfl hp0.1 hp0.2.1 rfl ?_
  refine zf_bi (v := 9) (pc' := 22) dX5_walk_20 rfl rfl ?_
  refine zf_ld (pc' := 23) (v := .inr (.inr (1, w0))) dX5_walk_22 rfl (fun _ _ _ => rfl) rfl rfl rfl ?_
  refine zf_gfr (pc' := 26) (b := y0) dX5_walk_23 rfl rfl hp0.1 hp0.2.1 rfl ?_
  refine zf_gfr (pc' := 29) (b := (y0 + 1)) dX5_walk_26 rfl rfl hp0.2.2.1.1 hp0.2.2.1.2.1 rfl ?_
  refine zf_ld (pc' := 30) (v := .inr (.inr (1, w0))) dX5_walk_29 rfl (fun _ _ _ => rfl) rfl rfl rfl ?_
  refine zf_gfi (pc' := 33) dX5_walk_30 rfl rfl hp0.1 hp0.2.1 rfl ?_
  refine zf_ial (pc' := 34) dX5_walk_33 rfl hp0.2.2.1.2.2.1.1 hp0.2.2.1.2.2.1.2 h.1 rfl ?_
  replace h := h.2
  refine zf_in (pc' := 35) (S' := [.inl (9 + (m3.1 (y0 + 1) (Int32.toInt (m3.1 w0 10)).toNat)), .inl (m3.1 w0 11), .inr (.inr (1, w0))]) dX5_walk_34 rfl (fun _ _ _ => rfl) ?_
  refine zf_in (pc' := 36) (S' := [.inl ((m3.1 w0 11) + (9 + (m3.1 (y0 + 1) (Int32.toInt (m3.1 w0 10)).toNat))), .inr (.inr (1, w0))]) dX5_walk_35 rfl (fun _ _ _ => rfl) ?_
  refine zf_pf (pc' := 39) dX5_walk_36 rfl rfl hp0.1 hp0.2.1 rfl rfl (fun m5 e6 => ?_)
  replace h := h m5 e6
  refine zf_ld (pc' := 40) (v := .inr (.inr (1, w0))) dX5_walk_39 rfl (fun _ _ _ => rfl) rfl rfl rfl ?_
  refine zf_ic (v := (-1)) (pc' := 41) dX5_walk_40 rfl rfl ?_
  refine zf_iv (k := 59) (pc' := 44) (r := []) dX5_walk_41 rfl rfl rfl rfl hp0.1 hp0.2.1 rfl rfl (zr_59 (by omega) hp0 h) (zf_kO (fun m8 h => ?_))
  refine zf_ld (pc' := 45) (v := .inr (.inr (1, w0))) dX5_walk_44 rfl (fun _ _ _ => rfl) rfl rfl rfl ?_
  refine zf_in (pc' := 46) (S' := [.inr (.inr (1, w0)), .inr (.inr (1, w0))]) dX5_walk_45 rfl (fun _ _ _ => rfl) ?_
  refine zf_gfi (pc' := 49) dX5_walk_46 rfl rfl hp0.1 hp0.2.1 rfl ?_
  refine zf_ic (v := 1) (pc' := 50) dX5_walk_49 rfl rfl ?_
  refine zf_in (pc' := 51) (S' := [.inl ((m8.1 w0 10) + 1), .inr (.inr (1, w0))]) dX5_walk_50 rfl (fun _ _ _ => rfl) ?_
  refine zf_pf (pc' := 54) dX5_walk_51 rfl rfl hp0.1 hp0.2.1 rfl rfl (fun m9 e10 => ?_)
  replace h := h m9 e10
  exact zf_rv dX5_walk_54 rfl h
def zt_60 : zx_MT := (5, yX5_restAll, cX5_restAll, 2, none, 0, 0)
theorem zm_60 : zx_m 60 = zt_60 := rfl
theorem dX5_restAll_r0 : zdcP cX5_restAll 0 [(.aload_n 0, 1), (.dup, 1), (.getfield 43, 3), (.bipush 10, 2), (.iadd, 1), (.putfield 43, 3), (.aload_n 0, 1), (.iconst 0, 1), (.putfield 28, 3), (.aload_n 0, 1), (.aload_n 0, 1), (.getfield 22, 3), (.aload_n 0, 1), (.getfield 19, 3), (.invokestatic 79, 3), (.putfield 22, 3)] := zdcA_ok (by decide +kernel)
theorem dX5_restAll_0 : decode cX5_restAll 0 = .ok (.aload_n 0, 1) := dX5_restAll_r0.1
theorem dX5_restAll_1 : decode cX5_restAll 1 = .ok (.dup, 1) := dX5_restAll_r0.2.1
theorem dX5_restAll_2 : decode cX5_restAll 2 = .ok (.getfield 43, 3) := dX5_restAll_r0.2.2.1
theorem dX5_restAll_5 : decode cX5_restAll 5 = .ok (.bipush 10, 2) := dX5_restAll_r0.2.2.2.1
theorem dX5_restAll_7 : decode cX5_restAll 7 = .ok (.iadd, 1) := dX5_restAll_r0.2.2.2.2.1
theorem dX5_restAll_8 : decode cX5_restAll 8 = .ok (.putfield 43, 3) := dX5_restAll_r0.2.2.2.2.2.1
theorem dX5_restAll_11 : decode cX5_restAll 11 = .ok (.aload_n 0, 1) := dX5_restAll_r0.2.2.2.2.2.2.1
theorem dX5_restAll_12 : decode cX5_restAll 12 = .ok (.iconst 0, 1) := dX5_restAll_r0.2.2.2.2.2.2.2.1
theorem dX5_restAll_13 : decode cX5_restAll 13 = .ok (.putfield 28, 3) := dX5_restAll_r0.2.2.2.2.2.2.2.2.1
theorem dX5_restAll_16 : decode cX5_restAll 16 = .ok (.aload_n 0, 1) := dX5_restAll_r0.2.2.2.2.2.2.2.2.2.1
theorem dX5_restAll_17 : decode cX5_restAll 17 = .ok (.aload_n 0, 1) := dX5_restAll_r0.2.2.2.2.2.2.2.2.2.2.1
theorem dX5_restAll_18 : decode cX5_restAll 18 = .ok (.getfield 22, 3) := dX5_restAll_r0.2.2.2.2.2.2.2.2.2.2.2.1
theorem dX5_restAll_21 : decode cX5_restAll 21 = .ok (.aload_n 0, 1) := dX5_restAll_r0.2.2.2.2.2.2.2.2.2.2.2.2.1
theorem dX5_restAll_22 : decode cX5_restAll 22 = .ok (.getfield 19, 3) := dX5_restAll_r0.2.2.2.2.2.2.2.2.2.2.2.2.2.1
theorem dX5_restAll_25 : decode cX5_restAll 25 = .ok (.invokestatic 79, 3) := dX5_restAll_r0.2.2.2.2.2.2.2.2.2.2.2.2.2.2.1
theorem dX5_restAll_28 : decode cX5_restAll 28 = .ok (.putfield 22, 3) := dX5_restAll_r0.2.2.2.2.2.2.2.2.2.2.2.2.2.2.2.1
theorem dX5_restAll_r31 : zdcP cX5_restAll 31 [(.iconst 0, 1), (.istore_n 1, 1), (.iload_n 1, 1), (.aload_n 0, 1), (.getfield 49, 3), (.getfield 64, 3), (.if_icmp .ge 28, 3), (.aload_n 0, 1), (.getfield 9, 3), (.iload_n 1, 1), (.iconst 0, 1), (.aload_n 0, 1), (.getfield 9, 3), (.iload_n 1, 1), (.iaload, 1), (.bipush 6, 2)] := zdcA_ok (by decide +kernel)
theorem dX5_restAll_31 : decode cX5_restAll 31 = .ok (.iconst 0, 1) := dX5_restAll_r31.1
theorem dX5_restAll_32 : decode cX5_restAll 32 = .ok (.istore_n 1, 1) := dX5_restAll_r31.2.1
theorem dX5_restAll_33 : decode cX5_restAll 33 = .ok (.iload_n 1, 1) := dX5_restAll_r31.2.2.1
theorem dX5_restAll_34 : decode cX5_restAll 34 = .ok (.aload_n 0, 1) := dX5_restAll_r31.2.2.2.1
theorem dX5_restAll_35 : decode cX5_restAll 35 = .ok (.getfield 49, 3) := dX5_restAll_r31.2.2.2.2.1
theorem dX5_restAll_38 : decode cX5_restAll 38 = .ok (.getfield 64, 3) := dX5_restAll_r31.2.2.2.2.2.1
theorem dX5_restAll_41 : decode cX5_restAll 41 = .ok (.if_icmp .ge 28, 3) := dX5_restAll_r31.2.2.2.2.2.2.1
theorem dX5_restAll_44 : decode cX5_restAll 44 = .ok (.aload_n 0, 1) := dX5_restAll_r31.2.2.2.2.2.2.2.1
theorem dX5_restAll_45 : decode cX5_restAll 45 = .ok (.getfield 9, 3) := dX5_restAll_r31.2.2.2.2.2.2.2.2.1
theorem dX5_restAll_48 : decode cX5_restAll 48 = .ok (.iload_n 1, 1) := dX5_restAll_r31.2.2.2.2.2.2.2.2.2.1
theorem dX5_restAll_49 : decode cX5_restAll 49 = .ok (.iconst 0, 1) := dX5_restAll_r31.2.2.2.2.2.2.2.2.2.2.1
theorem dX5_restAll_50 : decode cX5_restAll 50 = .ok (.aload_n 0, 1) := dX5_restAll_r31.2.2.2.2.2.2.2.2.2.2.2.1
theorem dX5_restAll_51 : decode cX5_restAll 51 = .ok (.getfield 9, 3) := dX5_restAll_r31.2.2.2.2.2.2.2.2.2.2.2.2.1
theorem dX5_restAll_54 : decode cX5_restAll 54 = .ok (.iload_n 1, 1) := dX5_restAll_r31.2.2.2.2.2.2.2.2.2.2.2.2.2.1
theorem dX5_restAll_55 : decode cX5_restAll 55 = .ok (.iaload, 1) := dX5_restAll_r31.2.2.2.2.2.2.2.2.2.2.2.2.2.2.1
theorem dX5_restAll_56 : decode cX5_restAll 56 = .ok (.bipush 6, 2) := dX5_restAll_r31.2.2.2.2.2.2.2.2.2.2.2.2.2.2.2.1
theorem dX5_restAll_r58 : zdcP cX5_restAll 58 [(.isub, 1), (.invokestatic 79, 3), (.iastore, 1), (.iinc 1 1, 3), (.goto (-33), 3), (.return_, 1)] := zdcA_ok (by decide +kernel)
theorem dX5_restAll_58 : decode cX5_restAll 58 = .ok (.isub, 1) := dX5_restAll_r58.1
theorem dX5_restAll_59 : decode cX5_restAll 59 = .ok (.invokestatic 79, 3) := dX5_restAll_r58.2.1
theorem dX5_restAll_62 : decode cX5_restAll 62 = .ok (.iastore, 1) := dX5_restAll_r58.2.2.1
theorem dX5_restAll_63 : decode cX5_restAll 63 = .ok (.iinc 1 1, 3) := dX5_restAll_r58.2.2.2.1
theorem dX5_restAll_66 : decode cX5_restAll 66 = .ok (.goto (-33), 3) := dX5_restAll_r58.2.2.2.2.1
theorem dX5_restAll_69 : decode cX5_restAll 69 = .ok (.return_, 1) := dX5_restAll_r58.2.2.2.2.2.1
def wq_60_33 (w0 : Nat) (y0 : Nat) (r0 : Nat) (Q : zf_Me → Prop) : Nat → Int32 → zf_Me → Prop
  | 0, _, _ => False
  | n + 1, v1, m => ((v1.toInt ≥ ((m.1 y0 5)).toInt → Q m) ∧ (v1.toInt < ((m.1 y0 5)).toInt → ((0 ≤ (Int32.toInt v1) ∧ (Int32.toInt v1) < (6 : Int)) ∧ ((0 ≤ (Int32.toInt v1) ∧ (Int32.toInt v1) < (6 : Int)) ∧ ∀ m7, m7 = zf_u m r0 (Int32.toInt v1).toNat (if 0 < ((m.1 r0 (Int32.toInt v1).toNat) - 6) then ((m.1 r0 (Int32.toInt v1).toNat) - 6) else 0) → wq_60_33 w0 y0 r0 Q n (v1 + 1) m7))))
theorem zq_60_33 {d : Nat} (hd : 0 ≤ d) {w0 : Nat} {y0 : Nat} {r0 : Nat} (hp0 : zf_walk w0 y0 r0) {Q : zf_Me → Prop} : ∀ (n : Nat) (v1 : Int32) (m : zf_Me), wq_60_33 w0 y0 r0 Q n v1 m → zf_W none 0 0 d zt_60 33 [some (.inr (.inr (1, w0))), some (.inl v1)] [] m (zf_O Q) := by
  intro n
  induction n with
  | zero =>
    intro v1 m h
    exact h.elim
  | succ n ih =>
    intro v1 m h
    unfold wq_60_33 at h
    refine zf_ld (pc' := 34) (v := .inl v1) dX5_restAll_33 rfl (fun _ _ _ => rfl) rfl rfl rfl ?_
    refine zf_ld (pc' := 35) (v := .inr (.inr (1, w0))) dX5_restAll_34 rfl (fun _ _ _ => rfl) rfl rfl rfl ?_
    refine zf_gfr (pc' := 38) (b := y0) dX5_restAll_35 rfl rfl hp0.1 hp0.2.1 rfl ?_
    refine zf_gfi (pc' := 41) dX5_restAll_38 rfl rfl hp0.2.2.1.1 hp0.2.2.1.2.1 rfl ?_
    refine zf_icmp_ge (tgt := 69) (pc' := 44) dX5_restAll_41 rfl rfl (fun g => ?_) (fun g => ?_)
    · replace h := h.1 g
      exact zf_rv dX5_restAll_69 rfl h
    · replace h := h.2 g
      refine zf_ld (pc' := 45) (v := .inr (.inr (1, w0))) dX5_restAll_44 rfl (fun _ _ _ => rfl) rfl rfl rfl ?_
      refine zf_gfr (pc' := 48) (b := r0) dX5_restAll_45 rfl rfl hp0.1 hp0.2.1 rfl ?_
      refine zf_ld (pc' := 49) (v := .inl v1) dX5_restAll_48 rfl (fun _ _ _ => rfl) rfl rfl rfl ?_
      refine zf_ic (v := 0) (pc' := 50) dX5_restAll_49 rfl rfl ?_
      refine zf_ld (pc' := 51) (v := .inr (.inr (1, w0))) dX5_restAll_50 rfl (fun _ _ _ => rfl) rfl rfl rfl ?_
      refine zf_gfr (pc' := 54) (b := r0) dX5_restAll_51 rfl rfl hp0.1 hp0.2.1 rfl ?_
      refine zf_ld (pc' := 55) (v := .inl v1) dX5_restAll_54 rfl (fun _ _ _ => rfl) rfl rfl rfl ?_
      refine zf_ial (pc' := 56) dX5_restAll_55 rfl hp0.2.2.2.1 hp0.2.2.2.2 h.1 rfl ?_
      replace h := h.2
      refine zf_bi (v := 6) (pc' := 58) dX5_restAll_56 rfl rfl ?_
      refine zf_in (pc' := 59) (S' := [.inl ((m.1 r0 (Int32.toInt v1).toNat) - 6), .inl 0, .inl v1, .inr (.inr (1, r0))]) dX5_restAll_58 rfl (fun _ _ _ => rfl) ?_
      refine zf_max (pc' := 62) dX5_restAll_59 rfl rfl rfl ?_
      refine zf_ias (pc' := 63) dX5_restAll_62 rfl hp0.2.2.2.1 hp0.2.2.2.2 h.1 rfl (fun m7 e8 => ?_)
      replace h := h.2 m7 e8
      refine zf_ii (y := (v1 + 1)) (L2 := [some (.inr (.inr (1, w0))), some (.inl (v1 + 1))]) (pc' := 66) dX5_restAll_63 rfl rfl rfl rfl rfl ?_
      refine zf_goto (tgt := 33) dX5_restAll_66 rfl ?_
      exact zf_lo (ih _ _ h) ⟨rfl, rfl, trivial⟩
def wp_60 (w0 : Nat) (y0 : Nat) (r0 : Nat) (m : zf_Me) (Q : zf_Me → Prop) : Prop := (∀ m1, m1 = zf_u m w0 11 ((m.1 w0 11) + 10) → (∀ m3, m3 = zf_u m1 w0 6 0 → (∀ m5, m5 = zf_u m3 w0 4 (if (m3.1 w0 4) < (m3.1 w0 3) then (m3.1 w0 3) else (m3.1 w0 4)) → (∃ n33, wq_60_33 w0 y0 r0 Q n33 0 m5))))
theorem zr_60 {d : Nat} (hd : 0 ≤ d) {w0 : Nat} {y0 : Nat} {r0 : Nat} (hp0 : zf_walk w0 y0 r0) {Q : zf_Me → Prop} {m : zf_Me} (h : wp_60 w0 y0 r0 m Q) : zf_M d 60 [.inr (.inr (1, w0))] m (zf_O Q) := by
  unfold wp_60 at h
  refine zf_M_of (Nat.le_of_ble_eq_true rfl) zm_60 (L := [some (.inr (.inr (1, w0))), none]) rfl ?_
  refine zf_ld (pc' := 1) (v := .inr (.inr (1, w0))) dX5_restAll_0 rfl (fun _ _ _ => rfl) rfl rfl rfl ?_
  refine zf_in (pc' := 2) (S' := [.inr (.inr (1, w0)), .inr (.inr (1, w0))]) dX5_restAll_1 rfl (fun _ _ _ => rfl) ?_
  refine zf_gfi (pc' := 5) dX5_restAll_2 rfl rfl hp0.1 hp0.2.1 rfl ?_
  refine zf_bi (v := 10) (pc' := 7) dX5_restAll_5 rfl rfl ?_
  refine zf_in (pc' := 8) (S' := [.inl ((m.1 w0 11) + 10), .inr (.inr (1, w0))]) dX5_restAll_7 rfl (fun _ _ _ => rfl) ?_
  refine zf_pf (pc' := 11) dX5_restAll_8 rfl rfl hp0.1 hp0.2.1 rfl rfl (fun m1 e2 => ?_)
  replace h := h m1 e2
  refine zf_ld (pc' := 12) (v := .inr (.inr (1, w0))) dX5_restAll_11 rfl (fun _ _ _ => rfl) rfl rfl rfl ?_
  refine zf_ic (v := 0) (pc' := 13) dX5_restAll_12 rfl rfl ?_
  refine zf_pf (pc' := 16) dX5_restAll_13 rfl rfl hp0.1 hp0.2.1 rfl rfl (fun m3 e4 => ?_)
  replace h := h m3 e4
  refine zf_ld (pc' := 17) (v := .inr (.inr (1, w0))) dX5_restAll_16 rfl (fun _ _ _ => rfl) rfl rfl rfl ?_
  refine zf_ld (pc' := 18) (v := .inr (.inr (1, w0))) dX5_restAll_17 rfl (fun _ _ _ => rfl) rfl rfl rfl ?_
  refine zf_gfi (pc' := 21) dX5_restAll_18 rfl rfl hp0.1 hp0.2.1 rfl ?_
  refine zf_ld (pc' := 22) (v := .inr (.inr (1, w0))) dX5_restAll_21 rfl (fun _ _ _ => rfl) rfl rfl rfl ?_
  refine zf_gfi (pc' := 25) dX5_restAll_22 rfl rfl hp0.1 hp0.2.1 rfl ?_
  refine zf_max (pc' := 28) dX5_restAll_25 rfl rfl rfl ?_
  refine zf_pf (pc' := 31) dX5_restAll_28 rfl rfl hp0.1 hp0.2.1 rfl rfl (fun m5 e6 => ?_)
  replace h := h m5 e6
  refine zf_ic (v := 0) (pc' := 32) dX5_restAll_31 rfl rfl ?_
  refine zf_st (pc' := 33) (L2 := [some (.inr (.inr (1, w0))), some (.inl 0)]) dX5_restAll_32 rfl (fun _ _ _ => rfl) rfl rfl rfl rfl rfl rfl ?_
  obtain ⟨n33, h⟩ := h
  exact zf_lo (zq_60_33 (by omega) hp0 n33 _ _ h) ⟨rfl, rfl, trivial⟩
def zt_58 : zx_MT := (5, yX5_carry, cX5_carry, 3, none, 1, 0)
theorem zm_58 : zx_m 58 = zt_58 := rfl
theorem dX5_carry_r0 : zdcP cX5_carry 0 [(.aload_n 0, 1), (.getfield 49, 3), (.getfield 102, 3), (.aload_n 0, 1), (.getfield 40, 3), (.iaload, 1), (.istore_n 2, 1), (.aload_n 0, 1), (.getfield 9, 3), (.iload_n 1, 1), (.dup2, 1), (.iaload, 1), (.aload_n 0, 1), (.iload_n 1, 1), (.iload_n 2, 1), (.invokevirtual 108, 3)] := zdcA_ok (by decide +kernel)
theorem dX5_carry_0 : decode cX5_carry 0 = .ok (.aload_n 0, 1) := dX5_carry_r0.1
theorem dX5_carry_1 : decode cX5_carry 1 = .ok (.getfield 49, 3) := dX5_carry_r0.2.1
theorem dX5_carry_4 : decode cX5_carry 4 = .ok (.getfield 102, 3) := dX5_carry_r0.2.2.1
theorem dX5_carry_7 : decode cX5_carry 7 = .ok (.aload_n 0, 1) := dX5_carry_r0.2.2.2.1
theorem dX5_carry_8 : decode cX5_carry 8 = .ok (.getfield 40, 3) := dX5_carry_r0.2.2.2.2.1
theorem dX5_carry_11 : decode cX5_carry 11 = .ok (.iaload, 1) := dX5_carry_r0.2.2.2.2.2.1
theorem dX5_carry_12 : decode cX5_carry 12 = .ok (.istore_n 2, 1) := dX5_carry_r0.2.2.2.2.2.2.1
theorem dX5_carry_13 : decode cX5_carry 13 = .ok (.aload_n 0, 1) := dX5_carry_r0.2.2.2.2.2.2.2.1
theorem dX5_carry_14 : decode cX5_carry 14 = .ok (.getfield 9, 3) := dX5_carry_r0.2.2.2.2.2.2.2.2.1
theorem dX5_carry_17 : decode cX5_carry 17 = .ok (.iload_n 1, 1) := dX5_carry_r0.2.2.2.2.2.2.2.2.2.1
theorem dX5_carry_18 : decode cX5_carry 18 = .ok (.dup2, 1) := dX5_carry_r0.2.2.2.2.2.2.2.2.2.2.1
theorem dX5_carry_19 : decode cX5_carry 19 = .ok (.iaload, 1) := dX5_carry_r0.2.2.2.2.2.2.2.2.2.2.2.1
theorem dX5_carry_20 : decode cX5_carry 20 = .ok (.aload_n 0, 1) := dX5_carry_r0.2.2.2.2.2.2.2.2.2.2.2.2.1
theorem dX5_carry_21 : decode cX5_carry 21 = .ok (.iload_n 1, 1) := dX5_carry_r0.2.2.2.2.2.2.2.2.2.2.2.2.2.1
theorem dX5_carry_22 : decode cX5_carry 22 = .ok (.iload_n 2, 1) := dX5_carry_r0.2.2.2.2.2.2.2.2.2.2.2.2.2.2.1
theorem dX5_carry_23 : decode cX5_carry 23 = .ok (.invokevirtual 108, 3) := dX5_carry_r0.2.2.2.2.2.2.2.2.2.2.2.2.2.2.2.1
theorem dX5_carry_r26 : zdcP cX5_carry 26 [(.iadd, 1), (.iastore, 1), (.aload_n 0, 1), (.dup, 1), (.getfield 28, 3), (.iconst 1, 1), (.iadd, 1), (.putfield 28, 3), (.aload_n 0, 1), (.getfield 28, 3), (.iconst 2, 1), (.irem, 1), (.ifCond .ne 24, 3), (.aload_n 0, 1), (.getfield 22, 3), (.aload_n 0, 1)] := zdcA_ok (by decide +kernel)
theorem dX5_carry_26 : decode cX5_carry 26 = .ok (.iadd, 1) := dX5_carry_r26.1
theorem dX5_carry_27 : decode cX5_carry 27 = .ok (.iastore, 1) := dX5_carry_r26.2.1
theorem dX5_carry_28 : decode cX5_carry 28 = .ok (.aload_n 0, 1) := dX5_carry_r26.2.2.1
theorem dX5_carry_29 : decode cX5_carry 29 = .ok (.dup, 1) := dX5_carry_r26.2.2.2.1
theorem dX5_carry_30 : decode cX5_carry 30 = .ok (.getfield 28, 3) := dX5_carry_r26.2.2.2.2.1
theorem dX5_carry_33 : decode cX5_carry 33 = .ok (.iconst 1, 1) := dX5_carry_r26.2.2.2.2.2.1
theorem dX5_carry_34 : decode cX5_carry 34 = .ok (.iadd, 1) := dX5_carry_r26.2.2.2.2.2.2.1
theorem dX5_carry_35 : decode cX5_carry 35 = .ok (.putfield 28, 3) := dX5_carry_r26.2.2.2.2.2.2.2.1
theorem dX5_carry_38 : decode cX5_carry 38 = .ok (.aload_n 0, 1) := dX5_carry_r26.2.2.2.2.2.2.2.2.1
theorem dX5_carry_39 : decode cX5_carry 39 = .ok (.getfield 28, 3) := dX5_carry_r26.2.2.2.2.2.2.2.2.2.1
theorem dX5_carry_42 : decode cX5_carry 42 = .ok (.iconst 2, 1) := dX5_carry_r26.2.2.2.2.2.2.2.2.2.2.1
theorem dX5_carry_43 : decode cX5_carry 43 = .ok (.irem, 1) := dX5_carry_r26.2.2.2.2.2.2.2.2.2.2.2.1
theorem dX5_carry_44 : decode cX5_carry 44 = .ok (.ifCond .ne 24, 3) := dX5_carry_r26.2.2.2.2.2.2.2.2.2.2.2.2.1
theorem dX5_carry_47 : decode cX5_carry 47 = .ok (.aload_n 0, 1) := dX5_carry_r26.2.2.2.2.2.2.2.2.2.2.2.2.2.1
theorem dX5_carry_48 : decode cX5_carry 48 = .ok (.getfield 22, 3) := dX5_carry_r26.2.2.2.2.2.2.2.2.2.2.2.2.2.2.1
theorem dX5_carry_51 : decode cX5_carry 51 = .ok (.aload_n 0, 1) := dX5_carry_r26.2.2.2.2.2.2.2.2.2.2.2.2.2.2.2.1
theorem dX5_carry_r52 : zdcP cX5_carry 52 [(.getfield 19, 3), (.if_icmp .ge 13, 3), (.aload_n 0, 1), (.dup, 1), (.getfield 22, 3), (.iconst 1, 1), (.iadd, 1), (.putfield 22, 3), (.aload_n 0, 1), (.dup, 1), (.getfield 43, 3), (.iconst 3, 1), (.bipush 6, 2), (.iload_n 2, 1), (.iadd, 1), (.aload_n 0, 1)] := zdcA_ok (by decide +kernel)
theorem dX5_carry_52 : decode cX5_carry 52 = .ok (.getfield 19, 3) := dX5_carry_r52.1
theorem dX5_carry_55 : decode cX5_carry 55 = .ok (.if_icmp .ge 13, 3) := dX5_carry_r52.2.1
theorem dX5_carry_58 : decode cX5_carry 58 = .ok (.aload_n 0, 1) := dX5_carry_r52.2.2.1
theorem dX5_carry_59 : decode cX5_carry 59 = .ok (.dup, 1) := dX5_carry_r52.2.2.2.1
theorem dX5_carry_60 : decode cX5_carry 60 = .ok (.getfield 22, 3) := dX5_carry_r52.2.2.2.2.1
theorem dX5_carry_63 : decode cX5_carry 63 = .ok (.iconst 1, 1) := dX5_carry_r52.2.2.2.2.2.1
theorem dX5_carry_64 : decode cX5_carry 64 = .ok (.iadd, 1) := dX5_carry_r52.2.2.2.2.2.2.1
theorem dX5_carry_65 : decode cX5_carry 65 = .ok (.putfield 22, 3) := dX5_carry_r52.2.2.2.2.2.2.2.1
theorem dX5_carry_68 : decode cX5_carry 68 = .ok (.aload_n 0, 1) := dX5_carry_r52.2.2.2.2.2.2.2.2.1
theorem dX5_carry_69 : decode cX5_carry 69 = .ok (.dup, 1) := dX5_carry_r52.2.2.2.2.2.2.2.2.2.1
theorem dX5_carry_70 : decode cX5_carry 70 = .ok (.getfield 43, 3) := dX5_carry_r52.2.2.2.2.2.2.2.2.2.2.1
theorem dX5_carry_73 : decode cX5_carry 73 = .ok (.iconst 3, 1) := dX5_carry_r52.2.2.2.2.2.2.2.2.2.2.2.1
theorem dX5_carry_74 : decode cX5_carry 74 = .ok (.bipush 6, 2) := dX5_carry_r52.2.2.2.2.2.2.2.2.2.2.2.2.1
theorem dX5_carry_76 : decode cX5_carry 76 = .ok (.iload_n 2, 1) := dX5_carry_r52.2.2.2.2.2.2.2.2.2.2.2.2.2.1
theorem dX5_carry_77 : decode cX5_carry 77 = .ok (.iadd, 1) := dX5_carry_r52.2.2.2.2.2.2.2.2.2.2.2.2.2.2.1
theorem dX5_carry_78 : decode cX5_carry 78 = .ok (.aload_n 0, 1) := dX5_carry_r52.2.2.2.2.2.2.2.2.2.2.2.2.2.2.2.1
theorem dX5_carry_r79 : zdcP cX5_carry 79 [(.getfield 28, 3), (.iconst 1, 1), (.if_icmp .ne 7, 3), (.iconst 1, 1), (.goto 4, 3), (.iconst 0, 1), (.iadd, 1), (.invokestatic 79, 3), (.iadd, 1), (.putfield 43, 3), (.aload_n 0, 1), (.iload_n 1, 1), (.invokevirtual 124, 3), (.aload_n 0, 1), (.dup, 1), (.getfield 40, 3)] := zdcA_ok (by decide +kernel)
theorem dX5_carry_79 : decode cX5_carry 79 = .ok (.getfield 28, 3) := dX5_carry_r79.1
theorem dX5_carry_82 : decode cX5_carry 82 = .ok (.iconst 1, 1) := dX5_carry_r79.2.1
theorem dX5_carry_83 : decode cX5_carry 83 = .ok (.if_icmp .ne 7, 3) := dX5_carry_r79.2.2.1
theorem dX5_carry_86 : decode cX5_carry 86 = .ok (.iconst 1, 1) := dX5_carry_r79.2.2.2.1
theorem dX5_carry_87 : decode cX5_carry 87 = .ok (.goto 4, 3) := dX5_carry_r79.2.2.2.2.1
theorem dX5_carry_90 : decode cX5_carry 90 = .ok (.iconst 0, 1) := dX5_carry_r79.2.2.2.2.2.1
theorem dX5_carry_91 : decode cX5_carry 91 = .ok (.iadd, 1) := dX5_carry_r79.2.2.2.2.2.2.1
theorem dX5_carry_92 : decode cX5_carry 92 = .ok (.invokestatic 79, 3) := dX5_carry_r79.2.2.2.2.2.2.2.1
theorem dX5_carry_95 : decode cX5_carry 95 = .ok (.iadd, 1) := dX5_carry_r79.2.2.2.2.2.2.2.2.1
theorem dX5_carry_96 : decode cX5_carry 96 = .ok (.putfield 43, 3) := dX5_carry_r79.2.2.2.2.2.2.2.2.2.1
theorem dX5_carry_99 : decode cX5_carry 99 = .ok (.aload_n 0, 1) := dX5_carry_r79.2.2.2.2.2.2.2.2.2.2.1
theorem dX5_carry_100 : decode cX5_carry 100 = .ok (.iload_n 1, 1) := dX5_carry_r79.2.2.2.2.2.2.2.2.2.2.2.1
theorem dX5_carry_101 : decode cX5_carry 101 = .ok (.invokevirtual 124, 3) := dX5_carry_r79.2.2.2.2.2.2.2.2.2.2.2.2.1
theorem dX5_carry_104 : decode cX5_carry 104 = .ok (.aload_n 0, 1) := dX5_carry_r79.2.2.2.2.2.2.2.2.2.2.2.2.2.1
theorem dX5_carry_105 : decode cX5_carry 105 = .ok (.dup, 1) := dX5_carry_r79.2.2.2.2.2.2.2.2.2.2.2.2.2.2.1
theorem dX5_carry_106 : decode cX5_carry 106 = .ok (.getfield 40, 3) := dX5_carry_r79.2.2.2.2.2.2.2.2.2.2.2.2.2.2.2.1
theorem dX5_carry_r109 : zdcP cX5_carry 109 [(.iconst 1, 1), (.iadd, 1), (.putfield 40, 3), (.return_, 1)] := zdcA_ok (by decide +kernel)
theorem dX5_carry_109 : decode cX5_carry 109 = .ok (.iconst 1, 1) := dX5_carry_r109.1
theorem dX5_carry_110 : decode cX5_carry 110 = .ok (.iadd, 1) := dX5_carry_r109.2.1
theorem dX5_carry_111 : decode cX5_carry 111 = .ok (.putfield 40, 3) := dX5_carry_r109.2.2.1
theorem dX5_carry_114 : decode cX5_carry 114 = .ok (.return_, 1) := dX5_carry_r109.2.2.2.1
def wq_58_91 (w0 : Nat) (y0 : Nat) (r0 : Nat) (v1 : Int32) (u0 : Int32) (u1 : Int32) (u2 : Int32) (u3 : Int32) (m : zf_Me) (Q : zf_Me → Prop) : Prop := (∀ m7, m7 = zf_u m w0 11 (u3 + (if u2 < (u1 + u0) then (u1 + u0) else u2)) → wp_59 w0 y0 r0 v1 m7 (fun m10 => (∀ m11, m11 = zf_u m10 w0 10 ((m10.1 w0 10) + 1) → Q m11)))
theorem zq_58_91 {d : Nat} (hd : 2 ≤ d) {w0 : Nat} {y0 : Nat} {r0 : Nat} (hp0 : zf_walk w0 y0 r0) {v1 : Int32} {Q : zf_Me → Prop} {u0 : Int32} {u1 : Int32} {u2 : Int32} {u3 : Int32} {m : zf_Me} (h : wq_58_91 w0 y0 r0 v1 u0 u1 u2 u3 m Q) : zf_W none 0 0 d zt_58 91 [some (.inr (.inr (1, w0))), some (.inl v1), none] [.inl u0, .inl u1, .inl u2, .inl u3, .inr (.inr (1, w0))] m (zf_O Q) := by
  obtain ⟨e, rfl⟩ : ∃ z, d = z + 1 := ⟨d - 1, by omega⟩
  unfold wq_58_91 at h
  refine zf_in (pc' := 92) (S' := [.inl (u1 + u0), .inl u2, .inl u3, .inr (.inr (1, w0))]) dX5_carry_91 rfl (fun _ _ _ => rfl) ?_
  refine zf_max (pc' := 95) dX5_carry_92 rfl rfl rfl ?_
  refine zf_in (pc' := 96) (S' := [.inl (u3 + (if u2 < (u1 + u0) then (u1 + u0) else u2)), .inr (.inr (1, w0))]) dX5_carry_95 rfl (fun _ _ _ => rfl) ?_
  refine zf_pf (pc' := 99) dX5_carry_96 rfl rfl hp0.1 hp0.2.1 rfl rfl (fun m7 e8 => ?_)
  replace h := h m7 e8
  refine zf_ld (pc' := 100) (v := .inr (.inr (1, w0))) dX5_carry_99 rfl (fun _ _ _ => rfl) rfl rfl rfl ?_
  refine zf_ld (pc' := 101) (v := .inl v1) dX5_carry_100 rfl (fun _ _ _ => rfl) rfl rfl rfl ?_
  refine zf_iv (k := 59) (pc' := 104) (r := []) dX5_carry_101 rfl rfl rfl rfl hp0.1 hp0.2.1 rfl rfl (zr_59 (by omega) hp0 h) (zf_kO (fun m10 h => ?_))
  refine zf_ld (pc' := 105) (v := .inr (.inr (1, w0))) dX5_carry_104 rfl (fun _ _ _ => rfl) rfl rfl rfl ?_
  refine zf_in (pc' := 106) (S' := [.inr (.inr (1, w0)), .inr (.inr (1, w0))]) dX5_carry_105 rfl (fun _ _ _ => rfl) ?_
  refine zf_gfi (pc' := 109) dX5_carry_106 rfl rfl hp0.1 hp0.2.1 rfl ?_
  refine zf_ic (v := 1) (pc' := 110) dX5_carry_109 rfl rfl ?_
  refine zf_in (pc' := 111) (S' := [.inl ((m10.1 w0 10) + 1), .inr (.inr (1, w0))]) dX5_carry_110 rfl (fun _ _ _ => rfl) ?_
  refine zf_pf (pc' := 114) dX5_carry_111 rfl rfl hp0.1 hp0.2.1 rfl rfl (fun m11 e12 => ?_)
  replace h := h m11 e12
  exact zf_rv dX5_carry_114 rfl h
def wq_58_68 (w0 : Nat) (y0 : Nat) (r0 : Nat) (v1 : Int32) (v2 : Int32) (m : zf_Me) (Q : zf_Me → Prop) : Prop := ((¬ ((m.1 w0 6)).toInt = 1 → wq_58_91 w0 y0 r0 v1 0 (6 + v2) 3 (m.1 w0 11) m Q) ∧ (((m.1 w0 6)).toInt = 1 → wq_58_91 w0 y0 r0 v1 1 (6 + v2) 3 (m.1 w0 11) m Q))
theorem zq_58_68 {d : Nat} (hd : 2 ≤ d) {w0 : Nat} {y0 : Nat} {r0 : Nat} (hp0 : zf_walk w0 y0 r0) {v1 : Int32} {Q : zf_Me → Prop} {v2 : Int32} {m : zf_Me} (h : wq_58_68 w0 y0 r0 v1 v2 m Q) : zf_W none 0 0 d zt_58 68 [some (.inr (.inr (1, w0))), some (.inl v1), some (.inl v2)] [] m (zf_O Q) := by
  unfold wq_58_68 at h
  refine zf_ld (pc' := 69) (v := .inr (.inr (1, w0))) dX5_carry_68 rfl (fun _ _ _ => rfl) rfl rfl rfl ?_
  refine zf_in (pc' := 70) (S' := [.inr (.inr (1, w0)), .inr (.inr (1, w0))]) dX5_carry_69 rfl (fun _ _ _ => rfl) ?_
  refine zf_gfi (pc' := 73) dX5_carry_70 rfl rfl hp0.1 hp0.2.1 rfl ?_
  refine zf_ic (v := 3) (pc' := 74) dX5_carry_73 rfl rfl ?_
  refine zf_bi (v := 6) (pc' := 76) dX5_carry_74 rfl rfl ?_
  refine zf_ld (pc' := 77) (v := .inl v2) dX5_carry_76 rfl (fun _ _ _ => rfl) rfl rfl rfl ?_
  refine zf_in (pc' := 78) (S' := [.inl (6 + v2), .inl 3, .inl (m.1 w0 11), .inr (.inr (1, w0))]) dX5_carry_77 rfl (fun _ _ _ => rfl) ?_
  refine zf_ld (pc' := 79) (v := .inr (.inr (1, w0))) dX5_carry_78 rfl (fun _ _ _ => rfl) rfl rfl rfl ?_
  refine zf_gfi (pc' := 82) dX5_carry_79 rfl rfl hp0.1 hp0.2.1 rfl ?_
  refine zf_ic (v := 1) (pc' := 83) dX5_carry_82 rfl rfl ?_
  refine zf_icmp_ne (tgt := 90) (pc' := 86) dX5_carry_83 rfl rfl (fun g => ?_) (fun g => ?_)
  · replace h := h.1 g
    refine zf_ic (v := 0) (pc' := 91) dX5_carry_90 rfl rfl ?_
    exact zf_lo (zq_58_91 (by omega) hp0 h) ⟨rfl, rfl, trivial⟩
  · replace h := h.2 g
    refine zf_ic (v := 1) (pc' := 87) dX5_carry_86 rfl rfl ?_
    refine zf_goto (tgt := 91) dX5_carry_87 rfl ?_
    exact zf_lo (zq_58_91 (by omega) hp0 h) ⟨rfl, rfl, trivial⟩
def wp_58 (w0 : Nat) (y0 : Nat) (r0 : Nat) (v1 : Int32) (m : zf_Me) (Q : zf_Me → Prop) : Prop := ((0 ≤ (Int32.toInt (m.1 w0 10)) ∧ (Int32.toInt (m.1 w0 10)) < (24 : Int)) ∧ ((0 ≤ (Int32.toInt v1) ∧ (Int32.toInt v1) < (6 : Int)) ∧ wp_51 w0 y0 r0 v1 (m.1 (y0 + 1) (Int32.toInt (m.1 w0 10)).toNat) m (fun x1 m2 => ((0 ≤ (Int32.toInt v1) ∧ (Int32.toInt v1) < (6 : Int)) ∧ ∀ m3, m3 = zf_u m2 r0 (Int32.toInt v1).toNat ((m.1 r0 (Int32.toInt v1).toNat) + x1) → (∀ m5, m5 = zf_u m3 w0 6 ((m3.1 w0 6) + 1) → ((¬ (((m5.1 w0 6) - (m5.1 w0 6) / 2 * 2)).toInt = 0 → wq_58_68 w0 y0 r0 v1 (m.1 (y0 + 1) (Int32.toInt (m.1 w0 10)).toNat) m5 Q) ∧ ((((m5.1 w0 6) - (m5.1 w0 6) / 2 * 2)).toInt = 0 → ((((m5.1 w0 4)).toInt ≥ ((m5.1 w0 3)).toInt → wq_58_68 w0 y0 r0 v1 (m.1 (y0 + 1) (Int32.toInt (m.1 w0 10)).toNat) m5 Q) ∧ (((m5.1 w0 4)).toInt < ((m5.1 w0 3)).toInt → (∀ m13, m13 = zf_u m5 w0 4 ((m5.1 w0 4) + 1) → wq_58_68 w0 y0 r0 v1 (m.1 (y0 + 1) (Int32.toInt (m.1 w0 10)).toNat) m13 Q))))))))))
theorem zr_58 {d : Nat} (hd : 2 ≤ d) {w0 : Nat} {y0 : Nat} {r0 : Nat} (hp0 : zf_walk w0 y0 r0) {v1 : Int32} {Q : zf_Me → Prop} {m : zf_Me} (h : wp_58 w0 y0 r0 v1 m Q) : zf_M d 58 [.inr (.inr (1, w0)), .inl v1] m (zf_O Q) := by
  obtain ⟨e, rfl⟩ : ∃ z, d = z + 1 := ⟨d - 1, by omega⟩
  unfold wp_58 at h
  refine zf_M_of (Nat.le_of_ble_eq_true rfl) zm_58 (L := [some (.inr (.inr (1, w0))), some (.inl v1), none]) rfl ?_
  refine zf_ld (pc' := 1) (v := .inr (.inr (1, w0))) dX5_carry_0 rfl (fun _ _ _ => rfl) rfl rfl rfl ?_
  refine zf_gfr (pc' := 4) (b := y0) dX5_carry_1 rfl rfl hp0.1 hp0.2.1 rfl ?_
  refine zf_gfr (pc' := 7) (b := (y0 + 1)) dX5_carry_4 rfl rfl hp0.2.2.1.1 hp0.2.2.1.2.1 rfl ?_
  refine zf_ld (pc' := 8) (v := .inr (.inr (1, w0))) dX5_carry_7 rfl (fun _ _ _ => rfl) rfl rfl rfl ?_
  refine zf_gfi (pc' := 11) dX5_carry_8 rfl rfl hp0.1 hp0.2.1 rfl ?_
  refine zf_ial (pc' := 12) dX5_carry_11 rfl hp0.2.2.1.2.2.1.1 hp0.2.2.1.2.2.1.2 h.1 rfl ?_
  replace h := h.2
  refine zf_st (pc' := 13) (L2 := [some (.inr (.inr (1, w0))), some (.inl v1), some (.inl (m.1 (y0 + 1) (Int32.toInt (m.1 w0 10)).toNat))]) dX5_carry_12 rfl (fun _ _ _ => rfl) rfl rfl rfl rfl rfl rfl ?_
  refine zf_ld (pc' := 14) (v := .inr (.inr (1, w0))) dX5_carry_13 rfl (fun _ _ _ => rfl) rfl rfl rfl ?_
  refine zf_gfr (pc' := 17) (b := r0) dX5_carry_14 rfl rfl hp0.1 hp0.2.1 rfl ?_
  refine zf_ld (pc' := 18) (v := .inl v1) dX5_carry_17 rfl (fun _ _ _ => rfl) rfl rfl rfl ?_
  refine zf_in (pc' := 19) (S' := [.inl v1, .inr (.inr (1, r0)), .inl v1, .inr (.inr (1, r0))]) dX5_carry_18 rfl (fun _ _ _ => rfl) ?_
  refine zf_ial (pc' := 20) dX5_carry_19 rfl hp0.2.2.2.1 hp0.2.2.2.2 h.1 rfl ?_
  replace h := h.2
  refine zf_ld (pc' := 21) (v := .inr (.inr (1, w0))) dX5_carry_20 rfl (fun _ _ _ => rfl) rfl rfl rfl ?_
  refine zf_ld (pc' := 22) (v := .inl v1) dX5_carry_21 rfl (fun _ _ _ => rfl) rfl rfl rfl ?_
  refine zf_ld (pc' := 23) (v := .inl (m.1 (y0 + 1) (Int32.toInt (m.1 w0 10)).toNat)) dX5_carry_22 rfl (fun _ _ _ => rfl) rfl rfl rfl ?_
  refine zf_iv (k := 51) (pc' := 26) (r := [.inl (m.1 r0 (Int32.toInt v1).toNat), .inl v1, .inr (.inr (1, r0))]) dX5_carry_23 rfl rfl rfl rfl hp0.1 hp0.2.1 rfl rfl (zr_51 (by omega) hp0 h) (zf_kI (fun x1 m2 h => ?_))
  refine zf_in (pc' := 27) (S' := [.inl ((m.1 r0 (Int32.toInt v1).toNat) + x1), .inl v1, .inr (.inr (1, r0))]) dX5_carry_26 rfl (fun _ _ _ => rfl) ?_
  refine zf_ias (pc' := 28) dX5_carry_27 rfl hp0.2.2.2.1 hp0.2.2.2.2 h.1 rfl (fun m3 e4 => ?_)
  replace h := h.2 m3 e4
  refine zf_ld (pc' := 29) (v := .inr (.inr (1, w0))) dX5_carry_28 rfl (fun _ _ _ => rfl) rfl rfl rfl ?_
  refine zf_in (pc' := 30) (S' := [.inr (.inr (1, w0)), .inr (.inr (1, w0))]) dX5_carry_29 rfl (fun _ _ _ => rfl) ?_
  refine zf_gfi (pc' := 33) dX5_carry_30 rfl rfl hp0.1 hp0.2.1 rfl ?_
  refine zf_ic (v := 1) (pc' := 34) dX5_carry_33 rfl rfl ?_
  refine zf_in (pc' := 35) (S' := [.inl ((m3.1 w0 6) + 1), .inr (.inr (1, w0))]) dX5_carry_34 rfl (fun _ _ _ => rfl) ?_
  refine zf_pf (pc' := 38) dX5_carry_35 rfl rfl hp0.1 hp0.2.1 rfl rfl (fun m5 e6 => ?_)
  replace h := h m5 e6
  refine zf_ld (pc' := 39) (v := .inr (.inr (1, w0))) dX5_carry_38 rfl (fun _ _ _ => rfl) rfl rfl rfl ?_
  refine zf_gfi (pc' := 42) dX5_carry_39 rfl rfl hp0.1 hp0.2.1 rfl ?_
  refine zf_ic (v := 2) (pc' := 43) dX5_carry_42 rfl rfl ?_
  refine zf_rem (pc' := 44) dX5_carry_43 rfl (by decide) ?_
  refine zf_if_ne (tgt := 68) (pc' := 47) dX5_carry_44 rfl rfl (fun g => ?_) (fun g => ?_)
  · replace h := h.1 g
    exact zf_lo (zq_58_68 (by omega) hp0 h) ⟨rfl, rfl, rfl, trivial⟩
  · replace h := h.2 g
    refine zf_ld (pc' := 48) (v := .inr (.inr (1, w0))) dX5_carry_47 rfl (fun _ _ _ => rfl) rfl rfl rfl ?_
    refine zf_gfi (pc' := 51) dX5_carry_48 rfl rfl hp0.1 hp0.2.1 rfl ?_
    refine zf_ld (pc' := 52) (v := .inr (.inr (1, w0))) dX5_carry_51 rfl (fun _ _ _ => rfl) rfl rfl rfl ?_
    refine zf_gfi (pc' := 55) dX5_carry_52 rfl rfl hp0.1 hp0.2.1 rfl ?_
    refine zf_icmp_ge (tgt := 68) (pc' := 58) dX5_carry_55 rfl rfl (fun g => ?_) (fun g => ?_)
    · replace h := h.1 g
      exact zf_lo (zq_58_68 (by omega) hp0 h) ⟨rfl, rfl, rfl, trivial⟩
    · replace h := h.2 g
      refine zf_ld (pc' := 59) (v := .inr (.inr (1, w0))) dX5_carry_58 rfl (fun _ _ _ => rfl) rfl rfl rfl ?_
      refine zf_in (pc' := 60) (S' := [.inr (.inr (1, w0)), .inr (.inr (1, w0))]) dX5_carry_59 rfl (fun _ _ _ => rfl) ?_
      refine zf_gfi (pc' := 63) dX5_carry_60 rfl rfl hp0.1 hp0.2.1 rfl ?_
      refine zf_ic (v := 1) (pc' := 64) dX5_carry_63 rfl rfl ?_
      refine zf_in (pc' := 65) (S' := [.inl ((m5.1 w0 4) + 1), .inr (.inr (1, w0))]) dX5_carry_64 rfl (fun _ _ _ => rfl) ?_
      refine zf_pf (pc' := 68) dX5_carry_65 rfl rfl hp0.1 hp0.2.1 rfl rfl (fun m13 e14 => ?_)
      replace h := h m13 e14
      exact zf_lo (zq_58_68 (by omega) hp0 h) ⟨rfl, rfl, rfl, trivial⟩
def zt_56 : zx_MT := (5, yX5_come, cX5_come, 2, none, 1, 0)
theorem zm_56 : zx_m 56 = zt_56 := rfl
theorem dX5_come_0 : decode cX5_come 0 = .ok (.iload_n 1, 1) := zdc_ok (by decide +kernel)
theorem dX5_come_1 : decode cX5_come 1 = .ok (.tableswitch 117 6 9 #[31, 38, 74, 110], 31) := by decide +kernel
theorem dX5_come_r32 : zdcP cX5_come 32 [(.aload_n 0, 1), (.invokevirtual 114, 3), (.goto 87, 3), (.aload_n 0, 1), (.dup, 1), (.getfield 31, 3), (.iconst 1, 1), (.isub, 1), (.putfield 31, 3), (.aload_n 0, 1), (.aload_n 0, 1), (.getfield 22, 3), (.iconst 2, 1), (.iadd, 1), (.aload_n 0, 1), (.getfield 19, 3)] := zdcA_ok (by decide +kernel)
theorem dX5_come_32 : decode cX5_come 32 = .ok (.aload_n 0, 1) := dX5_come_r32.1
theorem dX5_come_33 : decode cX5_come 33 = .ok (.invokevirtual 114, 3) := dX5_come_r32.2.1
theorem dX5_come_36 : decode cX5_come 36 = .ok (.goto 87, 3) := dX5_come_r32.2.2.1
theorem dX5_come_39 : decode cX5_come 39 = .ok (.aload_n 0, 1) := dX5_come_r32.2.2.2.1
theorem dX5_come_40 : decode cX5_come 40 = .ok (.dup, 1) := dX5_come_r32.2.2.2.2.1
theorem dX5_come_41 : decode cX5_come 41 = .ok (.getfield 31, 3) := dX5_come_r32.2.2.2.2.2.1
theorem dX5_come_44 : decode cX5_come 44 = .ok (.iconst 1, 1) := dX5_come_r32.2.2.2.2.2.2.1
theorem dX5_come_45 : decode cX5_come 45 = .ok (.isub, 1) := dX5_come_r32.2.2.2.2.2.2.2.1
theorem dX5_come_46 : decode cX5_come 46 = .ok (.putfield 31, 3) := dX5_come_r32.2.2.2.2.2.2.2.2.1
theorem dX5_come_49 : decode cX5_come 49 = .ok (.aload_n 0, 1) := dX5_come_r32.2.2.2.2.2.2.2.2.2.1
theorem dX5_come_50 : decode cX5_come 50 = .ok (.aload_n 0, 1) := dX5_come_r32.2.2.2.2.2.2.2.2.2.2.1
theorem dX5_come_51 : decode cX5_come 51 = .ok (.getfield 22, 3) := dX5_come_r32.2.2.2.2.2.2.2.2.2.2.2.1
theorem dX5_come_54 : decode cX5_come 54 = .ok (.iconst 2, 1) := dX5_come_r32.2.2.2.2.2.2.2.2.2.2.2.2.1
theorem dX5_come_55 : decode cX5_come 55 = .ok (.iadd, 1) := dX5_come_r32.2.2.2.2.2.2.2.2.2.2.2.2.2.1
theorem dX5_come_56 : decode cX5_come 56 = .ok (.aload_n 0, 1) := dX5_come_r32.2.2.2.2.2.2.2.2.2.2.2.2.2.2.1
theorem dX5_come_57 : decode cX5_come 57 = .ok (.getfield 19, 3) := dX5_come_r32.2.2.2.2.2.2.2.2.2.2.2.2.2.2.2.1
theorem dX5_come_r60 : zdcP cX5_come 60 [(.iconst 2, 1), (.iadd, 1), (.invokestatic 70, 3), (.putfield 22, 3), (.aload_n 0, 1), (.invokevirtual 114, 3), (.goto 51, 3), (.aload_n 0, 1), (.dup, 1), (.getfield 34, 3), (.iconst 1, 1), (.isub, 1), (.putfield 34, 3), (.aload_n 0, 1), (.aload_n 0, 1), (.getfield 22, 3)] := zdcA_ok (by decide +kernel)
theorem dX5_come_60 : decode cX5_come 60 = .ok (.iconst 2, 1) := dX5_come_r60.1
theorem dX5_come_61 : decode cX5_come 61 = .ok (.iadd, 1) := dX5_come_r60.2.1
theorem dX5_come_62 : decode cX5_come 62 = .ok (.invokestatic 70, 3) := dX5_come_r60.2.2.1
theorem dX5_come_65 : decode cX5_come 65 = .ok (.putfield 22, 3) := dX5_come_r60.2.2.2.1
theorem dX5_come_68 : decode cX5_come 68 = .ok (.aload_n 0, 1) := dX5_come_r60.2.2.2.2.1
theorem dX5_come_69 : decode cX5_come 69 = .ok (.invokevirtual 114, 3) := dX5_come_r60.2.2.2.2.2.1
theorem dX5_come_72 : decode cX5_come 72 = .ok (.goto 51, 3) := dX5_come_r60.2.2.2.2.2.2.1
theorem dX5_come_75 : decode cX5_come 75 = .ok (.aload_n 0, 1) := dX5_come_r60.2.2.2.2.2.2.2.1
theorem dX5_come_76 : decode cX5_come 76 = .ok (.dup, 1) := dX5_come_r60.2.2.2.2.2.2.2.2.1
theorem dX5_come_77 : decode cX5_come 77 = .ok (.getfield 34, 3) := dX5_come_r60.2.2.2.2.2.2.2.2.2.1
theorem dX5_come_80 : decode cX5_come 80 = .ok (.iconst 1, 1) := dX5_come_r60.2.2.2.2.2.2.2.2.2.2.1
theorem dX5_come_81 : decode cX5_come 81 = .ok (.isub, 1) := dX5_come_r60.2.2.2.2.2.2.2.2.2.2.2.1
theorem dX5_come_82 : decode cX5_come 82 = .ok (.putfield 34, 3) := dX5_come_r60.2.2.2.2.2.2.2.2.2.2.2.2.1
theorem dX5_come_85 : decode cX5_come 85 = .ok (.aload_n 0, 1) := dX5_come_r60.2.2.2.2.2.2.2.2.2.2.2.2.2.1
theorem dX5_come_86 : decode cX5_come 86 = .ok (.aload_n 0, 1) := dX5_come_r60.2.2.2.2.2.2.2.2.2.2.2.2.2.2.1
theorem dX5_come_87 : decode cX5_come 87 = .ok (.getfield 22, 3) := dX5_come_r60.2.2.2.2.2.2.2.2.2.2.2.2.2.2.2.1
theorem dX5_come_r90 : zdcP cX5_come 90 [(.iconst 1, 1), (.iadd, 1), (.aload_n 0, 1), (.getfield 19, 3), (.iconst 2, 1), (.iadd, 1), (.invokestatic 70, 3), (.putfield 22, 3), (.aload_n 0, 1), (.invokevirtual 114, 3), (.goto 15, 3), (.aload_n 0, 1), (.invokevirtual 117, 3), (.goto 8, 3), (.aload_n 0, 1), (.iload_n 1, 1)] := zdcA_ok (by decide +kernel)
theorem dX5_come_90 : decode cX5_come 90 = .ok (.iconst 1, 1) := dX5_come_r90.1
theorem dX5_come_91 : decode cX5_come 91 = .ok (.iadd, 1) := dX5_come_r90.2.1
theorem dX5_come_92 : decode cX5_come 92 = .ok (.aload_n 0, 1) := dX5_come_r90.2.2.1
theorem dX5_come_93 : decode cX5_come 93 = .ok (.getfield 19, 3) := dX5_come_r90.2.2.2.1
theorem dX5_come_96 : decode cX5_come 96 = .ok (.iconst 2, 1) := dX5_come_r90.2.2.2.2.1
theorem dX5_come_97 : decode cX5_come 97 = .ok (.iadd, 1) := dX5_come_r90.2.2.2.2.2.1
theorem dX5_come_98 : decode cX5_come 98 = .ok (.invokestatic 70, 3) := dX5_come_r90.2.2.2.2.2.2.1
theorem dX5_come_101 : decode cX5_come 101 = .ok (.putfield 22, 3) := dX5_come_r90.2.2.2.2.2.2.2.1
theorem dX5_come_104 : decode cX5_come 104 = .ok (.aload_n 0, 1) := dX5_come_r90.2.2.2.2.2.2.2.2.1
theorem dX5_come_105 : decode cX5_come 105 = .ok (.invokevirtual 114, 3) := dX5_come_r90.2.2.2.2.2.2.2.2.2.1
theorem dX5_come_108 : decode cX5_come 108 = .ok (.goto 15, 3) := dX5_come_r90.2.2.2.2.2.2.2.2.2.2.1
theorem dX5_come_111 : decode cX5_come 111 = .ok (.aload_n 0, 1) := dX5_come_r90.2.2.2.2.2.2.2.2.2.2.2.1
theorem dX5_come_112 : decode cX5_come 112 = .ok (.invokevirtual 117, 3) := dX5_come_r90.2.2.2.2.2.2.2.2.2.2.2.2.1
theorem dX5_come_115 : decode cX5_come 115 = .ok (.goto 8, 3) := dX5_come_r90.2.2.2.2.2.2.2.2.2.2.2.2.2.1
theorem dX5_come_118 : decode cX5_come 118 = .ok (.aload_n 0, 1) := dX5_come_r90.2.2.2.2.2.2.2.2.2.2.2.2.2.2.1
theorem dX5_come_119 : decode cX5_come 119 = .ok (.iload_n 1, 1) := dX5_come_r90.2.2.2.2.2.2.2.2.2.2.2.2.2.2.2.1
theorem dX5_come_r120 : zdcP cX5_come 120 [(.invokevirtual 120, 3), (.return_, 1)] := zdcA_ok (by decide +kernel)
theorem dX5_come_120 : decode cX5_come 120 = .ok (.invokevirtual 120, 3) := dX5_come_r120.1
theorem dX5_come_123 : decode cX5_come 123 = .ok (.return_, 1) := dX5_come_r120.2.1
def wp_56 (w0 : Nat) (y0 : Nat) (r0 : Nat) (v1 : Int32) (m : zf_Me) (Q : zf_Me → Prop) : Prop := (((v1.toInt < 6 ∨ v1.toInt > 9) → wp_58 w0 y0 r0 v1 m (fun m2 => Q m2)) ∧ (v1.toInt = 6 → wp_57 w0 y0 r0 m (fun m4 => Q m4)) ∧ (v1.toInt = 7 → (∀ m5, m5 = zf_u m w0 7 ((m.1 w0 7) - 1) → (∀ m7, m7 = zf_u m5 w0 4 (if ((m5.1 w0 3) + 2) < ((m5.1 w0 4) + 2) then ((m5.1 w0 3) + 2) else ((m5.1 w0 4) + 2)) → wp_57 w0 y0 r0 m7 (fun m10 => Q m10)))) ∧ (v1.toInt = 8 → (∀ m11, m11 = zf_u m w0 8 ((m.1 w0 8) - 1) → (∀ m13, m13 = zf_u m11 w0 4 (if ((m11.1 w0 3) + 2) < ((m11.1 w0 4) + 1) then ((m11.1 w0 3) + 2) else ((m11.1 w0 4) + 1)) → wp_57 w0 y0 r0 m13 (fun m16 => Q m16)))) ∧ (v1.toInt = 9 → wp_60 w0 y0 r0 m (fun m18 => Q m18)))
theorem zr_56 {d : Nat} (hd : 3 ≤ d) {w0 : Nat} {y0 : Nat} {r0 : Nat} (hp0 : zf_walk w0 y0 r0) {v1 : Int32} {Q : zf_Me → Prop} {m : zf_Me} (h : wp_56 w0 y0 r0 v1 m Q) : zf_M d 56 [.inr (.inr (1, w0)), .inl v1] m (zf_O Q) := by
  obtain ⟨e, rfl⟩ : ∃ z, d = z + 1 := ⟨d - 1, by omega⟩
  unfold wp_56 at h
  refine zf_M_of (Nat.le_of_ble_eq_true rfl) zm_56 (L := [some (.inr (.inr (1, w0))), some (.inl v1)]) rfl ?_
  refine zf_ld (pc' := 1) (v := .inl v1) dX5_come_0 rfl (fun _ _ _ => rfl) rfl rfl rfl ?_
  refine zf_tsc (tgd := 118) dX5_come_1 rfl [32, 39, 75, 111] (by decide) (by decide) (fun g => ?_) (zl_cons (fun g => ?_) (zl_cons (fun g => ?_) (zl_cons (fun g => ?_) (zl_cons (fun g => ?_) (zl_nil)))))
  · replace h := h.1 (by omega)
    refine zf_ld (pc' := 119) (v := .inr (.inr (1, w0))) dX5_come_118 rfl (fun _ _ _ => rfl) rfl rfl rfl ?_
    refine zf_ld (pc' := 120) (v := .inl v1) dX5_come_119 rfl (fun _ _ _ => rfl) rfl rfl rfl ?_
    refine zf_iv (k := 58) (pc' := 123) (r := []) dX5_come_120 rfl rfl rfl rfl hp0.1 hp0.2.1 rfl rfl (zr_58 (by omega) hp0 h) (zf_kO (fun m2 h => ?_))
    exact zf_rv dX5_come_123 rfl h
  · replace h := h.2.1 (by omega)
    refine zf_ld (pc' := 33) (v := .inr (.inr (1, w0))) dX5_come_32 rfl (fun _ _ _ => rfl) rfl rfl rfl ?_
    refine zf_iv (k := 57) (pc' := 36) (r := []) dX5_come_33 rfl rfl rfl rfl hp0.1 hp0.2.1 rfl rfl (zr_57 (by omega) hp0 h) (zf_kO (fun m4 h => ?_))
    refine zf_goto (tgt := 123) dX5_come_36 rfl ?_
    exact zf_rv dX5_come_123 rfl h
  · replace h := h.2.2.1 (by omega)
    refine zf_ld (pc' := 40) (v := .inr (.inr (1, w0))) dX5_come_39 rfl (fun _ _ _ => rfl) rfl rfl rfl ?_
    refine zf_in (pc' := 41) (S' := [.inr (.inr (1, w0)), .inr (.inr (1, w0))]) dX5_come_40 rfl (fun _ _ _ => rfl) ?_
    refine zf_gfi (pc' := 44) dX5_come_41 rfl rfl hp0.1 hp0.2.1 rfl ?_
    refine zf_ic (v := 1) (pc' := 45) dX5_come_44 rfl rfl ?_
    refine zf_in (pc' := 46) (S' := [.inl ((m.1 w0 7) - 1), .inr (.inr (1, w0))]) dX5_come_45 rfl (fun _ _ _ => rfl) ?_
    refine zf_pf (pc' := 49) dX5_come_46 rfl rfl hp0.1 hp0.2.1 rfl rfl (fun m5 e6 => ?_)
    replace h := h m5 e6
    refine zf_ld (pc' := 50) (v := .inr (.inr (1, w0))) dX5_come_49 rfl (fun _ _ _ => rfl) rfl rfl rfl ?_
    refine zf_ld (pc' := 51) (v := .inr (.inr (1, w0))) dX5_come_50 rfl (fun _ _ _ => rfl) rfl rfl rfl ?_
    refine zf_gfi (pc' := 54) dX5_come_51 rfl rfl hp0.1 hp0.2.1 rfl ?_
    refine zf_ic (v := 2) (pc' := 55) dX5_come_54 rfl rfl ?_
    refine zf_in (pc' := 56) (S' := [.inl ((m5.1 w0 4) + 2), .inr (.inr (1, w0))]) dX5_come_55 rfl (fun _ _ _ => rfl) ?_
    refine zf_ld (pc' := 57) (v := .inr (.inr (1, w0))) dX5_come_56 rfl (fun _ _ _ => rfl) rfl rfl rfl ?_
    refine zf_gfi (pc' := 60) dX5_come_57 rfl rfl hp0.1 hp0.2.1 rfl ?_
    refine zf_ic (v := 2) (pc' := 61) dX5_come_60 rfl rfl ?_
    refine zf_in (pc' := 62) (S' := [.inl ((m5.1 w0 3) + 2), .inl ((m5.1 w0 4) + 2), .inr (.inr (1, w0))]) dX5_come_61 rfl (fun _ _ _ => rfl) ?_
    refine zf_min (pc' := 65) dX5_come_62 rfl rfl rfl ?_
    refine zf_pf (pc' := 68) dX5_come_65 rfl rfl hp0.1 hp0.2.1 rfl rfl (fun m7 e8 => ?_)
    replace h := h m7 e8
    refine zf_ld (pc' := 69) (v := .inr (.inr (1, w0))) dX5_come_68 rfl (fun _ _ _ => rfl) rfl rfl rfl ?_
    refine zf_iv (k := 57) (pc' := 72) (r := []) dX5_come_69 rfl rfl rfl rfl hp0.1 hp0.2.1 rfl rfl (zr_57 (by omega) hp0 h) (zf_kO (fun m10 h => ?_))
    refine zf_goto (tgt := 123) dX5_come_72 rfl ?_
    exact zf_rv dX5_come_123 rfl h
  · replace h := h.2.2.2.1 (by omega)
    refine zf_ld (pc' := 76) (v := .inr (.inr (1, w0))) dX5_come_75 rfl (fun _ _ _ => rfl) rfl rfl rfl ?_
    refine zf_in (pc' := 77) (S' := [.inr (.inr (1, w0)), .inr (.inr (1, w0))]) dX5_come_76 rfl (fun _ _ _ => rfl) ?_
    refine zf_gfi (pc' := 80) dX5_come_77 rfl rfl hp0.1 hp0.2.1 rfl ?_
    refine zf_ic (v := 1) (pc' := 81) dX5_come_80 rfl rfl ?_
    refine zf_in (pc' := 82) (S' := [.inl ((m.1 w0 8) - 1), .inr (.inr (1, w0))]) dX5_come_81 rfl (fun _ _ _ => rfl) ?_
    refine zf_pf (pc' := 85) dX5_come_82 rfl rfl hp0.1 hp0.2.1 rfl rfl (fun m11 e12 => ?_)
    replace h := h m11 e12
    refine zf_ld (pc' := 86) (v := .inr (.inr (1, w0))) dX5_come_85 rfl (fun _ _ _ => rfl) rfl rfl rfl ?_
    refine zf_ld (pc' := 87) (v := .inr (.inr (1, w0))) dX5_come_86 rfl (fun _ _ _ => rfl) rfl rfl rfl ?_
    refine zf_gfi (pc' := 90) dX5_come_87 rfl rfl hp0.1 hp0.2.1 rfl ?_
    refine zf_ic (v := 1) (pc' := 91) dX5_come_90 rfl rfl ?_
    refine zf_in (pc' := 92) (S' := [.inl ((m11.1 w0 4) + 1), .inr (.inr (1, w0))]) dX5_come_91 rfl (fun _ _ _ => rfl) ?_
    refine zf_ld (pc' := 93) (v := .inr (.inr (1, w0))) dX5_come_92 rfl (fun _ _ _ => rfl) rfl rfl rfl ?_
    refine zf_gfi (pc' := 96) dX5_come_93 rfl rfl hp0.1 hp0.2.1 rfl ?_
    refine zf_ic (v := 2) (pc' := 97) dX5_come_96 rfl rfl ?_
    refine zf_in (pc' := 98) (S' := [.inl ((m11.1 w0 3) + 2), .inl ((m11.1 w0 4) + 1), .inr (.inr (1, w0))]) dX5_come_97 rfl (fun _ _ _ => rfl) ?_
    refine zf_min (pc' := 101) dX5_come_98 rfl rfl rfl ?_
    refine zf_pf (pc' := 104) dX5_come_101 rfl rfl hp0.1 hp0.2.1 rfl rfl (fun m13 e14 => ?_)
    replace h := h m13 e14
    refine zf_ld (pc' := 105) (v := .inr (.inr (1, w0))) dX5_come_104 rfl (fun _ _ _ => rfl) rfl rfl rfl ?_
    refine zf_iv (k := 57) (pc' := 108) (r := []) dX5_come_105 rfl rfl rfl rfl hp0.1 hp0.2.1 rfl rfl (zr_57 (by omega) hp0 h) (zf_kO (fun m16 h => ?_))
    refine zf_goto (tgt := 123) dX5_come_108 rfl ?_
    exact zf_rv dX5_come_123 rfl h
  · replace h := h.2.2.2.2 (by omega)
    refine zf_ld (pc' := 112) (v := .inr (.inr (1, w0))) dX5_come_111 rfl (fun _ _ _ => rfl) rfl rfl rfl ?_
    refine zf_iv (k := 60) (pc' := 115) (r := []) dX5_come_112 rfl rfl rfl rfl hp0.1 hp0.2.1 rfl rfl (zr_60 (by omega) hp0 h) (zf_kO (fun m18 h => ?_))
    refine zf_goto (tgt := 123) dX5_come_115 rfl ?_
    exact zf_rv dX5_come_123 rfl h
def zt_9 : zx_MT := (1, yX1_step, cX1_step, 3, (some FieldType.boolean), 1, 0)
theorem zm_9 : zx_m 9 = zt_9 := rfl
theorem dX1_step_r0 : zdcP cX1_step 0 [(.aload_n 0, 1), (.getfield 15, 3), (.bipush 60, 2), (.if_icmp .ge 21, 3), (.aload_n 0, 1), (.getfield 26, 3), (.invokevirtual 42, 3), (.ifCond .ne 11, 3), (.aload_n 0, 1), (.iload_n 1, 1), (.invokevirtual 46, 3), (.goto 4, 3), (.iconst (-1), 1), (.istore_n 2, 1), (.iload_n 2, 1), (.iconst (-1), 1)] := zdcA_ok (by decide +kernel)
theorem dX1_step_0 : decode cX1_step 0 = .ok (.aload_n 0, 1) := dX1_step_r0.1
theorem dX1_step_1 : decode cX1_step 1 = .ok (.getfield 15, 3) := dX1_step_r0.2.1
theorem dX1_step_4 : decode cX1_step 4 = .ok (.bipush 60, 2) := dX1_step_r0.2.2.1
theorem dX1_step_6 : decode cX1_step 6 = .ok (.if_icmp .ge 21, 3) := dX1_step_r0.2.2.2.1
theorem dX1_step_9 : decode cX1_step 9 = .ok (.aload_n 0, 1) := dX1_step_r0.2.2.2.2.1
theorem dX1_step_10 : decode cX1_step 10 = .ok (.getfield 26, 3) := dX1_step_r0.2.2.2.2.2.1
theorem dX1_step_13 : decode cX1_step 13 = .ok (.invokevirtual 42, 3) := dX1_step_r0.2.2.2.2.2.2.1
theorem dX1_step_16 : decode cX1_step 16 = .ok (.ifCond .ne 11, 3) := dX1_step_r0.2.2.2.2.2.2.2.1
theorem dX1_step_19 : decode cX1_step 19 = .ok (.aload_n 0, 1) := dX1_step_r0.2.2.2.2.2.2.2.2.1
theorem dX1_step_20 : decode cX1_step 20 = .ok (.iload_n 1, 1) := dX1_step_r0.2.2.2.2.2.2.2.2.2.1
theorem dX1_step_21 : decode cX1_step 21 = .ok (.invokevirtual 46, 3) := dX1_step_r0.2.2.2.2.2.2.2.2.2.2.1
theorem dX1_step_24 : decode cX1_step 24 = .ok (.goto 4, 3) := dX1_step_r0.2.2.2.2.2.2.2.2.2.2.2.1
theorem dX1_step_27 : decode cX1_step 27 = .ok (.iconst (-1), 1) := dX1_step_r0.2.2.2.2.2.2.2.2.2.2.2.2.1
theorem dX1_step_28 : decode cX1_step 28 = .ok (.istore_n 2, 1) := dX1_step_r0.2.2.2.2.2.2.2.2.2.2.2.2.2.1
theorem dX1_step_29 : decode cX1_step 29 = .ok (.iload_n 2, 1) := dX1_step_r0.2.2.2.2.2.2.2.2.2.2.2.2.2.2.1
theorem dX1_step_30 : decode cX1_step 30 = .ok (.iconst (-1), 1) := dX1_step_r0.2.2.2.2.2.2.2.2.2.2.2.2.2.2.2.1
theorem dX1_step_r31 : zdcP cX1_step 31 [(.if_icmp .ne 5, 3), (.iconst 0, 1), (.ireturn, 1), (.aload_n 0, 1), (.getfield 26, 3), (.iload_n 2, 1), (.invokevirtual 50, 3), (.aload_n 0, 1), (.dup, 1), (.getfield 15, 3), (.iconst 1, 1), (.iadd, 1), (.putfield 15, 3), (.aload_n 0, 1), (.aload_n 0, 1), (.getfield 18, 3)] := zdcA_ok (by decide +kernel)
theorem dX1_step_31 : decode cX1_step 31 = .ok (.if_icmp .ne 5, 3) := dX1_step_r31.1
theorem dX1_step_34 : decode cX1_step 34 = .ok (.iconst 0, 1) := dX1_step_r31.2.1
theorem dX1_step_35 : decode cX1_step 35 = .ok (.ireturn, 1) := dX1_step_r31.2.2.1
theorem dX1_step_36 : decode cX1_step 36 = .ok (.aload_n 0, 1) := dX1_step_r31.2.2.2.1
theorem dX1_step_37 : decode cX1_step 37 = .ok (.getfield 26, 3) := dX1_step_r31.2.2.2.2.1
theorem dX1_step_40 : decode cX1_step 40 = .ok (.iload_n 2, 1) := dX1_step_r31.2.2.2.2.2.1
theorem dX1_step_41 : decode cX1_step 41 = .ok (.invokevirtual 50, 3) := dX1_step_r31.2.2.2.2.2.2.1
theorem dX1_step_44 : decode cX1_step 44 = .ok (.aload_n 0, 1) := dX1_step_r31.2.2.2.2.2.2.2.1
theorem dX1_step_45 : decode cX1_step 45 = .ok (.dup, 1) := dX1_step_r31.2.2.2.2.2.2.2.2.1
theorem dX1_step_46 : decode cX1_step 46 = .ok (.getfield 15, 3) := dX1_step_r31.2.2.2.2.2.2.2.2.2.1
theorem dX1_step_49 : decode cX1_step 49 = .ok (.iconst 1, 1) := dX1_step_r31.2.2.2.2.2.2.2.2.2.2.1
theorem dX1_step_50 : decode cX1_step 50 = .ok (.iadd, 1) := dX1_step_r31.2.2.2.2.2.2.2.2.2.2.2.1
theorem dX1_step_51 : decode cX1_step 51 = .ok (.putfield 15, 3) := dX1_step_r31.2.2.2.2.2.2.2.2.2.2.2.2.1
theorem dX1_step_54 : decode cX1_step 54 = .ok (.aload_n 0, 1) := dX1_step_r31.2.2.2.2.2.2.2.2.2.2.2.2.2.1
theorem dX1_step_55 : decode cX1_step 55 = .ok (.aload_n 0, 1) := dX1_step_r31.2.2.2.2.2.2.2.2.2.2.2.2.2.2.1
theorem dX1_step_56 : decode cX1_step 56 = .ok (.getfield 18, 3) := dX1_step_r31.2.2.2.2.2.2.2.2.2.2.2.2.2.2.2.1
theorem dX1_step_r59 : zdcP cX1_step 59 [(.aload_n 0, 1), (.getfield 26, 3), (.invokevirtual 34, 3), (.invokestatic 54, 3), (.putfield 18, 3), (.iload_n 2, 1), (.bipush 9, 2), (.if_icmp .eq 61, 3), (.aload_n 0, 1), (.getfield 26, 3), (.getfield 60, 3), (.getfield 64, 3), (.ifCond .le 48, 3), (.aload_n 0, 1), (.getfield 26, 3), (.getfield 60, 3)] := zdcA_ok (by decide +kernel)
theorem dX1_step_59 : decode cX1_step 59 = .ok (.aload_n 0, 1) := dX1_step_r59.1
theorem dX1_step_60 : decode cX1_step 60 = .ok (.getfield 26, 3) := dX1_step_r59.2.1
theorem dX1_step_63 : decode cX1_step 63 = .ok (.invokevirtual 34, 3) := dX1_step_r59.2.2.1
theorem dX1_step_66 : decode cX1_step 66 = .ok (.invokestatic 54, 3) := dX1_step_r59.2.2.2.1
theorem dX1_step_69 : decode cX1_step 69 = .ok (.putfield 18, 3) := dX1_step_r59.2.2.2.2.1
theorem dX1_step_72 : decode cX1_step 72 = .ok (.iload_n 2, 1) := dX1_step_r59.2.2.2.2.2.1
theorem dX1_step_73 : decode cX1_step 73 = .ok (.bipush 9, 2) := dX1_step_r59.2.2.2.2.2.2.1
theorem dX1_step_75 : decode cX1_step 75 = .ok (.if_icmp .eq 61, 3) := dX1_step_r59.2.2.2.2.2.2.2.1
theorem dX1_step_78 : decode cX1_step 78 = .ok (.aload_n 0, 1) := dX1_step_r59.2.2.2.2.2.2.2.2.1
theorem dX1_step_79 : decode cX1_step 79 = .ok (.getfield 26, 3) := dX1_step_r59.2.2.2.2.2.2.2.2.2.1
theorem dX1_step_82 : decode cX1_step 82 = .ok (.getfield 60, 3) := dX1_step_r59.2.2.2.2.2.2.2.2.2.2.1
theorem dX1_step_85 : decode cX1_step 85 = .ok (.getfield 64, 3) := dX1_step_r59.2.2.2.2.2.2.2.2.2.2.2.1
theorem dX1_step_88 : decode cX1_step 88 = .ok (.ifCond .le 48, 3) := dX1_step_r59.2.2.2.2.2.2.2.2.2.2.2.2.1
theorem dX1_step_91 : decode cX1_step 91 = .ok (.aload_n 0, 1) := dX1_step_r59.2.2.2.2.2.2.2.2.2.2.2.2.2.1
theorem dX1_step_92 : decode cX1_step 92 = .ok (.getfield 26, 3) := dX1_step_r59.2.2.2.2.2.2.2.2.2.2.2.2.2.2.1
theorem dX1_step_95 : decode cX1_step 95 = .ok (.getfield 60, 3) := dX1_step_r59.2.2.2.2.2.2.2.2.2.2.2.2.2.2.2.1
theorem dX1_step_r98 : zdcP cX1_step 98 [(.getfield 69, 3), (.aload_n 0, 1), (.getfield 26, 3), (.getfield 73, 3), (.iconst 1, 1), (.isub, 1), (.iaload, 1), (.iconst 1, 1), (.if_icmp .ne 24, 3), (.aload_n 0, 1), (.aload_n 0, 1), (.getfield 9, 3), (.iconst 1, 1), (.iadd, 1), (.aload_n 0, 1), (.getfield 26, 3)] := zdcA_ok (by decide +kernel)
theorem dX1_step_98 : decode cX1_step 98 = .ok (.getfield 69, 3) := dX1_step_r98.1
theorem dX1_step_101 : decode cX1_step 101 = .ok (.aload_n 0, 1) := dX1_step_r98.2.1
theorem dX1_step_102 : decode cX1_step 102 = .ok (.getfield 26, 3) := dX1_step_r98.2.2.1
theorem dX1_step_105 : decode cX1_step 105 = .ok (.getfield 73, 3) := dX1_step_r98.2.2.2.1
theorem dX1_step_108 : decode cX1_step 108 = .ok (.iconst 1, 1) := dX1_step_r98.2.2.2.2.1
theorem dX1_step_109 : decode cX1_step 109 = .ok (.isub, 1) := dX1_step_r98.2.2.2.2.2.1
theorem dX1_step_110 : decode cX1_step 110 = .ok (.iaload, 1) := dX1_step_r98.2.2.2.2.2.2.1
theorem dX1_step_111 : decode cX1_step 111 = .ok (.iconst 1, 1) := dX1_step_r98.2.2.2.2.2.2.2.1
theorem dX1_step_112 : decode cX1_step 112 = .ok (.if_icmp .ne 24, 3) := dX1_step_r98.2.2.2.2.2.2.2.2.1
theorem dX1_step_115 : decode cX1_step 115 = .ok (.aload_n 0, 1) := dX1_step_r98.2.2.2.2.2.2.2.2.2.1
theorem dX1_step_116 : decode cX1_step 116 = .ok (.aload_n 0, 1) := dX1_step_r98.2.2.2.2.2.2.2.2.2.2.1
theorem dX1_step_117 : decode cX1_step 117 = .ok (.getfield 9, 3) := dX1_step_r98.2.2.2.2.2.2.2.2.2.2.2.1
theorem dX1_step_120 : decode cX1_step 120 = .ok (.iconst 1, 1) := dX1_step_r98.2.2.2.2.2.2.2.2.2.2.2.2.1
theorem dX1_step_121 : decode cX1_step 121 = .ok (.iadd, 1) := dX1_step_r98.2.2.2.2.2.2.2.2.2.2.2.2.2.1
theorem dX1_step_122 : decode cX1_step 122 = .ok (.aload_n 0, 1) := dX1_step_r98.2.2.2.2.2.2.2.2.2.2.2.2.2.2.1
theorem dX1_step_123 : decode cX1_step 123 = .ok (.getfield 26, 3) := dX1_step_r98.2.2.2.2.2.2.2.2.2.2.2.2.2.2.2.1
theorem dX1_step_r126 : zdcP cX1_step 126 [(.getfield 60, 3), (.getfield 64, 3), (.irem, 1), (.putfield 9, 3), (.iconst 1, 1), (.ireturn, 1)] := zdcA_ok (by decide +kernel)
theorem dX1_step_126 : decode cX1_step 126 = .ok (.getfield 60, 3) := dX1_step_r126.1
theorem dX1_step_129 : decode cX1_step 129 = .ok (.getfield 64, 3) := dX1_step_r126.2.1
theorem dX1_step_132 : decode cX1_step 132 = .ok (.irem, 1) := dX1_step_r126.2.2.1
theorem dX1_step_133 : decode cX1_step 133 = .ok (.putfield 9, 3) := dX1_step_r126.2.2.2.1
theorem dX1_step_136 : decode cX1_step 136 = .ok (.iconst 1, 1) := dX1_step_r126.2.2.2.2.1
theorem dX1_step_137 : decode cX1_step 137 = .ok (.ireturn, 1) := dX1_step_r126.2.2.2.2.2.1
def wq_9_28 (v1 : Int32) (u0 : Int32) (m : zf_Me) (Q : Bool → zf_Me → Prop) : Prop := ((¬ u0.toInt = (-1) → wp_56 19 3 20 u0 m (fun m2 => (∀ m3, m3 = zf_u m2 18 2 ((m2.1 18 2) + 1) → wp_49 19 3 20 m3 (fun x5 m6 => (∀ m7, m7 = zf_u m6 18 3 (if (m3.1 18 3) < x5 then x5 else (m3.1 18 3)) → ((u0.toInt = 9 → Q true m7) ∧ (¬ u0.toInt = 9 → ((((m7.1 3 5)).toInt ≤ 0 → Q true m7) ∧ (((m7.1 3 5)).toInt > 0 → ((0 ≤ (Int32.toInt ((m7.1 19 10) - 1)) ∧ (Int32.toInt ((m7.1 19 10) - 1)) < (24 : Int)) ∧ ((¬ ((m7.1 5 (Int32.toInt ((m7.1 19 10) - 1)).toNat)).toInt = 1 → Q true m7) ∧ (((m7.1 5 (Int32.toInt ((m7.1 19 10) - 1)).toNat)).toInt = 1 → (¬ (Int32.toInt (m7.1 3 5)) = 0 ∧ (∀ m9, m9 = zf_u m7 18 1 (((m7.1 18 1) + 1) - ((m7.1 18 1) + 1) / (m7.1 3 5) * (m7.1 3 5)) → Q true m9)))))))))))))) ∧ (u0.toInt = (-1) → Q false m))
theorem zq_9_28 {d : Nat} (hd : 4 ≤ d) {v1 : Int32} {Q : Bool → zf_Me → Prop} {u0 : Int32} {m : zf_Me} (h : wq_9_28 v1 u0 m Q) : zf_W none 0 0 d zt_9 28 [some (.inr (.inr (1, 18))), none, none] [.inl u0] m (zf_B Q) := by
  obtain ⟨e, rfl⟩ : ∃ z, d = z + 1 := ⟨d - 1, by omega⟩
  unfold wq_9_28 at h
  refine zf_st (pc' := 29) (L2 := [some (.inr (.inr (1, 18))), none, some (.inl u0)]) dX1_step_28 rfl (fun _ _ _ => rfl) rfl rfl rfl rfl rfl rfl ?_
  refine zf_ld (pc' := 30) (v := .inl u0) dX1_step_29 rfl (fun _ _ _ => rfl) rfl rfl rfl ?_
  refine zf_ic (v := (-1)) (pc' := 31) dX1_step_30 rfl rfl ?_
  refine zf_icmp_ne (tgt := 36) (pc' := 34) dX1_step_31 rfl rfl (fun g => ?_) (fun g => ?_)
  · replace h := h.1 g
    refine zf_ld (pc' := 37) (v := .inr (.inr (1, 18))) dX1_step_36 rfl (fun _ _ _ => rfl) rfl rfl rfl ?_
    refine zf_gfr (pc' := 40) (b := 19) dX1_step_37 rfl rfl (by decide) rfl rfl ?_
    refine zf_ld (pc' := 41) (v := .inl u0) dX1_step_40 rfl (fun _ _ _ => rfl) rfl rfl rfl ?_
    refine zf_iv (k := 56) (pc' := 44) (r := []) dX1_step_41 rfl rfl rfl rfl zf_walk19.1 zf_walk19.2.1 rfl rfl (zr_56 (by omega) zf_walk19 h) (zf_kO (fun m2 h => ?_))
    refine zf_ld (pc' := 45) (v := .inr (.inr (1, 18))) dX1_step_44 rfl (fun _ _ _ => rfl) rfl rfl rfl ?_
    refine zf_in (pc' := 46) (S' := [.inr (.inr (1, 18)), .inr (.inr (1, 18))]) dX1_step_45 rfl (fun _ _ _ => rfl) ?_
    refine zf_gfi (pc' := 49) dX1_step_46 rfl rfl (by decide) rfl rfl ?_
    refine zf_ic (v := 1) (pc' := 50) dX1_step_49 rfl rfl ?_
    refine zf_in (pc' := 51) (S' := [.inl ((m2.1 18 2) + 1), .inr (.inr (1, 18))]) dX1_step_50 rfl (fun _ _ _ => rfl) ?_
    refine zf_pf (pc' := 54) dX1_step_51 rfl rfl (by decide) rfl rfl rfl (fun m3 e4 => ?_)
    replace h := h m3 e4
    refine zf_ld (pc' := 55) (v := .inr (.inr (1, 18))) dX1_step_54 rfl (fun _ _ _ => rfl) rfl rfl rfl ?_
    refine zf_ld (pc' := 56) (v := .inr (.inr (1, 18))) dX1_step_55 rfl (fun _ _ _ => rfl) rfl rfl rfl ?_
    refine zf_gfi (pc' := 59) dX1_step_56 rfl rfl (by decide) rfl rfl ?_
    refine zf_ld (pc' := 60) (v := .inr (.inr (1, 18))) dX1_step_59 rfl (fun _ _ _ => rfl) rfl rfl rfl ?_
    refine zf_gfr (pc' := 63) (b := 19) dX1_step_60 rfl rfl (by decide) rfl rfl ?_
    refine zf_iv (k := 49) (pc' := 66) (r := [.inl (m3.1 18 3), .inr (.inr (1, 18))]) dX1_step_63 rfl rfl rfl rfl zf_walk19.1 zf_walk19.2.1 rfl rfl (zr_49 (by omega) zf_walk19 h) (zf_kI (fun x5 m6 h => ?_))
    refine zf_max (pc' := 69) dX1_step_66 rfl rfl rfl ?_
    refine zf_pf (pc' := 72) dX1_step_69 rfl rfl (by decide) rfl rfl rfl (fun m7 e8 => ?_)
    replace h := h m7 e8
    refine zf_ld (pc' := 73) (v := .inl u0) dX1_step_72 rfl (fun _ _ _ => rfl) rfl rfl rfl ?_
    refine zf_bi (v := 9) (pc' := 75) dX1_step_73 rfl rfl ?_
    refine zf_icmp_eq (tgt := 136) (pc' := 78) dX1_step_75 rfl rfl (fun g => ?_) (fun g => ?_)
    · replace h := h.1 g
      refine zf_ic (v := 1) (pc' := 137) dX1_step_136 rfl rfl ?_
      exact zf_rb (b := true) dX1_step_137 rfl h
    · replace h := h.2 g
      refine zf_ld (pc' := 79) (v := .inr (.inr (1, 18))) dX1_step_78 rfl (fun _ _ _ => rfl) rfl rfl rfl ?_
      refine zf_gfr (pc' := 82) (b := 19) dX1_step_79 rfl rfl (by decide) rfl rfl ?_
      refine zf_gfr (pc' := 85) (b := 3) dX1_step_82 rfl rfl zf_walk19.1 zf_walk19.2.1 rfl ?_
      refine zf_gfi (pc' := 88) dX1_step_85 rfl rfl zf_walk19.2.2.1.1 zf_walk19.2.2.1.2.1 rfl ?_
      refine zf_if_le (tgt := 136) (pc' := 91) dX1_step_88 rfl rfl (fun g => ?_) (fun g => ?_)
      · replace h := h.1 g
        refine zf_ic (v := 1) (pc' := 137) dX1_step_136 rfl rfl ?_
        exact zf_rb (b := true) dX1_step_137 rfl h
      · replace h := h.2 g
        refine zf_ld (pc' := 92) (v := .inr (.inr (1, 18))) dX1_step_91 rfl (fun _ _ _ => rfl) rfl rfl rfl ?_
        refine zf_gfr (pc' := 95) (b := 19) dX1_step_92 rfl rfl (by decide) rfl rfl ?_
        refine zf_gfr (pc' := 98) (b := 3) dX1_step_95 rfl rfl zf_walk19.1 zf_walk19.2.1 rfl ?_
        refine zf_gfr (pc' := 101) (b := 5) dX1_step_98 rfl rfl zf_walk19.2.2.1.1 zf_walk19.2.2.1.2.1 rfl ?_
        refine zf_ld (pc' := 102) (v := .inr (.inr (1, 18))) dX1_step_101 rfl (fun _ _ _ => rfl) rfl rfl rfl ?_
        refine zf_gfr (pc' := 105) (b := 19) dX1_step_102 rfl rfl (by decide) rfl rfl ?_
        refine zf_gfi (pc' := 108) dX1_step_105 rfl rfl zf_walk19.1 zf_walk19.2.1 rfl ?_
        refine zf_ic (v := 1) (pc' := 109) dX1_step_108 rfl rfl ?_
        refine zf_in (pc' := 110) (S' := [.inl ((m7.1 19 10) - 1), .inr (.inr (1, 5))]) dX1_step_109 rfl (fun _ _ _ => rfl) ?_
        refine zf_ial (pc' := 111) dX1_step_110 rfl zf_walk19.2.2.1.2.2.2.1.1 zf_walk19.2.2.1.2.2.2.1.2 h.1 rfl ?_
        replace h := h.2
        refine zf_ic (v := 1) (pc' := 112) dX1_step_111 rfl rfl ?_
        refine zf_icmp_ne (tgt := 136) (pc' := 115) dX1_step_112 rfl rfl (fun g => ?_) (fun g => ?_)
        · replace h := h.1 g
          refine zf_ic (v := 1) (pc' := 137) dX1_step_136 rfl rfl ?_
          exact zf_rb (b := true) dX1_step_137 rfl h
        · replace h := h.2 g
          refine zf_ld (pc' := 116) (v := .inr (.inr (1, 18))) dX1_step_115 rfl (fun _ _ _ => rfl) rfl rfl rfl ?_
          refine zf_ld (pc' := 117) (v := .inr (.inr (1, 18))) dX1_step_116 rfl (fun _ _ _ => rfl) rfl rfl rfl ?_
          refine zf_gfi (pc' := 120) dX1_step_117 rfl rfl (by decide) rfl rfl ?_
          refine zf_ic (v := 1) (pc' := 121) dX1_step_120 rfl rfl ?_
          refine zf_in (pc' := 122) (S' := [.inl ((m7.1 18 1) + 1), .inr (.inr (1, 18))]) dX1_step_121 rfl (fun _ _ _ => rfl) ?_
          refine zf_ld (pc' := 123) (v := .inr (.inr (1, 18))) dX1_step_122 rfl (fun _ _ _ => rfl) rfl rfl rfl ?_
          refine zf_gfr (pc' := 126) (b := 19) dX1_step_123 rfl rfl (by decide) rfl rfl ?_
          refine zf_gfr (pc' := 129) (b := 3) dX1_step_126 rfl rfl zf_walk19.1 zf_walk19.2.1 rfl ?_
          refine zf_gfi (pc' := 132) dX1_step_129 rfl rfl zf_walk19.2.2.1.1 zf_walk19.2.2.1.2.1 rfl ?_
          refine zf_rem (pc' := 133) dX1_step_132 rfl (fun z => h.1 (congrArg Int32.toInt z)) ?_
          replace h := h.2
          refine zf_pf (pc' := 136) dX1_step_133 rfl rfl (by decide) rfl rfl rfl (fun m9 e10 => ?_)
          replace h := h m9 e10
          refine zf_ic (v := 1) (pc' := 137) dX1_step_136 rfl rfl ?_
          exact zf_rb (b := true) dX1_step_137 rfl h
  · replace h := h.2 g
    refine zf_ic (v := 0) (pc' := 35) dX1_step_34 rfl rfl ?_
    exact zf_rb (b := false) dX1_step_35 rfl h
def wq_9_27 (v1 : Int32) (m : zf_Me) (Q : Bool → zf_Me → Prop) : Prop := wq_9_28 v1 (-1) m Q
theorem zq_9_27 {d : Nat} (hd : 4 ≤ d) {v1 : Int32} {Q : Bool → zf_Me → Prop} {m : zf_Me} (h : wq_9_27 v1 m Q) : zf_W none 0 0 d zt_9 27 [some (.inr (.inr (1, 18))), none, none] [] m (zf_B Q) := by
  unfold wq_9_27 at h
  refine zf_ic (v := (-1)) (pc' := 28) dX1_step_27 rfl rfl ?_
  exact zf_lo (zq_9_28 (by omega) h) ⟨rfl, trivial⟩
def wp_9 (v1 : Int32) (m : zf_Me) (Q : Bool → zf_Me → Prop) : Prop := ((((m.1 18 2)).toInt ≥ 60 → wq_9_27 v1 m Q) ∧ (((m.1 18 2)).toInt < 60 → wp_47 19 3 20 m (fun b11 m12 => ((b11 = true → wq_9_27 v1 m12 Q) ∧ (b11 = false → wp_10 v1 m12 (fun x13 m14 => wq_9_28 v1 x13 m14 Q))))))
theorem zr_9 {d : Nat} (hd : 4 ≤ d) {v1 : Int32} {Q : Bool → zf_Me → Prop} {m : zf_Me} (h : wp_9 v1 m Q) : zf_M d 9 [.inr (.inr (1, 18)), .inl v1] m (zf_B Q) := by
  obtain ⟨e, rfl⟩ : ∃ z, d = z + 1 := ⟨d - 1, by omega⟩
  unfold wp_9 at h
  refine zf_M_of (Nat.le_of_ble_eq_true rfl) zm_9 (L := [some (.inr (.inr (1, 18))), some (.inl v1), none]) rfl ?_
  refine zf_ld (pc' := 1) (v := .inr (.inr (1, 18))) dX1_step_0 rfl (fun _ _ _ => rfl) rfl rfl rfl ?_
  refine zf_gfi (pc' := 4) dX1_step_1 rfl rfl (by decide) rfl rfl ?_
  refine zf_bi (v := 60) (pc' := 6) dX1_step_4 rfl rfl ?_
  refine zf_icmp_ge (tgt := 27) (pc' := 9) dX1_step_6 rfl rfl (fun g => ?_) (fun g => ?_)
  · replace h := h.1 g
    exact zf_lo (zq_9_27 (by omega) h) ⟨rfl, trivial⟩
  · replace h := h.2 g
    refine zf_ld (pc' := 10) (v := .inr (.inr (1, 18))) dX1_step_9 rfl (fun _ _ _ => rfl) rfl rfl rfl ?_
    refine zf_gfr (pc' := 13) (b := 19) dX1_step_10 rfl rfl (by decide) rfl rfl ?_
    refine zf_iv (k := 47) (pc' := 16) (r := []) dX1_step_13 rfl rfl rfl rfl zf_walk19.1 zf_walk19.2.1 rfl rfl (zr_47 (by omega) zf_walk19 h) (zf_kB (fun b11 m12 h => ?_))
    refine zf_ib_ne (tgt := 27) (pc' := 19) dX1_step_16 rfl rfl (fun g => ?_) (fun g => ?_)
    · replace h := h.1 g
      exact zf_lo (zq_9_27 (by omega) h) ⟨rfl, trivial⟩
    · replace h := h.2 g
      refine zf_ld (pc' := 20) (v := .inr (.inr (1, 18))) dX1_step_19 rfl (fun _ _ _ => rfl) rfl rfl rfl ?_
      refine zf_ld (pc' := 21) (v := .inl v1) dX1_step_20 rfl (fun _ _ _ => rfl) rfl rfl rfl ?_
      refine zf_iv (k := 10) (pc' := 24) (r := []) dX1_step_21 rfl rfl rfl rfl (by decide) rfl rfl rfl (zr_10 (by omega) h) (zf_kI (fun x13 m14 h => ?_))
      refine zf_goto (tgt := 28) dX1_step_24 rfl ?_
      exact zf_lo (zq_9_28 (by omega) h) ⟨rfl, trivial⟩
def zt_8 : zx_MT := (1, yX1_goOn, cX1_goOn, 3, none, 1, 0)
theorem zm_8 : zx_m 8 = zt_8 := rfl
theorem dX1_goOn_r0 : zdcP cX1_goOn 0 [(.iconst 0, 1), (.istore_n 2, 1), (.iload_n 2, 1), (.bipush 60, 2), (.if_icmp .ge 18, 3), (.aload_n 0, 1), (.iload_n 1, 1), (.invokevirtual 38, 3), (.ifCond .ne 4, 3), (.return_, 1), (.iinc 2 1, 3), (.goto (-18), 3), (.return_, 1)] := zdcA_ok (by decide +kernel)
theorem dX1_goOn_0 : decode cX1_goOn 0 = .ok (.iconst 0, 1) := dX1_goOn_r0.1
theorem dX1_goOn_1 : decode cX1_goOn 1 = .ok (.istore_n 2, 1) := dX1_goOn_r0.2.1
theorem dX1_goOn_2 : decode cX1_goOn 2 = .ok (.iload_n 2, 1) := dX1_goOn_r0.2.2.1
theorem dX1_goOn_3 : decode cX1_goOn 3 = .ok (.bipush 60, 2) := dX1_goOn_r0.2.2.2.1
theorem dX1_goOn_5 : decode cX1_goOn 5 = .ok (.if_icmp .ge 18, 3) := dX1_goOn_r0.2.2.2.2.1
theorem dX1_goOn_8 : decode cX1_goOn 8 = .ok (.aload_n 0, 1) := dX1_goOn_r0.2.2.2.2.2.1
theorem dX1_goOn_9 : decode cX1_goOn 9 = .ok (.iload_n 1, 1) := dX1_goOn_r0.2.2.2.2.2.2.1
theorem dX1_goOn_10 : decode cX1_goOn 10 = .ok (.invokevirtual 38, 3) := dX1_goOn_r0.2.2.2.2.2.2.2.1
theorem dX1_goOn_13 : decode cX1_goOn 13 = .ok (.ifCond .ne 4, 3) := dX1_goOn_r0.2.2.2.2.2.2.2.2.1
theorem dX1_goOn_16 : decode cX1_goOn 16 = .ok (.return_, 1) := dX1_goOn_r0.2.2.2.2.2.2.2.2.2.1
theorem dX1_goOn_17 : decode cX1_goOn 17 = .ok (.iinc 2 1, 3) := dX1_goOn_r0.2.2.2.2.2.2.2.2.2.2.1
theorem dX1_goOn_20 : decode cX1_goOn 20 = .ok (.goto (-18), 3) := dX1_goOn_r0.2.2.2.2.2.2.2.2.2.2.2.1
theorem dX1_goOn_23 : decode cX1_goOn 23 = .ok (.return_, 1) := dX1_goOn_r0.2.2.2.2.2.2.2.2.2.2.2.2.1
def wq_8_2 (v1 : Int32) (Q : zf_Me → Prop) : Nat → Int32 → zf_Me → Prop
  | 0, _, _ => False
  | n + 1, v2, m => ((v2.toInt ≥ 60 → Q m) ∧ (v2.toInt < 60 → wp_9 v1 m (fun b1 m2 => ((b1 = true → wq_8_2 v1 Q n (v2 + 1) m2) ∧ (b1 = false → Q m2)))))
theorem zq_8_2 {d : Nat} (hd : 5 ≤ d) {v1 : Int32} {Q : zf_Me → Prop} : ∀ (n : Nat) (v2 : Int32) (m : zf_Me), wq_8_2 v1 Q n v2 m → zf_W none 0 0 d zt_8 2 [some (.inr (.inr (1, 18))), some (.inl v1), some (.inl v2)] [] m (zf_O Q) := by
  obtain ⟨e, rfl⟩ : ∃ z, d = z + 1 := ⟨d - 1, by omega⟩
  intro n
  induction n with
  | zero =>
    intro v2 m h
    exact h.elim
  | succ n ih =>
    intro v2 m h
    unfold wq_8_2 at h
    refine zf_ld (pc' := 3) (v := .inl v2) dX1_goOn_2 rfl (fun _ _ _ => rfl) rfl rfl rfl ?_
    refine zf_bi (v := 60) (pc' := 5) dX1_goOn_3 rfl rfl ?_
    refine zf_icmp_ge (tgt := 23) (pc' := 8) dX1_goOn_5 rfl rfl (fun g => ?_) (fun g => ?_)
    · replace h := h.1 g
      exact zf_rv dX1_goOn_23 rfl h
    · replace h := h.2 g
      refine zf_ld (pc' := 9) (v := .inr (.inr (1, 18))) dX1_goOn_8 rfl (fun _ _ _ => rfl) rfl rfl rfl ?_
      refine zf_ld (pc' := 10) (v := .inl v1) dX1_goOn_9 rfl (fun _ _ _ => rfl) rfl rfl rfl ?_
      refine zf_iv (k := 9) (pc' := 13) (r := []) dX1_goOn_10 rfl rfl rfl rfl (by decide) rfl rfl rfl (zr_9 (by omega) h) (zf_kB (fun b1 m2 h => ?_))
      refine zf_ib_ne (tgt := 17) (pc' := 16) dX1_goOn_13 rfl rfl (fun g => ?_) (fun g => ?_)
      · replace h := h.1 g
        refine zf_ii (y := (v2 + 1)) (L2 := [some (.inr (.inr (1, 18))), some (.inl v1), some (.inl (v2 + 1))]) (pc' := 20) dX1_goOn_17 rfl rfl rfl rfl rfl ?_
        refine zf_goto (tgt := 2) dX1_goOn_20 rfl ?_
        exact zf_lo (ih _ _ h) ⟨rfl, rfl, rfl, trivial⟩
      · replace h := h.2 g
        exact zf_rv dX1_goOn_16 rfl h
def wp_8 (v1 : Int32) (m : zf_Me) (Q : zf_Me → Prop) : Prop := (∃ n2, wq_8_2 v1 Q n2 0 m)
theorem zr_8 {d : Nat} (hd : 5 ≤ d) {v1 : Int32} {Q : zf_Me → Prop} {m : zf_Me} (h : wp_8 v1 m Q) : zf_M d 8 [.inr (.inr (1, 18)), .inl v1] m (zf_O Q) := by
  unfold wp_8 at h
  refine zf_M_of (Nat.le_of_ble_eq_true rfl) zm_8 (L := [some (.inr (.inr (1, 18))), some (.inl v1), none]) rfl ?_
  refine zf_ic (v := 0) (pc' := 1) dX1_goOn_0 rfl rfl ?_
  refine zf_st (pc' := 2) (L2 := [some (.inr (.inr (1, 18))), some (.inl v1), some (.inl 0)]) dX1_goOn_1 rfl (fun _ _ _ => rfl) rfl rfl rfl rfl rfl rfl ?_
  obtain ⟨n2, h⟩ := h
  exact zf_lo (zq_8_2 (by omega) n2 _ _ h) ⟨rfl, rfl, rfl, trivial⟩
def zt_16 : zx_MT := (2, yX2_isHopeless, cX2_isHopeless, 4, (some FieldType.boolean), 2, 0)
theorem zm_16 : zx_m 16 = zt_16 := rfl
theorem dX2_isHopeless_r0 : zdcP cX2_isHopeless 0 [(.aload_n 0, 1), (.getfield 13, 3), (.iload_n 1, 1), (.aaload, 1), (.getfield 83, 3), (.aload_n 0, 1), (.getfield 24, 3), (.iadd, 1), (.iload_n 1, 1), (.isub, 1), (.istore_n 3, 1), (.iload_n 3, 1), (.aload_n 0, 1), (.getfield 31, 3), (.if_icmp .lt 19, 3), (.iload_n 3, 1)] := zdcA_ok (by decide +kernel)
theorem dX2_isHopeless_0 : decode cX2_isHopeless 0 = .ok (.aload_n 0, 1) := dX2_isHopeless_r0.1
theorem dX2_isHopeless_1 : decode cX2_isHopeless 1 = .ok (.getfield 13, 3) := dX2_isHopeless_r0.2.1
theorem dX2_isHopeless_4 : decode cX2_isHopeless 4 = .ok (.iload_n 1, 1) := dX2_isHopeless_r0.2.2.1
theorem dX2_isHopeless_5 : decode cX2_isHopeless 5 = .ok (.aaload, 1) := dX2_isHopeless_r0.2.2.2.1
theorem dX2_isHopeless_6 : decode cX2_isHopeless 6 = .ok (.getfield 83, 3) := dX2_isHopeless_r0.2.2.2.2.1
theorem dX2_isHopeless_9 : decode cX2_isHopeless 9 = .ok (.aload_n 0, 1) := dX2_isHopeless_r0.2.2.2.2.2.1
theorem dX2_isHopeless_10 : decode cX2_isHopeless 10 = .ok (.getfield 24, 3) := dX2_isHopeless_r0.2.2.2.2.2.2.1
theorem dX2_isHopeless_13 : decode cX2_isHopeless 13 = .ok (.iadd, 1) := dX2_isHopeless_r0.2.2.2.2.2.2.2.1
theorem dX2_isHopeless_14 : decode cX2_isHopeless 14 = .ok (.iload_n 1, 1) := dX2_isHopeless_r0.2.2.2.2.2.2.2.2.1
theorem dX2_isHopeless_15 : decode cX2_isHopeless 15 = .ok (.isub, 1) := dX2_isHopeless_r0.2.2.2.2.2.2.2.2.2.1
theorem dX2_isHopeless_16 : decode cX2_isHopeless 16 = .ok (.istore_n 3, 1) := dX2_isHopeless_r0.2.2.2.2.2.2.2.2.2.2.1
theorem dX2_isHopeless_17 : decode cX2_isHopeless 17 = .ok (.iload_n 3, 1) := dX2_isHopeless_r0.2.2.2.2.2.2.2.2.2.2.2.1
theorem dX2_isHopeless_18 : decode cX2_isHopeless 18 = .ok (.aload_n 0, 1) := dX2_isHopeless_r0.2.2.2.2.2.2.2.2.2.2.2.2.1
theorem dX2_isHopeless_19 : decode cX2_isHopeless 19 = .ok (.getfield 31, 3) := dX2_isHopeless_r0.2.2.2.2.2.2.2.2.2.2.2.2.2.1
theorem dX2_isHopeless_22 : decode cX2_isHopeless 22 = .ok (.if_icmp .lt 19, 3) := dX2_isHopeless_r0.2.2.2.2.2.2.2.2.2.2.2.2.2.2.1
theorem dX2_isHopeless_25 : decode cX2_isHopeless 25 = .ok (.iload_n 3, 1) := dX2_isHopeless_r0.2.2.2.2.2.2.2.2.2.2.2.2.2.2.2.1
theorem dX2_isHopeless_r26 : zdcP cX2_isHopeless 26 [(.aload_n 0, 1), (.getfield 31, 3), (.if_icmp .ne 15, 3), (.iload_n 2, 1), (.aload_n 0, 1), (.getfield 34, 3), (.if_icmp .le 7, 3), (.iconst 1, 1), (.goto 4, 3), (.iconst 0, 1), (.ireturn, 1)] := zdcA_ok (by decide +kernel)
theorem dX2_isHopeless_26 : decode cX2_isHopeless 26 = .ok (.aload_n 0, 1) := dX2_isHopeless_r26.1
theorem dX2_isHopeless_27 : decode cX2_isHopeless 27 = .ok (.getfield 31, 3) := dX2_isHopeless_r26.2.1
theorem dX2_isHopeless_30 : decode cX2_isHopeless 30 = .ok (.if_icmp .ne 15, 3) := dX2_isHopeless_r26.2.2.1
theorem dX2_isHopeless_33 : decode cX2_isHopeless 33 = .ok (.iload_n 2, 1) := dX2_isHopeless_r26.2.2.2.1
theorem dX2_isHopeless_34 : decode cX2_isHopeless 34 = .ok (.aload_n 0, 1) := dX2_isHopeless_r26.2.2.2.2.1
theorem dX2_isHopeless_35 : decode cX2_isHopeless 35 = .ok (.getfield 34, 3) := dX2_isHopeless_r26.2.2.2.2.2.1
theorem dX2_isHopeless_38 : decode cX2_isHopeless 38 = .ok (.if_icmp .le 7, 3) := dX2_isHopeless_r26.2.2.2.2.2.2.1
theorem dX2_isHopeless_41 : decode cX2_isHopeless 41 = .ok (.iconst 1, 1) := dX2_isHopeless_r26.2.2.2.2.2.2.2.1
theorem dX2_isHopeless_42 : decode cX2_isHopeless 42 = .ok (.goto 4, 3) := dX2_isHopeless_r26.2.2.2.2.2.2.2.2.1
theorem dX2_isHopeless_45 : decode cX2_isHopeless 45 = .ok (.iconst 0, 1) := dX2_isHopeless_r26.2.2.2.2.2.2.2.2.2.1
theorem dX2_isHopeless_46 : decode cX2_isHopeless 46 = .ok (.ireturn, 1) := dX2_isHopeless_r26.2.2.2.2.2.2.2.2.2.2.1
def wp_16 (v1 : Int32) (v2 : Int32) (m : zf_Me) (Q : Bool → zf_Me → Prop) : Prop := ((0 ≤ (Int32.toInt v1) ∧ (Int32.toInt v1) < 5) ∧ ((((((m.1 (25 + 2 * (Int32.toInt v1).toNat) 10) + (m.1 21 3)) - v1)).toInt < ((m.1 21 5)).toInt → Q true m) ∧ (((((m.1 (25 + 2 * (Int32.toInt v1).toNat) 10) + (m.1 21 3)) - v1)).toInt ≥ ((m.1 21 5)).toInt → ((¬ ((((m.1 (25 + 2 * (Int32.toInt v1).toNat) 10) + (m.1 21 3)) - v1)).toInt = ((m.1 21 5)).toInt → Q false m) ∧ (((((m.1 (25 + 2 * (Int32.toInt v1).toNat) 10) + (m.1 21 3)) - v1)).toInt = ((m.1 21 5)).toInt → ((v2.toInt ≤ ((m.1 21 6)).toInt → Q false m) ∧ (v2.toInt > ((m.1 21 6)).toInt → Q true m)))))))
theorem zr_16 {d : Nat} (hd : 0 ≤ d) {v1 : Int32} {v2 : Int32} {Q : Bool → zf_Me → Prop} {m : zf_Me} (h : wp_16 v1 v2 m Q) : zf_M d 16 [.inr (.inr (1, 21)), .inl v1, .inl v2] m (zf_B Q) := by
  unfold wp_16 at h
  refine zf_M_of (Nat.le_of_ble_eq_true rfl) zm_16 (L := [some (.inr (.inr (1, 21))), some (.inl v1), some (.inl v2), none]) rfl ?_
  refine zf_ld (pc' := 1) (v := .inr (.inr (1, 21))) dX2_isHopeless_0 rfl (fun _ _ _ => rfl) rfl rfl rfl ?_
  refine zf_gfr (pc' := 4) (b := 22) dX2_isHopeless_1 rfl rfl (by decide) rfl rfl ?_
  refine zf_ld (pc' := 5) (v := .inl v1) dX2_isHopeless_4 rfl (fun _ _ _ => rfl) rfl rfl rfl ?_
  refine zf_aal (b := 25) (n := 5) (pc' := 6) dX2_isHopeless_5 rfl (by decide) rfl (by decide) rfl h.1 zf_row22 ?_
  have hb1 := h.1
  replace h := h.2
  have hx2 : zf_walk (25 + 2 * (Int32.toInt v1).toNat) 3 (26 + 2 * (Int32.toInt v1).toNat) := zf_walks (by omega)
  refine zf_gfi (pc' := 9) dX2_isHopeless_6 rfl rfl hx2.1 hx2.2.1 rfl ?_
  refine zf_ld (pc' := 10) (v := .inr (.inr (1, 21))) dX2_isHopeless_9 rfl (fun _ _ _ => rfl) rfl rfl rfl ?_
  refine zf_gfi (pc' := 13) dX2_isHopeless_10 rfl rfl (by decide) rfl rfl ?_
  refine zf_in (pc' := 14) (S' := [.inl ((m.1 (25 + 2 * (Int32.toInt v1).toNat) 10) + (m.1 21 3))]) dX2_isHopeless_13 rfl (fun _ _ _ => rfl) ?_
  refine zf_ld (pc' := 15) (v := .inl v1) dX2_isHopeless_14 rfl (fun _ _ _ => rfl) rfl rfl rfl ?_
  refine zf_in (pc' := 16) (S' := [.inl (((m.1 (25 + 2 * (Int32.toInt v1).toNat) 10) + (m.1 21 3)) - v1)]) dX2_isHopeless_15 rfl (fun _ _ _ => rfl) ?_
  refine zf_st (pc' := 17) (L2 := [some (.inr (.inr (1, 21))), some (.inl v1), some (.inl v2), some (.inl (((m.1 (25 + 2 * (Int32.toInt v1).toNat) 10) + (m.1 21 3)) - v1))]) dX2_isHopeless_16 rfl (fun _ _ _ => rfl) rfl rfl rfl rfl rfl rfl ?_
  refine zf_ld (pc' := 18) (v := .inl (((m.1 (25 + 2 * (Int32.toInt v1).toNat) 10) + (m.1 21 3)) - v1)) dX2_isHopeless_17 rfl (fun _ _ _ => rfl) rfl rfl rfl ?_
  refine zf_ld (pc' := 19) (v := .inr (.inr (1, 21))) dX2_isHopeless_18 rfl (fun _ _ _ => rfl) rfl rfl rfl ?_
  refine zf_gfi (pc' := 22) dX2_isHopeless_19 rfl rfl (by decide) rfl rfl ?_
  refine zf_icmp_lt (tgt := 41) (pc' := 25) dX2_isHopeless_22 rfl rfl (fun g => ?_) (fun g => ?_)
  · replace h := h.1 g
    refine zf_ic (v := 1) (pc' := 42) dX2_isHopeless_41 rfl rfl ?_
    refine zf_goto (tgt := 46) dX2_isHopeless_42 rfl ?_
    exact zf_rb (b := true) dX2_isHopeless_46 rfl h
  · replace h := h.2 g
    refine zf_ld (pc' := 26) (v := .inl (((m.1 (25 + 2 * (Int32.toInt v1).toNat) 10) + (m.1 21 3)) - v1)) dX2_isHopeless_25 rfl (fun _ _ _ => rfl) rfl rfl rfl ?_
    refine zf_ld (pc' := 27) (v := .inr (.inr (1, 21))) dX2_isHopeless_26 rfl (fun _ _ _ => rfl) rfl rfl rfl ?_
    refine zf_gfi (pc' := 30) dX2_isHopeless_27 rfl rfl (by decide) rfl rfl ?_
    refine zf_icmp_ne (tgt := 45) (pc' := 33) dX2_isHopeless_30 rfl rfl (fun g => ?_) (fun g => ?_)
    · replace h := h.1 g
      refine zf_ic (v := 0) (pc' := 46) dX2_isHopeless_45 rfl rfl ?_
      exact zf_rb (b := false) dX2_isHopeless_46 rfl h
    · replace h := h.2 g
      refine zf_ld (pc' := 34) (v := .inl v2) dX2_isHopeless_33 rfl (fun _ _ _ => rfl) rfl rfl rfl ?_
      refine zf_ld (pc' := 35) (v := .inr (.inr (1, 21))) dX2_isHopeless_34 rfl (fun _ _ _ => rfl) rfl rfl rfl ?_
      refine zf_gfi (pc' := 38) dX2_isHopeless_35 rfl rfl (by decide) rfl rfl ?_
      refine zf_icmp_le (tgt := 45) (pc' := 41) dX2_isHopeless_38 rfl rfl (fun g => ?_) (fun g => ?_)
      · replace h := h.1 g
        refine zf_ic (v := 0) (pc' := 46) dX2_isHopeless_45 rfl rfl ?_
        exact zf_rb (b := false) dX2_isHopeless_46 rfl h
      · replace h := h.2 g
        refine zf_ic (v := 1) (pc' := 42) dX2_isHopeless_41 rfl rfl ?_
        refine zf_goto (tgt := 46) dX2_isHopeless_42 rfl ?_
        exact zf_rb (b := true) dX2_isHopeless_46 rfl h
def zt_119 : zx_MT := (7, yX7_isBetter, cX7_isBetter, 4, (some FieldType.boolean), 4, 1)
theorem zm_119 : zx_m 119 = zt_119 := rfl
theorem dX7_isBetter_r0 : zdcP cX7_isBetter 0 [(.iload_n 0, 1), (.iload_n 2, 1), (.if_icmp .gt 13, 3), (.iload_n 0, 1), (.iload_n 2, 1), (.if_icmp .ne 12, 3), (.iload_n 1, 1), (.iload_n 3, 1), (.if_icmp .ge 7, 3), (.iconst 1, 1), (.goto 4, 3), (.iconst 0, 1), (.ireturn, 1)] := zdcA_ok (by decide +kernel)
theorem dX7_isBetter_0 : decode cX7_isBetter 0 = .ok (.iload_n 0, 1) := dX7_isBetter_r0.1
theorem dX7_isBetter_1 : decode cX7_isBetter 1 = .ok (.iload_n 2, 1) := dX7_isBetter_r0.2.1
theorem dX7_isBetter_2 : decode cX7_isBetter 2 = .ok (.if_icmp .gt 13, 3) := dX7_isBetter_r0.2.2.1
theorem dX7_isBetter_5 : decode cX7_isBetter 5 = .ok (.iload_n 0, 1) := dX7_isBetter_r0.2.2.2.1
theorem dX7_isBetter_6 : decode cX7_isBetter 6 = .ok (.iload_n 2, 1) := dX7_isBetter_r0.2.2.2.2.1
theorem dX7_isBetter_7 : decode cX7_isBetter 7 = .ok (.if_icmp .ne 12, 3) := dX7_isBetter_r0.2.2.2.2.2.1
theorem dX7_isBetter_10 : decode cX7_isBetter 10 = .ok (.iload_n 1, 1) := dX7_isBetter_r0.2.2.2.2.2.2.1
theorem dX7_isBetter_11 : decode cX7_isBetter 11 = .ok (.iload_n 3, 1) := dX7_isBetter_r0.2.2.2.2.2.2.2.1
theorem dX7_isBetter_12 : decode cX7_isBetter 12 = .ok (.if_icmp .ge 7, 3) := dX7_isBetter_r0.2.2.2.2.2.2.2.2.1
theorem dX7_isBetter_15 : decode cX7_isBetter 15 = .ok (.iconst 1, 1) := dX7_isBetter_r0.2.2.2.2.2.2.2.2.2.1
theorem dX7_isBetter_16 : decode cX7_isBetter 16 = .ok (.goto 4, 3) := dX7_isBetter_r0.2.2.2.2.2.2.2.2.2.2.1
theorem dX7_isBetter_19 : decode cX7_isBetter 19 = .ok (.iconst 0, 1) := dX7_isBetter_r0.2.2.2.2.2.2.2.2.2.2.2.1
theorem dX7_isBetter_20 : decode cX7_isBetter 20 = .ok (.ireturn, 1) := dX7_isBetter_r0.2.2.2.2.2.2.2.2.2.2.2.2.1
def wp_119 (v0 : Int32) (v1 : Int32) (v2 : Int32) (v3 : Int32) (m : zf_Me) (Q : Bool → zf_Me → Prop) : Prop := ((v0.toInt > v2.toInt → Q true m) ∧ (v0.toInt ≤ v2.toInt → ((¬ v0.toInt = v2.toInt → Q false m) ∧ (v0.toInt = v2.toInt → ((v1.toInt ≥ v3.toInt → Q false m) ∧ (v1.toInt < v3.toInt → Q true m))))))
theorem zr_119 {d : Nat} (hd : 0 ≤ d) {v0 : Int32} {v1 : Int32} {v2 : Int32} {v3 : Int32} {Q : Bool → zf_Me → Prop} {m : zf_Me} (h : wp_119 v0 v1 v2 v3 m Q) : zf_M d 119 [.inl v0, .inl v1, .inl v2, .inl v3] m (zf_B Q) := by
  unfold wp_119 at h
  refine zf_M_of (Nat.le_of_ble_eq_true rfl) zm_119 (L := [some (.inl v0), some (.inl v1), some (.inl v2), some (.inl v3)]) rfl ?_
  refine zf_ld (pc' := 1) (v := .inl v0) dX7_isBetter_0 rfl (fun _ _ _ => rfl) rfl rfl rfl ?_
  refine zf_ld (pc' := 2) (v := .inl v2) dX7_isBetter_1 rfl (fun _ _ _ => rfl) rfl rfl rfl ?_
  refine zf_icmp_gt (tgt := 15) (pc' := 5) dX7_isBetter_2 rfl rfl (fun g => ?_) (fun g => ?_)
  · replace h := h.1 g
    refine zf_ic (v := 1) (pc' := 16) dX7_isBetter_15 rfl rfl ?_
    refine zf_goto (tgt := 20) dX7_isBetter_16 rfl ?_
    exact zf_rb (b := true) dX7_isBetter_20 rfl h
  · replace h := h.2 g
    refine zf_ld (pc' := 6) (v := .inl v0) dX7_isBetter_5 rfl (fun _ _ _ => rfl) rfl rfl rfl ?_
    refine zf_ld (pc' := 7) (v := .inl v2) dX7_isBetter_6 rfl (fun _ _ _ => rfl) rfl rfl rfl ?_
    refine zf_icmp_ne (tgt := 19) (pc' := 10) dX7_isBetter_7 rfl rfl (fun g => ?_) (fun g => ?_)
    · replace h := h.1 g
      refine zf_ic (v := 0) (pc' := 20) dX7_isBetter_19 rfl rfl ?_
      exact zf_rb (b := false) dX7_isBetter_20 rfl h
    · replace h := h.2 g
      refine zf_ld (pc' := 11) (v := .inl v1) dX7_isBetter_10 rfl (fun _ _ _ => rfl) rfl rfl rfl ?_
      refine zf_ld (pc' := 12) (v := .inl v3) dX7_isBetter_11 rfl (fun _ _ _ => rfl) rfl rfl rfl ?_
      refine zf_icmp_ge (tgt := 19) (pc' := 15) dX7_isBetter_12 rfl rfl (fun g => ?_) (fun g => ?_)
      · replace h := h.1 g
        refine zf_ic (v := 0) (pc' := 20) dX7_isBetter_19 rfl rfl ?_
        exact zf_rb (b := false) dX7_isBetter_20 rfl h
      · replace h := h.2 g
        refine zf_ic (v := 1) (pc' := 16) dX7_isBetter_15 rfl rfl ?_
        refine zf_goto (tgt := 20) dX7_isBetter_16 rfl ?_
        exact zf_rb (b := true) dX7_isBetter_20 rfl h
def zt_17 : zx_MT := (2, yX2_offer, cX2_offer, 6, none, 2, 0)
theorem zm_17 : zx_m 17 = zt_17 := rfl
theorem dX2_offer_r0 : zdcP cX2_offer 0 [(.aload_n 0, 1), (.getfield 13, 3), (.iload_n 1, 1), (.aaload, 1), (.astore_n 3, 1), (.aload_n 3, 1), (.getfield 83, 3), (.iload_n 2, 1), (.aload_n 0, 1), (.getfield 31, 3), (.aload_n 0, 1), (.getfield 34, 3), (.invokestatic 86, 3), (.istore 4, 2), (.aload_n 3, 1), (.getfield 83, 3)] := zdcA_ok (by decide +kernel)
theorem dX2_offer_0 : decode cX2_offer 0 = .ok (.aload_n 0, 1) := dX2_offer_r0.1
theorem dX2_offer_1 : decode cX2_offer 1 = .ok (.getfield 13, 3) := dX2_offer_r0.2.1
theorem dX2_offer_4 : decode cX2_offer 4 = .ok (.iload_n 1, 1) := dX2_offer_r0.2.2.1
theorem dX2_offer_5 : decode cX2_offer 5 = .ok (.aaload, 1) := dX2_offer_r0.2.2.2.1
theorem dX2_offer_6 : decode cX2_offer 6 = .ok (.astore_n 3, 1) := dX2_offer_r0.2.2.2.2.1
theorem dX2_offer_7 : decode cX2_offer 7 = .ok (.aload_n 3, 1) := dX2_offer_r0.2.2.2.2.2.1
theorem dX2_offer_8 : decode cX2_offer 8 = .ok (.getfield 83, 3) := dX2_offer_r0.2.2.2.2.2.2.1
theorem dX2_offer_11 : decode cX2_offer 11 = .ok (.iload_n 2, 1) := dX2_offer_r0.2.2.2.2.2.2.2.1
theorem dX2_offer_12 : decode cX2_offer 12 = .ok (.aload_n 0, 1) := dX2_offer_r0.2.2.2.2.2.2.2.2.1
theorem dX2_offer_13 : decode cX2_offer 13 = .ok (.getfield 31, 3) := dX2_offer_r0.2.2.2.2.2.2.2.2.2.1
theorem dX2_offer_16 : decode cX2_offer 16 = .ok (.aload_n 0, 1) := dX2_offer_r0.2.2.2.2.2.2.2.2.2.2.1
theorem dX2_offer_17 : decode cX2_offer 17 = .ok (.getfield 34, 3) := dX2_offer_r0.2.2.2.2.2.2.2.2.2.2.2.1
theorem dX2_offer_20 : decode cX2_offer 20 = .ok (.invokestatic 86, 3) := dX2_offer_r0.2.2.2.2.2.2.2.2.2.2.2.2.1
theorem dX2_offer_23 : decode cX2_offer 23 = .ok (.istore 4, 2) := dX2_offer_r0.2.2.2.2.2.2.2.2.2.2.2.2.2.1
theorem dX2_offer_25 : decode cX2_offer 25 = .ok (.aload_n 3, 1) := dX2_offer_r0.2.2.2.2.2.2.2.2.2.2.2.2.2.2.1
theorem dX2_offer_26 : decode cX2_offer 26 = .ok (.getfield 83, 3) := dX2_offer_r0.2.2.2.2.2.2.2.2.2.2.2.2.2.2.2.1
theorem dX2_offer_r29 : zdcP cX2_offer 29 [(.aload_n 0, 1), (.getfield 31, 3), (.if_icmp .ne 26, 3), (.iload_n 2, 1), (.aload_n 0, 1), (.getfield 34, 3), (.if_icmp .ne 18, 3), (.aload_n 3, 1), (.getfield 90, 3), (.aload_n 0, 1), (.getfield 37, 3), (.if_icmp .ge 7, 3), (.iconst 1, 1), (.goto 4, 3), (.iconst 0, 1), (.istore 5, 2)] := zdcA_ok (by decide +kernel)
theorem dX2_offer_29 : decode cX2_offer 29 = .ok (.aload_n 0, 1) := dX2_offer_r29.1
theorem dX2_offer_30 : decode cX2_offer 30 = .ok (.getfield 31, 3) := dX2_offer_r29.2.1
theorem dX2_offer_33 : decode cX2_offer 33 = .ok (.if_icmp .ne 26, 3) := dX2_offer_r29.2.2.1
theorem dX2_offer_36 : decode cX2_offer 36 = .ok (.iload_n 2, 1) := dX2_offer_r29.2.2.2.1
theorem dX2_offer_37 : decode cX2_offer 37 = .ok (.aload_n 0, 1) := dX2_offer_r29.2.2.2.2.1
theorem dX2_offer_38 : decode cX2_offer 38 = .ok (.getfield 34, 3) := dX2_offer_r29.2.2.2.2.2.1
theorem dX2_offer_41 : decode cX2_offer 41 = .ok (.if_icmp .ne 18, 3) := dX2_offer_r29.2.2.2.2.2.2.1
theorem dX2_offer_44 : decode cX2_offer 44 = .ok (.aload_n 3, 1) := dX2_offer_r29.2.2.2.2.2.2.2.1
theorem dX2_offer_45 : decode cX2_offer 45 = .ok (.getfield 90, 3) := dX2_offer_r29.2.2.2.2.2.2.2.2.1
theorem dX2_offer_48 : decode cX2_offer 48 = .ok (.aload_n 0, 1) := dX2_offer_r29.2.2.2.2.2.2.2.2.2.1
theorem dX2_offer_49 : decode cX2_offer 49 = .ok (.getfield 37, 3) := dX2_offer_r29.2.2.2.2.2.2.2.2.2.2.1
theorem dX2_offer_52 : decode cX2_offer 52 = .ok (.if_icmp .ge 7, 3) := dX2_offer_r29.2.2.2.2.2.2.2.2.2.2.2.1
theorem dX2_offer_55 : decode cX2_offer 55 = .ok (.iconst 1, 1) := dX2_offer_r29.2.2.2.2.2.2.2.2.2.2.2.2.1
theorem dX2_offer_56 : decode cX2_offer 56 = .ok (.goto 4, 3) := dX2_offer_r29.2.2.2.2.2.2.2.2.2.2.2.2.2.1
theorem dX2_offer_59 : decode cX2_offer 59 = .ok (.iconst 0, 1) := dX2_offer_r29.2.2.2.2.2.2.2.2.2.2.2.2.2.2.1
theorem dX2_offer_60 : decode cX2_offer 60 = .ok (.istore 5, 2) := dX2_offer_r29.2.2.2.2.2.2.2.2.2.2.2.2.2.2.2.1
theorem dX2_offer_r62 : zdcP cX2_offer 62 [(.iload 4, 2), (.ifCond .ne 8, 3), (.iload 5, 2), (.ifCond .eq 43, 3), (.aload_n 0, 1), (.iload_n 1, 1), (.putfield 28, 3), (.aload_n 0, 1), (.aload_n 3, 1), (.getfield 83, 3), (.putfield 31, 3), (.aload_n 0, 1), (.iload_n 2, 1), (.putfield 34, 3), (.aload_n 0, 1), (.aload_n 3, 1)] := zdcA_ok (by decide +kernel)
theorem dX2_offer_62 : decode cX2_offer 62 = .ok (.iload 4, 2) := dX2_offer_r62.1
theorem dX2_offer_64 : decode cX2_offer 64 = .ok (.ifCond .ne 8, 3) := dX2_offer_r62.2.1
theorem dX2_offer_67 : decode cX2_offer 67 = .ok (.iload 5, 2) := dX2_offer_r62.2.2.1
theorem dX2_offer_69 : decode cX2_offer 69 = .ok (.ifCond .eq 43, 3) := dX2_offer_r62.2.2.2.1
theorem dX2_offer_72 : decode cX2_offer 72 = .ok (.aload_n 0, 1) := dX2_offer_r62.2.2.2.2.1
theorem dX2_offer_73 : decode cX2_offer 73 = .ok (.iload_n 1, 1) := dX2_offer_r62.2.2.2.2.2.1
theorem dX2_offer_74 : decode cX2_offer 74 = .ok (.putfield 28, 3) := dX2_offer_r62.2.2.2.2.2.2.1
theorem dX2_offer_77 : decode cX2_offer 77 = .ok (.aload_n 0, 1) := dX2_offer_r62.2.2.2.2.2.2.2.1
theorem dX2_offer_78 : decode cX2_offer 78 = .ok (.aload_n 3, 1) := dX2_offer_r62.2.2.2.2.2.2.2.2.1
theorem dX2_offer_79 : decode cX2_offer 79 = .ok (.getfield 83, 3) := dX2_offer_r62.2.2.2.2.2.2.2.2.2.1
theorem dX2_offer_82 : decode cX2_offer 82 = .ok (.putfield 31, 3) := dX2_offer_r62.2.2.2.2.2.2.2.2.2.2.1
theorem dX2_offer_85 : decode cX2_offer 85 = .ok (.aload_n 0, 1) := dX2_offer_r62.2.2.2.2.2.2.2.2.2.2.2.1
theorem dX2_offer_86 : decode cX2_offer 86 = .ok (.iload_n 2, 1) := dX2_offer_r62.2.2.2.2.2.2.2.2.2.2.2.2.1
theorem dX2_offer_87 : decode cX2_offer 87 = .ok (.putfield 34, 3) := dX2_offer_r62.2.2.2.2.2.2.2.2.2.2.2.2.2.1
theorem dX2_offer_90 : decode cX2_offer 90 = .ok (.aload_n 0, 1) := dX2_offer_r62.2.2.2.2.2.2.2.2.2.2.2.2.2.2.1
theorem dX2_offer_91 : decode cX2_offer 91 = .ok (.aload_n 3, 1) := dX2_offer_r62.2.2.2.2.2.2.2.2.2.2.2.2.2.2.2.1
theorem dX2_offer_r92 : zdcP cX2_offer 92 [(.getfield 90, 3), (.putfield 37, 3), (.aload_n 0, 1), (.getfield 17, 3), (.iconst 0, 1), (.aload_n 0, 1), (.getfield 21, 3), (.iconst 0, 1), (.iconst 4, 1), (.invokestatic 93, 3), (.return_, 1)] := zdcA_ok (by decide +kernel)
theorem dX2_offer_92 : decode cX2_offer 92 = .ok (.getfield 90, 3) := dX2_offer_r92.1
theorem dX2_offer_95 : decode cX2_offer 95 = .ok (.putfield 37, 3) := dX2_offer_r92.2.1
theorem dX2_offer_98 : decode cX2_offer 98 = .ok (.aload_n 0, 1) := dX2_offer_r92.2.2.1
theorem dX2_offer_99 : decode cX2_offer 99 = .ok (.getfield 17, 3) := dX2_offer_r92.2.2.2.1
theorem dX2_offer_102 : decode cX2_offer 102 = .ok (.iconst 0, 1) := dX2_offer_r92.2.2.2.2.1
theorem dX2_offer_103 : decode cX2_offer 103 = .ok (.aload_n 0, 1) := dX2_offer_r92.2.2.2.2.2.1
theorem dX2_offer_104 : decode cX2_offer 104 = .ok (.getfield 21, 3) := dX2_offer_r92.2.2.2.2.2.2.1
theorem dX2_offer_107 : decode cX2_offer 107 = .ok (.iconst 0, 1) := dX2_offer_r92.2.2.2.2.2.2.2.1
theorem dX2_offer_108 : decode cX2_offer 108 = .ok (.iconst 4, 1) := dX2_offer_r92.2.2.2.2.2.2.2.2.1
theorem dX2_offer_109 : decode cX2_offer 109 = .ok (.invokestatic 93, 3) := dX2_offer_r92.2.2.2.2.2.2.2.2.2.1
theorem dX2_offer_112 : decode cX2_offer 112 = .ok (.return_, 1) := dX2_offer_r92.2.2.2.2.2.2.2.2.2.2.1
def wq_17_72 (v1 : Int32) (v2 : Int32) (m : zf_Me) (Q : zf_Me → Prop) : Prop := (∀ m5, m5 = zf_u m 21 4 v1 → (∀ m7, m7 = zf_u m5 21 5 (m5.1 (25 + 2 * (Int32.toInt v1).toNat) 10) → (∀ m9, m9 = zf_u m7 21 6 v2 → (∀ m11, m11 = zf_u m9 21 7 (m9.1 (25 + 2 * (Int32.toInt v1).toNat) 11) → (∀ m13, m13 = zf_cp m11 23 24 0 0 4 → Q m13)))))
theorem zq_17_72 {d : Nat} (hd : 1 ≤ d) {v1 : Int32} {v2 : Int32} {Q : zf_Me → Prop} (hs3 : zf_walk (25 + 2 * (Int32.toInt v1).toNat) 3 (26 + 2 * (Int32.toInt v1).toNat)) {m : zf_Me} (h : wq_17_72 v1 v2 m Q) : zf_W none 0 0 d zt_17 72 [some (.inr (.inr (1, 21))), some (.inl v1), some (.inl v2), some (.inr (.inr (1, (25 + 2 * (Int32.toInt v1).toNat)))), none, none] [] m (zf_O Q) := by
  unfold wq_17_72 at h
  refine zf_ld (pc' := 73) (v := .inr (.inr (1, 21))) dX2_offer_72 rfl (fun _ _ _ => rfl) rfl rfl rfl ?_
  refine zf_ld (pc' := 74) (v := .inl v1) dX2_offer_73 rfl (fun _ _ _ => rfl) rfl rfl rfl ?_
  refine zf_pf (pc' := 77) dX2_offer_74 rfl rfl (by decide) rfl rfl rfl (fun m5 e6 => ?_)
  replace h := h m5 e6
  refine zf_ld (pc' := 78) (v := .inr (.inr (1, 21))) dX2_offer_77 rfl (fun _ _ _ => rfl) rfl rfl rfl ?_
  refine zf_ld (pc' := 79) (v := .inr (.inr (1, (25 + 2 * (Int32.toInt v1).toNat)))) dX2_offer_78 rfl (fun _ _ _ => rfl) rfl rfl rfl ?_
  refine zf_gfi (pc' := 82) dX2_offer_79 rfl rfl hs3.1 hs3.2.1 rfl ?_
  refine zf_pf (pc' := 85) dX2_offer_82 rfl rfl (by decide) rfl rfl rfl (fun m7 e8 => ?_)
  replace h := h m7 e8
  refine zf_ld (pc' := 86) (v := .inr (.inr (1, 21))) dX2_offer_85 rfl (fun _ _ _ => rfl) rfl rfl rfl ?_
  refine zf_ld (pc' := 87) (v := .inl v2) dX2_offer_86 rfl (fun _ _ _ => rfl) rfl rfl rfl ?_
  refine zf_pf (pc' := 90) dX2_offer_87 rfl rfl (by decide) rfl rfl rfl (fun m9 e10 => ?_)
  replace h := h m9 e10
  refine zf_ld (pc' := 91) (v := .inr (.inr (1, 21))) dX2_offer_90 rfl (fun _ _ _ => rfl) rfl rfl rfl ?_
  refine zf_ld (pc' := 92) (v := .inr (.inr (1, (25 + 2 * (Int32.toInt v1).toNat)))) dX2_offer_91 rfl (fun _ _ _ => rfl) rfl rfl rfl ?_
  refine zf_gfi (pc' := 95) dX2_offer_92 rfl rfl hs3.1 hs3.2.1 rfl ?_
  refine zf_pf (pc' := 98) dX2_offer_95 rfl rfl (by decide) rfl rfl rfl (fun m11 e12 => ?_)
  replace h := h m11 e12
  refine zf_ld (pc' := 99) (v := .inr (.inr (1, 21))) dX2_offer_98 rfl (fun _ _ _ => rfl) rfl rfl rfl ?_
  refine zf_gfr (pc' := 102) (b := 23) dX2_offer_99 rfl rfl (by decide) rfl rfl ?_
  refine zf_ic (v := 0) (pc' := 103) dX2_offer_102 rfl rfl ?_
  refine zf_ld (pc' := 104) (v := .inr (.inr (1, 21))) dX2_offer_103 rfl (fun _ _ _ => rfl) rfl rfl rfl ?_
  refine zf_gfr (pc' := 107) (b := 24) dX2_offer_104 rfl rfl (by decide) rfl rfl ?_
  refine zf_ic (v := 0) (pc' := 108) dX2_offer_107 rfl rfl ?_
  refine zf_ic (v := 4) (pc' := 109) dX2_offer_108 rfl rfl ?_
  refine zf_ac (pc' := 112) dX2_offer_109 rfl rfl (q0 := _) rfl (⟨by decide, rfl⟩ : zf_arr 23 4).1 (⟨by decide, rfl⟩ : zf_arr 24 4).1 (⟨by decide, rfl⟩ : zf_arr 23 4).2 (⟨by decide, rfl⟩ : zf_arr 24 4).2 rfl (by decide) (fun m13 e14 => ?_)
  replace h := h m13 e14
  exact zf_rv dX2_offer_112 rfl h
def wq_17_60 (v1 : Int32) (v2 : Int32) (v4 : Int32) (u0 : Int32) (m : zf_Me) (Q : zf_Me → Prop) : Prop := ((¬ v4.toInt = 0 → wq_17_72 v1 v2 m Q) ∧ (v4.toInt = 0 → ((u0.toInt = 0 → Q m) ∧ (¬ u0.toInt = 0 → wq_17_72 v1 v2 m Q))))
theorem zq_17_60 {d : Nat} (hd : 1 ≤ d) {v1 : Int32} {v2 : Int32} {Q : zf_Me → Prop} (hs3 : zf_walk (25 + 2 * (Int32.toInt v1).toNat) 3 (26 + 2 * (Int32.toInt v1).toNat)) {v4 : Int32} {u0 : Int32} {m : zf_Me} (h : wq_17_60 v1 v2 v4 u0 m Q) : zf_W none 0 0 d zt_17 60 [some (.inr (.inr (1, 21))), some (.inl v1), some (.inl v2), some (.inr (.inr (1, (25 + 2 * (Int32.toInt v1).toNat)))), some (.inl v4), none] [.inl u0] m (zf_O Q) := by
  unfold wq_17_60 at h
  refine zf_st (pc' := 62) (L2 := [some (.inr (.inr (1, 21))), some (.inl v1), some (.inl v2), some (.inr (.inr (1, (25 + 2 * (Int32.toInt v1).toNat)))), some (.inl v4), some (.inl u0)]) dX2_offer_60 rfl (fun _ _ _ => rfl) rfl rfl rfl rfl rfl rfl ?_
  refine zf_ld (pc' := 64) (v := .inl v4) dX2_offer_62 rfl (fun _ _ _ => rfl) rfl rfl rfl ?_
  refine zf_if_ne (tgt := 72) (pc' := 67) dX2_offer_64 rfl rfl (fun g => ?_) (fun g => ?_)
  · replace h := h.1 g
    exact zf_lo (zq_17_72 (by omega) hs3 h) ⟨rfl, rfl, rfl, rfl, trivial⟩
  · replace h := h.2 g
    refine zf_ld (pc' := 69) (v := .inl u0) dX2_offer_67 rfl (fun _ _ _ => rfl) rfl rfl rfl ?_
    refine zf_if_eq (tgt := 112) (pc' := 72) dX2_offer_69 rfl rfl (fun g => ?_) (fun g => ?_)
    · replace h := h.1 g
      exact zf_rv dX2_offer_112 rfl h
    · replace h := h.2 g
      exact zf_lo (zq_17_72 (by omega) hs3 h) ⟨rfl, rfl, rfl, rfl, trivial⟩
def wq_17_59 (v1 : Int32) (v2 : Int32) (v4 : Int32) (m : zf_Me) (Q : zf_Me → Prop) : Prop := wq_17_60 v1 v2 v4 0 m Q
theorem zq_17_59 {d : Nat} (hd : 1 ≤ d) {v1 : Int32} {v2 : Int32} {Q : zf_Me → Prop} (hs3 : zf_walk (25 + 2 * (Int32.toInt v1).toNat) 3 (26 + 2 * (Int32.toInt v1).toNat)) {v4 : Int32} {m : zf_Me} (h : wq_17_59 v1 v2 v4 m Q) : zf_W none 0 0 d zt_17 59 [some (.inr (.inr (1, 21))), some (.inl v1), some (.inl v2), some (.inr (.inr (1, (25 + 2 * (Int32.toInt v1).toNat)))), some (.inl v4), none] [] m (zf_O Q) := by
  unfold wq_17_59 at h
  refine zf_ic (v := 0) (pc' := 60) dX2_offer_59 rfl rfl ?_
  exact zf_lo (zq_17_60 (by omega) hs3 h) ⟨rfl, rfl, rfl, rfl, rfl, trivial⟩
def wp_17 (v1 : Int32) (v2 : Int32) (m : zf_Me) (Q : zf_Me → Prop) : Prop := ((0 ≤ (Int32.toInt v1) ∧ (Int32.toInt v1) < 5) ∧ wp_119 (m.1 (25 + 2 * (Int32.toInt v1).toNat) 10) v2 (m.1 21 5) (m.1 21 6) m (fun b3 m4 => ((¬ ((m4.1 (25 + 2 * (Int32.toInt v1).toNat) 10)).toInt = ((m4.1 21 5)).toInt → wq_17_59 v1 v2 (zb b3) m4 Q) ∧ (((m4.1 (25 + 2 * (Int32.toInt v1).toNat) 10)).toInt = ((m4.1 21 5)).toInt → ((¬ v2.toInt = ((m4.1 21 6)).toInt → wq_17_59 v1 v2 (zb b3) m4 Q) ∧ (v2.toInt = ((m4.1 21 6)).toInt → ((((m4.1 (25 + 2 * (Int32.toInt v1).toNat) 11)).toInt ≥ ((m4.1 21 7)).toInt → wq_17_59 v1 v2 (zb b3) m4 Q) ∧ (((m4.1 (25 + 2 * (Int32.toInt v1).toNat) 11)).toInt < ((m4.1 21 7)).toInt → wq_17_60 v1 v2 (zb b3) 1 m4 Q))))))))
theorem zr_17 {d : Nat} (hd : 1 ≤ d) {v1 : Int32} {v2 : Int32} {Q : zf_Me → Prop} {m : zf_Me} (h : wp_17 v1 v2 m Q) : zf_M d 17 [.inr (.inr (1, 21)), .inl v1, .inl v2] m (zf_O Q) := by
  obtain ⟨e, rfl⟩ : ∃ z, d = z + 1 := ⟨d - 1, by omega⟩
  unfold wp_17 at h
  refine zf_M_of (Nat.le_of_ble_eq_true rfl) zm_17 (L := [some (.inr (.inr (1, 21))), some (.inl v1), some (.inl v2), none, none, none]) rfl ?_
  refine zf_ld (pc' := 1) (v := .inr (.inr (1, 21))) dX2_offer_0 rfl (fun _ _ _ => rfl) rfl rfl rfl ?_
  refine zf_gfr (pc' := 4) (b := 22) dX2_offer_1 rfl rfl (by decide) rfl rfl ?_
  refine zf_ld (pc' := 5) (v := .inl v1) dX2_offer_4 rfl (fun _ _ _ => rfl) rfl rfl rfl ?_
  refine zf_aal (b := 25) (n := 5) (pc' := 6) dX2_offer_5 rfl (by decide) rfl (by decide) rfl h.1 zf_row22 ?_
  have hb1 := h.1
  replace h := h.2
  have hx2 : zf_walk (25 + 2 * (Int32.toInt v1).toNat) 3 (26 + 2 * (Int32.toInt v1).toNat) := zf_walks (by omega)
  refine zf_st (pc' := 7) (L2 := [some (.inr (.inr (1, 21))), some (.inl v1), some (.inl v2), some (.inr (.inr (1, (25 + 2 * (Int32.toInt v1).toNat)))), none, none]) dX2_offer_6 rfl (fun _ _ _ => rfl) rfl rfl rfl rfl rfl rfl ?_
  refine zf_ld (pc' := 8) (v := .inr (.inr (1, (25 + 2 * (Int32.toInt v1).toNat)))) dX2_offer_7 rfl (fun _ _ _ => rfl) rfl rfl rfl ?_
  refine zf_gfi (pc' := 11) dX2_offer_8 rfl rfl hx2.1 hx2.2.1 rfl ?_
  refine zf_ld (pc' := 12) (v := .inl v2) dX2_offer_11 rfl (fun _ _ _ => rfl) rfl rfl rfl ?_
  refine zf_ld (pc' := 13) (v := .inr (.inr (1, 21))) dX2_offer_12 rfl (fun _ _ _ => rfl) rfl rfl rfl ?_
  refine zf_gfi (pc' := 16) dX2_offer_13 rfl rfl (by decide) rfl rfl ?_
  refine zf_ld (pc' := 17) (v := .inr (.inr (1, 21))) dX2_offer_16 rfl (fun _ _ _ => rfl) rfl rfl rfl ?_
  refine zf_gfi (pc' := 20) dX2_offer_17 rfl rfl (by decide) rfl rfl ?_
  refine zf_is (k := 119) (pc' := 23) (r := []) dX2_offer_20 rfl rfl rfl rfl rfl (zr_119 (by omega) h) (zf_kB (fun b3 m4 h => ?_))
  refine zf_st (pc' := 25) (L2 := [some (.inr (.inr (1, 21))), some (.inl v1), some (.inl v2), some (.inr (.inr (1, (25 + 2 * (Int32.toInt v1).toNat)))), some (.inl (zb b3)), none]) dX2_offer_23 rfl (fun _ _ _ => rfl) rfl rfl rfl rfl rfl rfl ?_
  refine zf_ld (pc' := 26) (v := .inr (.inr (1, (25 + 2 * (Int32.toInt v1).toNat)))) dX2_offer_25 rfl (fun _ _ _ => rfl) rfl rfl rfl ?_
  refine zf_gfi (pc' := 29) dX2_offer_26 rfl rfl hx2.1 hx2.2.1 rfl ?_
  refine zf_ld (pc' := 30) (v := .inr (.inr (1, 21))) dX2_offer_29 rfl (fun _ _ _ => rfl) rfl rfl rfl ?_
  refine zf_gfi (pc' := 33) dX2_offer_30 rfl rfl (by decide) rfl rfl ?_
  refine zf_icmp_ne (tgt := 59) (pc' := 36) dX2_offer_33 rfl rfl (fun g => ?_) (fun g => ?_)
  · replace h := h.1 g
    exact zf_lo (zq_17_59 (by omega) hx2 h) ⟨rfl, rfl, rfl, rfl, rfl, trivial⟩
  · replace h := h.2 g
    refine zf_ld (pc' := 37) (v := .inl v2) dX2_offer_36 rfl (fun _ _ _ => rfl) rfl rfl rfl ?_
    refine zf_ld (pc' := 38) (v := .inr (.inr (1, 21))) dX2_offer_37 rfl (fun _ _ _ => rfl) rfl rfl rfl ?_
    refine zf_gfi (pc' := 41) dX2_offer_38 rfl rfl (by decide) rfl rfl ?_
    refine zf_icmp_ne (tgt := 59) (pc' := 44) dX2_offer_41 rfl rfl (fun g => ?_) (fun g => ?_)
    · replace h := h.1 g
      exact zf_lo (zq_17_59 (by omega) hx2 h) ⟨rfl, rfl, rfl, rfl, rfl, trivial⟩
    · replace h := h.2 g
      refine zf_ld (pc' := 45) (v := .inr (.inr (1, (25 + 2 * (Int32.toInt v1).toNat)))) dX2_offer_44 rfl (fun _ _ _ => rfl) rfl rfl rfl ?_
      refine zf_gfi (pc' := 48) dX2_offer_45 rfl rfl hx2.1 hx2.2.1 rfl ?_
      refine zf_ld (pc' := 49) (v := .inr (.inr (1, 21))) dX2_offer_48 rfl (fun _ _ _ => rfl) rfl rfl rfl ?_
      refine zf_gfi (pc' := 52) dX2_offer_49 rfl rfl (by decide) rfl rfl ?_
      refine zf_icmp_ge (tgt := 59) (pc' := 55) dX2_offer_52 rfl rfl (fun g => ?_) (fun g => ?_)
      · replace h := h.1 g
        exact zf_lo (zq_17_59 (by omega) hx2 h) ⟨rfl, rfl, rfl, rfl, rfl, trivial⟩
      · replace h := h.2 g
        refine zf_ic (v := 1) (pc' := 56) dX2_offer_55 rfl rfl ?_
        refine zf_goto (tgt := 60) dX2_offer_56 rfl ?_
        exact zf_lo (zq_17_60 (by omega) hx2 h) ⟨rfl, rfl, rfl, rfl, rfl, trivial⟩
