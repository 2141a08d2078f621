/-! part 23: strings: their length, their letters: laid by wip/flat/strs.py -/
section
variable {sc : zx_Sc} {d nc ns : Nat} {t : zx_MT} {pc : Nat} {L L2 : List (Option zx_V)} {S S' r : List zx_V} {m : zf_Me} {Q : Option zx_V → zf_Me → Prop}
theorem zf_gfv {a ix pc' : Nat} {np : Nat} (hdg : decode (zx_mb t) pc = .ok (.getfield ix, 3)) (hp : pc + 3 = pc') (hk : zx_lk zx_lK (zx_mo t) ix = some (0, np)) (ha : a < 12) (kk : zf_W sc nc ns d t pc' L (.inr (.inr (3, a)) :: r) m Q) : zf_W sc nc ns d t pc L (.inr (.inr (2, a)) :: r) m Q := by
  subst hp
  intro L' hL
  refine zx_W_ins hdg rfl (fun run => ?_) rfl (kk L' hL)
  show zx_gf (zx_mo t) ix pc L' (.inr (.inr (2, a)) :: r) (zf_E m) nc ns = _
  unfold zx_gf
  simp only [hk]
  rw [if_pos ha]
  rfl
theorem zf_gfc {a ix pc' : Nat} {np : Nat} (hdg : decode (zx_mb t) pc = .ok (.getfield ix, 3)) (hp : pc + 3 = pc') (hk : zx_lk zx_lK (zx_mo t) ix = some (1, np)) (ha : a < 12) (kk : zf_W sc nc ns d t pc' L (.inl 0 :: r) m Q) : zf_W sc nc ns d t pc L (.inr (.inr (2, a)) :: r) m Q := by
  subst hp
  intro L' hL
  refine zx_W_ins hdg rfl (fun run => ?_) rfl (kk L' hL)
  show zx_gf (zx_mo t) ix pc L' (.inr (.inr (2, a)) :: r) (zf_E m) nc ns = _
  unfold zx_gf
  simp only [hk]
  rw [if_pos ha]
  rfl
theorem zf_als {a pc' : Nat} (hdg : decode (zx_mb t) pc = .ok (.arraylength, 1)) (hp : pc + 1 = pc') (ha : a < 12) (kk : zf_W sc nc ns d t pc' L (.inl (Int32.ofNat (zx_sl.getD a 0)) :: r) m Q) : zf_W sc nc ns d t pc L (.inr (.inr (3, a)) :: r) m Q := by
  subst hp
  intro L' hL
  refine zx_W_ins hdg rfl (fun run => ?_) rfl (kk L' hL)
  show zx_al sc pc L' (.inr (.inr (3, a)) :: r) (zf_E m) nc ns = _
  unfold zx_al
  simp only
  rw [if_pos ha]
  rfl
theorem zf_bal {a pc' : Nat} {i : Int32} (hdg : decode (zx_mb t) pc = .ok (.baload, 1)) (hp : pc + 1 = pc') (ha : a < 12) (hi : 0 ≤ i.toInt ∧ i.toInt < (zx_sl.getD a 0 : Nat)) (kk : zf_W sc nc ns d t pc' L (.inl ((zx_sb.getD a []).getD i.toInt.toNat 0) :: r) m Q) : zf_W sc nc ns d t pc L (.inl i :: .inr (.inr (3, a)) :: r) m Q := by
  subst hp
  intro L' hL
  refine zx_W_ins hdg rfl (fun run => ?_) rfl (kk L' hL)
  show zx_bal pc L' (.inl i :: .inr (.inr (3, a)) :: r) (zf_E m) nc ns = _
  unfold zx_bal
  simp only
  rw [if_pos ⟨ha, zi_in hi⟩]
  rfl
theorem zf_gsb {ix pc' : Nat} {np : Nat × Nat} (hdg : decode (zx_mb t) pc = .ok (.getstatic ix, 3)) (hp : pc + 3 = pc') (hk : zx_lk zx_lG (zx_mo t) ix = some (5, np)) (kk : zf_W sc nc ns d t pc' L (.inl 1 :: S) m Q) : zf_W sc nc ns d t pc L S m Q := by
  subst hp
  intro L' hL
  refine zx_W_ins hdg rfl (fun run => ?_) rfl (kk L' hL)
  show zx_gs (zx_mo t) ix pc L' S (zf_E m) nc ns = _
  unfold zx_gs
  simp only [hk]
  rfl
theorem zf_gsf {ix pc' : Nat} {np : Nat × Nat} (hdg : decode (zx_mb t) pc = .ok (.getstatic ix, 3)) (hp : pc + 3 = pc') (hk : zx_lk zx_lG (zx_mo t) ix = some (6, np)) (kk : zf_W sc nc ns d t pc' L (.inr (.inr (6, 0)) :: S) m Q) : zf_W sc nc ns d t pc L S m Q := by
  subst hp
  intro L' hL
  refine zx_W_ins hdg rfl (fun run => ?_) rfl (kk L' hL)
  show zx_gs (zx_mo t) ix pc L' S (zf_E m) nc ns = _
  unfold zx_gs
  simp only [hk]
  rfl
theorem zf_rx {v : Int32} {ty : FieldType} {Q : Int32 → zf_Me → Prop} (hdg : decode (zx_mb t) pc = .ok (.ireturn, 1)) (hr : zx_mr t = some ty) (hn : zx_nr ty v = true) (q : Q v m) : zf_W sc nc ns d t pc L [.inl v] m (zf_I Q) :=
  fun _ _ => zw_iret hdg hr hn ⟨m, rfl, v, rfl, q⟩
end
def zt_216 : zx_MT := (11, yJ0_coder_7d493, cJ0_coder_7d493, 1, (some FieldType.byte), 0, 0)
theorem zm_216 : zx_m 216 = zt_216 := rfl
theorem dJ0_coder_7d493_0 : decode cJ0_coder_7d493 0 = .ok (.getstatic 38, 3) := by decide +kernel
theorem dJ0_coder_7d493_3 : decode cJ0_coder_7d493 3 = .ok (.ifCond .eq 10, 3) := by decide +kernel
theorem dJ0_coder_7d493_6 : decode cJ0_coder_7d493 6 = .ok (.aload_n 0, 1) := by decide +kernel
theorem dJ0_coder_7d493_7 : decode cJ0_coder_7d493 7 = .ok (.getfield 15, 3) := by decide +kernel
theorem dJ0_coder_7d493_10 : decode cJ0_coder_7d493 10 = .ok (.goto 4, 3) := by decide +kernel
theorem dJ0_coder_7d493_14 : decode cJ0_coder_7d493 14 = .ok (.ireturn, 1) := by decide +kernel
def zt_217 : zx_MT := (11, yJ0_isLatin1_aae02, cJ0_isLatin1_aae02, 1, (some FieldType.boolean), 0, 0)
theorem zm_217 : zx_m 217 = zt_217 := rfl
theorem dJ0_isLatin1_aae02_0 : decode cJ0_isLatin1_aae02 0 = .ok (.getstatic 38, 3) := by decide +kernel
theorem dJ0_isLatin1_aae02_3 : decode cJ0_isLatin1_aae02 3 = .ok (.ifCond .eq 14, 3) := by decide +kernel
theorem dJ0_isLatin1_aae02_6 : decode cJ0_isLatin1_aae02 6 = .ok (.aload_n 0, 1) := by decide +kernel
theorem dJ0_isLatin1_aae02_7 : decode cJ0_isLatin1_aae02 7 = .ok (.getfield 15, 3) := by decide +kernel
theorem dJ0_isLatin1_aae02_10 : decode cJ0_isLatin1_aae02 10 = .ok (.ifCond .ne 7, 3) := by decide +kernel
theorem dJ0_isLatin1_aae02_13 : decode cJ0_isLatin1_aae02 13 = .ok (.iconst 1, 1) := by decide +kernel
theorem dJ0_isLatin1_aae02_14 : decode cJ0_isLatin1_aae02 14 = .ok (.goto 4, 3) := by decide +kernel
theorem dJ0_isLatin1_aae02_18 : decode cJ0_isLatin1_aae02 18 = .ok (.ireturn, 1) := by decide +kernel
def zt_220 : zx_MT := (13, yJ3_checkIndex_8e157, cJ3_checkIndex_8e157, 3, (some FieldType.int), 3, 1)
theorem zm_220 : zx_m 220 = zt_220 := rfl
theorem dJ3_checkIndex_8e157_0 : decode cJ3_checkIndex_8e157 0 = .ok (.iload_n 0, 1) := by decide +kernel
theorem dJ3_checkIndex_8e157_1 : decode cJ3_checkIndex_8e157 1 = .ok (.ifCond .lt 8, 3) := by decide +kernel
theorem dJ3_checkIndex_8e157_4 : decode cJ3_checkIndex_8e157 4 = .ok (.iload_n 0, 1) := by decide +kernel
theorem dJ3_checkIndex_8e157_5 : decode cJ3_checkIndex_8e157 5 = .ok (.iload_n 1, 1) := by decide +kernel
theorem dJ3_checkIndex_8e157_6 : decode cJ3_checkIndex_8e157 6 = .ok (.if_icmp .lt 10, 3) := by decide +kernel
theorem dJ3_checkIndex_8e157_16 : decode cJ3_checkIndex_8e157 16 = .ok (.iload_n 0, 1) := by decide +kernel
theorem dJ3_checkIndex_8e157_17 : decode cJ3_checkIndex_8e157 17 = .ok (.ireturn, 1) := by decide +kernel
def zt_218 : zx_MT := (11, yJ0_checkIndex_df160, cJ0_checkIndex_df160, 2, none, 2, 1)
theorem zm_218 : zx_m 218 = zt_218 := rfl
theorem dJ0_checkIndex_df160_0 : decode cJ0_checkIndex_df160 0 = .ok (.iload_n 0, 1) := by decide +kernel
theorem dJ0_checkIndex_df160_1 : decode cJ0_checkIndex_df160 1 = .ok (.iload_n 1, 1) := by decide +kernel
theorem dJ0_checkIndex_df160_2 : decode cJ0_checkIndex_df160 2 = .ok (.getstatic 1053, 3) := by decide +kernel
theorem dJ0_checkIndex_df160_5 : decode cJ0_checkIndex_df160 5 = .ok (.invokestatic 1059, 3) := by decide +kernel
theorem dJ0_checkIndex_df160_8 : decode cJ0_checkIndex_df160 8 = .ok (.pop, 1) := by decide +kernel
theorem dJ0_checkIndex_df160_9 : decode cJ0_checkIndex_df160 9 = .ok (.return_, 1) := by decide +kernel
def zt_219 : zx_MT := (12, yJ1_charAt_3b067, cJ1_charAt_3b067, 2, (some FieldType.char), 2, 1)
theorem zm_219 : zx_m 219 = zt_219 := rfl
theorem dJ1_charAt_3b067_0 : decode cJ1_charAt_3b067 0 = .ok (.iload_n 1, 1) := by decide +kernel
theorem dJ1_charAt_3b067_1 : decode cJ1_charAt_3b067 1 = .ok (.aload_n 0, 1) := by decide +kernel
theorem dJ1_charAt_3b067_2 : decode cJ1_charAt_3b067 2 = .ok (.arraylength, 1) := by decide +kernel
theorem dJ1_charAt_3b067_3 : decode cJ1_charAt_3b067 3 = .ok (.invokestatic 9, 3) := by decide +kernel
theorem dJ1_charAt_3b067_6 : decode cJ1_charAt_3b067 6 = .ok (.aload_n 0, 1) := by decide +kernel
theorem dJ1_charAt_3b067_7 : decode cJ1_charAt_3b067 7 = .ok (.iload_n 1, 1) := by decide +kernel
theorem dJ1_charAt_3b067_8 : decode cJ1_charAt_3b067 8 = .ok (.baload, 1) := by decide +kernel
theorem dJ1_charAt_3b067_9 : decode cJ1_charAt_3b067 9 = .ok (.sipush 255, 3) := by decide +kernel
theorem dJ1_charAt_3b067_12 : decode cJ1_charAt_3b067 12 = .ok (.iand, 1) := by decide +kernel
theorem dJ1_charAt_3b067_13 : decode cJ1_charAt_3b067 13 = .ok (.i2c, 1) := by decide +kernel
theorem dJ1_charAt_3b067_14 : decode cJ1_charAt_3b067 14 = .ok (.ireturn, 1) := by decide +kernel
def zt_214 : zx_MT := (11, yJ0_length_8abf5, cJ0_length_8abf5, 1, (some FieldType.int), 0, 0)
theorem zm_214 : zx_m 214 = zt_214 := rfl
theorem dJ0_length_8abf5_0 : decode cJ0_length_8abf5 0 = .ok (.aload_n 0, 1) := by decide +kernel
theorem dJ0_length_8abf5_1 : decode cJ0_length_8abf5 1 = .ok (.getfield 9, 3) := by decide +kernel
theorem dJ0_length_8abf5_4 : decode cJ0_length_8abf5 4 = .ok (.arraylength, 1) := by decide +kernel
theorem dJ0_length_8abf5_5 : decode cJ0_length_8abf5 5 = .ok (.aload_n 0, 1) := by decide +kernel
theorem dJ0_length_8abf5_6 : decode cJ0_length_8abf5 6 = .ok (.invokevirtual 335, 3) := by decide +kernel
theorem dJ0_length_8abf5_9 : decode cJ0_length_8abf5 9 = .ok (.ishr, 1) := by decide +kernel
theorem dJ0_length_8abf5_10 : decode cJ0_length_8abf5 10 = .ok (.ireturn, 1) := by decide +kernel
def zt_215 : zx_MT := (11, yJ0_charAt_5068e, cJ0_charAt_5068e, 2, (some FieldType.char), 1, 0)
theorem zm_215 : zx_m 215 = zt_215 := rfl
theorem dJ0_charAt_5068e_0 : decode cJ0_charAt_5068e 0 = .ok (.aload_n 0, 1) := by decide +kernel
theorem dJ0_charAt_5068e_1 : decode cJ0_charAt_5068e 1 = .ok (.invokevirtual 492, 3) := by decide +kernel
theorem dJ0_charAt_5068e_4 : decode cJ0_charAt_5068e 4 = .ok (.ifCond .eq 12, 3) := by decide +kernel
theorem dJ0_charAt_5068e_7 : decode cJ0_charAt_5068e 7 = .ok (.aload_n 0, 1) := by decide +kernel
theorem dJ0_charAt_5068e_8 : decode cJ0_charAt_5068e 8 = .ok (.getfield 9, 3) := by decide +kernel
theorem dJ0_charAt_5068e_11 : decode cJ0_charAt_5068e 11 = .ok (.iload_n 1, 1) := by decide +kernel
theorem dJ0_charAt_5068e_12 : decode cJ0_charAt_5068e 12 = .ok (.invokestatic 495, 3) := by decide +kernel
theorem dJ0_charAt_5068e_15 : decode cJ0_charAt_5068e 15 = .ok (.ireturn, 1) := by decide +kernel
theorem zr_216 {d t0 : Nat} (hp0 : t0 < 12) {m : zf_Me} {Q : Int32 → zf_Me → Prop} (h : Q 0 m) : zf_M d 216 [.inr (.inr (2, t0))] m (zf_I Q) := by
  refine zf_M_of (Nat.le_of_ble_eq_true rfl) zm_216 (L := [some (.inr (.inr (2, t0)))]) rfl ?_
  refine zf_gsb (pc' := 3) dJ0_coder_7d493_0 rfl rfl ?_
  refine zf_if_eq (tgt := 13) (pc' := 6) dJ0_coder_7d493_3 rfl rfl (fun g => absurd g (by decide)) (fun _ => ?_)
  refine zf_ld (pc' := 7) (v := .inr (.inr (2, t0))) dJ0_coder_7d493_6 rfl (fun _ _ _ => rfl) rfl rfl rfl ?_
  refine zf_gfc (pc' := 10) dJ0_coder_7d493_7 rfl rfl hp0 ?_
  refine zf_goto (tgt := 14) dJ0_coder_7d493_10 rfl ?_
  exact zf_rx dJ0_coder_7d493_14 rfl rfl h
theorem zr_217 {d t0 : Nat} (hp0 : t0 < 12) {m : zf_Me} {Q : Bool → zf_Me → Prop} (h : Q true m) : zf_M d 217 [.inr (.inr (2, t0))] m (zf_B Q) := by
  refine zf_M_of (Nat.le_of_ble_eq_true rfl) zm_217 (L := [some (.inr (.inr (2, t0)))]) rfl ?_
  refine zf_gsb (pc' := 3) dJ0_isLatin1_aae02_0 rfl rfl ?_
  refine zf_if_eq (tgt := 17) (pc' := 6) dJ0_isLatin1_aae02_3 rfl rfl (fun g => absurd g (by decide)) (fun _ => ?_)
  refine zf_ld (pc' := 7) (v := .inr (.inr (2, t0))) dJ0_isLatin1_aae02_6 rfl (fun _ _ _ => rfl) rfl rfl rfl ?_
  refine zf_gfc (pc' := 10) dJ0_isLatin1_aae02_7 rfl rfl hp0 ?_
  refine zf_if_ne (tgt := 17) (pc' := 13) dJ0_isLatin1_aae02_10 rfl rfl (fun g => absurd g (by decide)) (fun _ => ?_)
  refine zf_ic (v := 1) (pc' := 14) dJ0_isLatin1_aae02_13 rfl rfl ?_
  refine zf_goto (tgt := 18) dJ0_isLatin1_aae02_14 rfl ?_
  exact zf_rb (b := true) dJ0_isLatin1_aae02_18 rfl h
theorem zr_220 {d : Nat} {i n : Int32} {m : zf_Me} {Q : Int32 → zf_Me → Prop} (hi : 0 ≤ i.toInt ∧ i.toInt < n.toInt) (h : Q i m) : zf_M d 220 [.inl i, .inl n, .inr (.inr (6, 0))] m (zf_I Q) := by
  refine zf_M_of (Nat.le_of_ble_eq_true rfl) zm_220 (L := [some (.inl i), some (.inl n), some (.inr (.inr (6, 0)))]) rfl ?_
  refine zf_ld (pc' := 1) (v := .inl i) dJ3_checkIndex_8e157_0 rfl (fun _ _ _ => rfl) rfl rfl rfl ?_
  refine zf_if_lt (tgt := 9) (pc' := 4) dJ3_checkIndex_8e157_1 rfl rfl (fun g => absurd g (by omega)) (fun _ => ?_)
  refine zf_ld (pc' := 5) (v := .inl i) dJ3_checkIndex_8e157_4 rfl (fun _ _ _ => rfl) rfl rfl rfl ?_
  refine zf_ld (pc' := 6) (v := .inl n) dJ3_checkIndex_8e157_5 rfl (fun _ _ _ => rfl) rfl rfl rfl ?_
  refine zf_icmp_lt (tgt := 16) (pc' := 9) dJ3_checkIndex_8e157_6 rfl rfl (fun _ => ?_) (fun g => absurd g (by omega))
  refine zf_ld (pc' := 17) (v := .inl i) dJ3_checkIndex_8e157_16 rfl (fun _ _ _ => rfl) rfl rfl rfl ?_
  exact zf_ri dJ3_checkIndex_8e157_17 rfl h
theorem zr_218 {d : Nat} (hd : 1 ≤ d) {i n : Int32} {m : zf_Me} {Q : zf_Me → Prop} (hi : 0 ≤ i.toInt ∧ i.toInt < n.toInt) (h : Q m) : zf_M d 218 [.inl i, .inl n] m (zf_O Q) := by
  obtain ⟨e, rfl⟩ : ∃ z, d = z + 1 := ⟨d - 1, by omega⟩
  refine zf_M_of (Nat.le_of_ble_eq_true rfl) zm_218 (L := [some (.inl i), some (.inl n)]) rfl ?_
  refine zf_ld (pc' := 1) (v := .inl i) dJ0_checkIndex_df160_0 rfl (fun _ _ _ => rfl) rfl rfl rfl ?_
  refine zf_ld (pc' := 2) (v := .inl n) dJ0_checkIndex_df160_1 rfl (fun _ _ _ => rfl) rfl rfl rfl ?_
  refine zf_gsf (pc' := 5) dJ0_checkIndex_df160_2 rfl rfl ?_
  refine zf_is (k := 220) (pc' := 8) (r := []) dJ0_checkIndex_df160_5 rfl rfl rfl rfl rfl (zr_220 (Q := fun _ m' => Q m') hi h) (zf_kI (fun x m2 h => ?_))
  refine zf_in (pc' := 9) (S' := []) dJ0_checkIndex_df160_8 rfl (fun _ _ _ => rfl) ?_
  exact zf_rv dJ0_checkIndex_df160_9 rfl h
def zk_let (a j : Nat) : Int32 := (UInt32.toInt32 (Int32.toUInt32 ((zx_sb.getD a []).getD j 0 &&& 255) % 65536))
theorem zk_let_ok : ∀ a, a < 12 → ∀ j, j < zx_sl.getD a 0 → zk_let a j = (zx_sb.getD a []).getD j 0 ∧ zx_nr .char (zk_let a j) = true := by decide +kernel
theorem zk_len : ∀ a, a < 12 → (Int32.ofNat (zx_sl.getD a 0)).toInt = zx_sl.getD a 0 ∧ Int32.ofNat (zx_sl.getD a 0) >>> ((0 : Int32) &&& 31) = Int32.ofNat (zx_sl.getD a 0) := by decide +kernel
theorem zr_219 {d t0 : Nat} (hd : 2 ≤ d) (hp0 : t0 < 12) {i : Int32} {m : zf_Me} {Q : Int32 → zf_Me → Prop} (hi : 0 ≤ i.toInt ∧ i.toInt < (zx_sl.getD t0 0 : Nat)) (h : Q ((zx_sb.getD t0 []).getD i.toInt.toNat 0) m) : zf_M d 219 [.inr (.inr (3, t0)), .inl i] m (zf_I Q) := by
  obtain ⟨e, rfl⟩ : ∃ z, d = z + 1 := ⟨d - 1, by omega⟩
  have hl := zk_let_ok t0 hp0 i.toInt.toNat (by omega)
  refine zf_M_of (Nat.le_of_ble_eq_true rfl) zm_219 (L := [some (.inr (.inr (3, t0))), some (.inl i)]) rfl ?_
  refine zf_ld (pc' := 1) (v := .inl i) dJ1_charAt_3b067_0 rfl (fun _ _ _ => rfl) rfl rfl rfl ?_
  refine zf_ld (pc' := 2) (v := .inr (.inr (3, t0))) dJ1_charAt_3b067_1 rfl (fun _ _ _ => rfl) rfl rfl rfl ?_
  refine zf_als (pc' := 3) dJ1_charAt_3b067_2 rfl hp0 ?_
  refine zf_is (k := 218) (pc' := 6) (r := []) dJ1_charAt_3b067_3 rfl rfl rfl rfl rfl (zr_218 (Q := fun m' => m' = m) (by omega) (by rw [(zk_len t0 hp0).1]; exact hi) rfl) (zf_kO (fun m2 h2 => ?_))
  subst h2
  refine zf_ld (pc' := 7) (v := .inr (.inr (3, t0))) dJ1_charAt_3b067_6 rfl (fun _ _ _ => rfl) rfl rfl rfl ?_
  refine zf_ld (pc' := 8) (v := .inl i) dJ1_charAt_3b067_7 rfl (fun _ _ _ => rfl) rfl rfl rfl ?_
  refine zf_bal (pc' := 9) dJ1_charAt_3b067_8 rfl hp0 hi ?_
  refine zf_si (v := 255) (pc' := 12) dJ1_charAt_3b067_9 rfl rfl ?_
  refine zf_in (pc' := 13) (S' := [.inl ((zx_sb.getD t0 []).getD i.toInt.toNat 0 &&& 255)]) dJ1_charAt_3b067_12 rfl (fun _ _ _ => rfl) ?_
  refine zf_in (pc' := 14) (S' := [.inl (zk_let t0 i.toInt.toNat)]) dJ1_charAt_3b067_13 rfl (fun _ _ _ => rfl) ?_
  exact zf_rx dJ1_charAt_3b067_14 rfl hl.2 (by rw [hl.1]; exact h)
def wp_214 (t0 : Nat) (m : zf_Me) (Q : Int32 → zf_Me → Prop) : Prop := Q (Int32.ofNat (zx_sl.getD t0 0)) m
theorem zr_214 {d : Nat} (hd : 1 ≤ d) {t0 : Nat} (hp0 : t0 < 12) {m : zf_Me} {Q : Int32 → zf_Me → Prop} (h : wp_214 t0 m Q) : zf_M d 214 [.inr (.inr (2, t0))] m (zf_I Q) := by
  obtain ⟨e, rfl⟩ : ∃ z, d = z + 1 := ⟨d - 1, by omega⟩
  refine zf_M_of (Nat.le_of_ble_eq_true rfl) zm_214 (L := [some (.inr (.inr (2, t0)))]) rfl ?_
  refine zf_ld (pc' := 1) (v := .inr (.inr (2, t0))) dJ0_length_8abf5_0 rfl (fun _ _ _ => rfl) rfl rfl rfl ?_
  refine zf_gfv (pc' := 4) dJ0_length_8abf5_1 rfl rfl hp0 ?_
  refine zf_als (pc' := 5) dJ0_length_8abf5_4 rfl hp0 ?_
  refine zf_ld (pc' := 6) (v := .inr (.inr (2, t0))) dJ0_length_8abf5_5 rfl (fun _ _ _ => rfl) rfl rfl rfl ?_
  refine zf_iv2 (k := 216) (pc' := 9) (r := [.inl (Int32.ofNat (zx_sl.getD t0 0))]) dJ0_length_8abf5_6 rfl rfl rfl rfl hp0 rfl rfl (zr_216 (Q := fun x m' => x = 0 ∧ m' = m) hp0 ⟨rfl, rfl⟩) (zf_kI (fun x m2 h2 => ?_))
  obtain ⟨rfl, rfl⟩ := h2
  refine zf_in (pc' := 10) (S' := [.inl (Int32.ofNat (zx_sl.getD t0 0) >>> ((0 : Int32) &&& 31))]) dJ0_length_8abf5_9 rfl (fun _ _ _ => rfl) ?_
  exact zf_ri dJ0_length_8abf5_10 rfl (by rw [(zk_len t0 hp0).2]; exact h)
def wp_215 (t0 : Nat) (v1 : Int32) (m : zf_Me) (Q : Int32 → zf_Me → Prop) : Prop := (0 ≤ v1.toInt ∧ v1.toInt < (zx_sl.getD t0 0 : Nat)) ∧ Q ((zx_sb.getD t0 []).getD v1.toInt.toNat 0) m
theorem zr_215 {d : Nat} (hd : 3 ≤ d) {t0 : Nat} (hp0 : t0 < 12) {v1 : Int32} {m : zf_Me} {Q : Int32 → zf_Me → Prop} (h : wp_215 t0 v1 m Q) : zf_M d 215 [.inr (.inr (2, t0)), .inl v1] m (zf_I Q) := by
  obtain ⟨e, rfl⟩ : ∃ z, d = z + 1 := ⟨d - 1, by omega⟩
  have hl := zk_let_ok t0 hp0 v1.toInt.toNat (by have := h.1; omega)
  refine zf_M_of (Nat.le_of_ble_eq_true rfl) zm_215 (L := [some (.inr (.inr (2, t0))), some (.inl v1)]) rfl ?_
  refine zf_ld (pc' := 1) (v := .inr (.inr (2, t0))) dJ0_charAt_5068e_0 rfl (fun _ _ _ => rfl) rfl rfl rfl ?_
  refine zf_iv2 (k := 217) (pc' := 4) (r := []) dJ0_charAt_5068e_1 rfl rfl rfl rfl hp0 rfl rfl (zr_217 (Q := fun x m' => x = true ∧ m' = m) hp0 ⟨rfl, rfl⟩) (zf_kB (fun b m2 h2 => ?_))
  obtain ⟨rfl, rfl⟩ := h2
  refine zf_ib_eq (tgt := 16) (pc' := 7) dJ0_charAt_5068e_4 rfl rfl (fun g => nomatch g) (fun _ => ?_)
  refine zf_ld (pc' := 8) (v := .inr (.inr (2, t0))) dJ0_charAt_5068e_7 rfl (fun _ _ _ => rfl) rfl rfl rfl ?_
  refine zf_gfv (pc' := 11) dJ0_charAt_5068e_8 rfl rfl hp0 ?_
  refine zf_ld (pc' := 12) (v := .inl v1) dJ0_charAt_5068e_11 rfl (fun _ _ _ => rfl) rfl rfl rfl ?_
  refine zf_is (k := 219) (pc' := 15) (r := []) dJ0_charAt_5068e_12 rfl rfl rfl rfl rfl (zr_219 (Q := fun x m' => x = (zx_sb.getD t0 []).getD v1.toInt.toNat 0 ∧ m' = m2) (by omega) hp0 h.1 ⟨rfl, rfl⟩) (zf_kI (fun x m3 h2 => ?_))
  obtain ⟨rfl, rfl⟩ := h2
  exact zf_rx dJ0_charAt_5068e_15 rfl (by rw [← hl.1]; exact hl.2) h.2
