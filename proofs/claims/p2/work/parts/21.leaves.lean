/-! part 21: small methods: laid by wip/p2/leaves.py (the rows fb_.. began as the kit's) -/
theorem fb_rng (x : Int32) : -2147483648 ≤ x.toInt ∧ x.toInt < 2147483648 := by
  have h1 := Int32.le_toInt x
  have h2 := Int32.toInt_lt x
  omega
theorem fb_bmod {z : Int} (h1 : -2147483648 ≤ z) (h2 : z < 2147483648) : z.bmod (2 ^ 32) = z := by
  rw [Int.bmod_eq_of_le (by omega) (by omega)]
theorem fb_addI {x y : Int32} (h1 : -2147483648 ≤ x.toInt + y.toInt) (h2 : x.toInt + y.toInt < 2147483648) : (x + y).toInt = x.toInt + y.toInt := by
  rw [Int32.toInt_add, fb_bmod h1 h2]
theorem fb_subI {x y : Int32} (h1 : -2147483648 ≤ x.toInt - y.toInt) (h2 : x.toInt - y.toInt < 2147483648) : (x - y).toInt = x.toInt - y.toInt := by
  rw [Int32.toInt_sub, fb_bmod h1 h2]
theorem fb_mulI {x y : Int32} (h1 : -2147483648 ≤ x.toInt * y.toInt) (h2 : x.toInt * y.toInt < 2147483648) : (x * y).toInt = x.toInt * y.toInt := by
  rw [Int32.toInt_mul, fb_bmod h1 h2]
theorem fb_negI {x : Int32} (h : x.toInt ≠ -2147483648) : (-x).toInt = -x.toInt := by
  have := fb_rng x
  rw [Int32.toInt_neg, fb_bmod (by omega) (by omega)]
section
variable {sc : zx_Sc} {d nc ns : Nat} {t : zx_MT} {pc : Nat} {L : List (Option zx_V)} {S r : List zx_V} {h : List zx_C} {Q : Option zx_V → List zx_C → Prop}
theorem zw_gs {ix g pc' : Nat} {np : Nat × Nat} (hdg : decode (zx_mb t) pc = .ok (.getstatic ix, 3)) (hp : pc + 3 = pc') (hk : zx_lk zx_lG (zx_mo t) ix = some (g, np)) (hg : g < 5) (kk : zx_W sc nc ns d t pc' L (.inr (.inr (4, g)) :: S) h Q) : zx_W sc nc ns d t pc L S h Q := by
  subst hp
  refine zx_W_ins hdg rfl (fun run => ?_) rfl kk
  show zx_gs (zx_mo t) ix pc L S h nc ns = _
  unfold zx_gs
  simp only [hk]
  rw [if_pos hg]
  rfl
theorem zw_max {ix k pc' : Nat} {np : Nat × Nat} {x y : Int32} (hdg : decode (zx_mb t) pc = .ok (.invokestatic ix, 3)) (hp : pc + 3 = pc') (hk : zx_lk zx_lM (zx_mo t) ix = some (k, np)) (hkk : (decide (zx_mk (zx_m k) = 3) && (decide (k < 221) && decide (zx_cs r ≤ 8))) = true) (kk : zx_W sc nc ns d t pc' L (.inl (if x < y then y else x) :: r) h Q) : zx_W sc nc ns d t pc L (.inl y :: .inl x :: r) h Q := by
  subst hp
  simp only [Bool.and_eq_true, decide_eq_true_eq] at hkk
  refine zx_W_ins hdg rfl (fun run => ?_) rfl kk
  show zx_is run (zx_mo t) ix pc L (.inl y :: .inl x :: r) h nc ns = _
  unfold zx_is
  simp only [hk]
  rw [if_neg (fun z => by rw [hkk.1] at z; exact absurd z.1 (by decide)), if_pos ⟨hkk.2.2, hkk.2.1⟩, if_pos hkk.1]
  rfl
theorem zw_min {ix k pc' : Nat} {np : Nat × Nat} {x y : Int32} (hdg : decode (zx_mb t) pc = .ok (.invokestatic ix, 3)) (hp : pc + 3 = pc') (hk : zx_lk zx_lM (zx_mo t) ix = some (k, np)) (hkk : (decide (zx_mk (zx_m k) = 4) && (decide (k < 221) && decide (zx_cs r ≤ 8))) = true) (kk : zx_W sc nc ns d t pc' L (.inl (if y < x then y else x) :: r) h Q) : zx_W sc nc ns d t pc L (.inl y :: .inl x :: r) h Q := by
  subst hp
  simp only [Bool.and_eq_true, decide_eq_true_eq] at hkk
  refine zx_W_ins hdg rfl (fun run => ?_) rfl kk
  show zx_is run (zx_mo t) ix pc L (.inl y :: .inl x :: r) h nc ns = _
  unfold zx_is
  simp only [hk]
  rw [if_neg (fun z => by rw [hkk.1] at z; exact absurd z.1 (by decide)), if_pos ⟨hkk.2.2, hkk.2.1⟩, if_neg (fun z => by rw [hkk.1] at z; exact absurd z (by decide)), if_pos hkk.1]
  rfl
end
def zl_all (P : Nat → Nat → Prop) (i : Nat) (l : List Nat) : Prop := ∀ (j tg : Nat), l[j]? = some tg → P (i + j) tg
theorem zl_nil {P : Nat → Nat → Prop} {i : Nat} : zl_all P i [] := fun j tg h => by cases h
theorem zl_cons {P : Nat → Nat → Prop} {i a : Nat} {r : List Nat} (h : P i a) (k : zl_all P (i + 1) r) : zl_all P i (a :: r) := by
  intro j tg hj
  cases j with
  | zero => cases hj; exact h
  | succ j =>
    have e : i + (j + 1) = i + 1 + j := by omega
    rw [e]
    exact k j tg hj
section
variable {sc : zx_Sc} {d nc ns : Nat} {t : zx_MT} {pc : Nat} {L : List (Option zx_V)} {S r : List zx_V} {h : List zx_C} {Q : Option zx_V → List zx_C → Prop}
theorem zw_tsc {dflt lo hi : Int} {offs : Array Int} {len : Nat} {x : Int32} {tgd : Nat} (hdg : decode (zx_mb t) pc = .ok (.tableswitch dflt lo hi offs, len)) (hd : (pc : Int) + dflt = (tgd : Int)) (tgts : List Nat) (ht : offs.toList.map (fun o => (pc : Int) + o) = tgts.map (fun n : Nat => (n : Int))) (hsz : hi - lo + 1 = (offs.size : Int))
    (kd : (x.toInt < lo ∨ hi < x.toInt) → zx_W sc nc ns d t tgd L r h Q) (kin : zl_all (fun i tg => x.toInt = lo + (i : Int) → zx_W sc nc ns d t tg L r h Q) 0 tgts) : zx_W sc nc ns d t pc L (.inl x :: r) h Q := by
  by_cases g : x.toInt < lo ∨ hi < x.toInt
  · refine zx_W_ins hdg rfl (fun run => ?_) rfl (kd g)
    show zx_tsw dflt lo hi offs pc L (.inl x :: r) h nc ns = _
    unfold zx_tsw
    simp only
    rw [if_pos g]
    unfold zx_J
    rw [if_pos (by omega), show ((pc : Int) + dflt).toNat = tgd by omega]
    rfl
  · have hlt : (x.toInt - lo).toNat < offs.size := by omega
    have e1 : offs[(x.toInt - lo).toNat]? = some offs[(x.toInt - lo).toNat] := Array.getElem?_eq_getElem hlt
    have e2 : (offs.toList.map (fun o => (pc : Int) + o))[(x.toInt - lo).toNat]? = some ((pc : Int) + offs[(x.toInt - lo).toNat]) := by
      rw [List.getElem?_map, Array.getElem?_toList, e1]
      rfl
    rw [ht, List.getElem?_map] at e2
    cases e3 : tgts[(x.toInt - lo).toNat]? with
    | none => rw [e3] at e2; cases e2
    | some tg =>
      rw [e3] at e2
      have e4 : (tg : Int) = (pc : Int) + offs[(x.toInt - lo).toNat] := Option.some.inj e2
      refine zx_W_ins hdg rfl (fun run => ?_) rfl (kin _ tg e3 (by omega))
      show zx_tsw dflt lo hi offs pc L (.inl x :: r) h nc ns = _
      unfold zx_tsw
      simp only
      rw [if_neg g, e1]
      show zx_J pc offs[(x.toInt - lo).toNat] L r h nc ns = _
      unfold zx_J
      rw [if_pos (by omega), show ((pc : Int) + offs[(x.toInt - lo).toNat]).toNat = tg by omega]
      rfl
end
def zt_114 : zx_MT := (7, yX7_isShelf, cX7_isShelf, 1, (some FieldType.boolean), 1, 1)
theorem zm_114 : zx_m 114 = zt_114 := rfl
theorem dX7_isShelf_0 : decode cX7_isShelf 0 = .ok (.iload_n 0, 1) := by decide +kernel
theorem dX7_isShelf_1 : decode cX7_isShelf 1 = .ok (.ifCond .lt 13, 3) := by decide +kernel
theorem dX7_isShelf_4 : decode cX7_isShelf 4 = .ok (.iload_n 0, 1) := by decide +kernel
theorem dX7_isShelf_5 : decode cX7_isShelf 5 = .ok (.bipush 8, 2) := by decide +kernel
theorem dX7_isShelf_7 : decode cX7_isShelf 7 = .ok (.if_icmp .ge 7, 3) := by decide +kernel
theorem dX7_isShelf_10 : decode cX7_isShelf 10 = .ok (.iconst 1, 1) := by decide +kernel
theorem dX7_isShelf_11 : decode cX7_isShelf 11 = .ok (.goto 4, 3) := by decide +kernel
theorem dX7_isShelf_14 : decode cX7_isShelf 14 = .ok (.iconst 0, 1) := by decide +kernel
theorem dX7_isShelf_15 : decode cX7_isShelf 15 = .ok (.ireturn, 1) := by decide +kernel
theorem zc_114 {d : Nat} {s : Int32} {h : List zx_C} {Q : Option zx_V → List zx_C → Prop}   (ht : 0 ≤ s.toInt ∧ s.toInt < 8 → Q (some (.inl 1)) h) (hf : ¬ (0 ≤ s.toInt ∧ s.toInt < 8) → Q (some (.inl 0)) h) : zx_M d 114 [.inl s] h Q := by
  have el_0 : (0 : Int32).toInt = 0 := by decide
  have el_1 : (1 : Int32).toInt = 1 := by decide
  have el_8 : (8 : Int32).toInt = 8 := by decide
  refine zx_M_of (Nat.le_of_ble_eq_true rfl) zm_114 (L := [some (.inl s)]) rfl ?_
  refine zx_W_ins (pc' := 1) dX7_isShelf_0 rfl (fun _ => rfl) rfl ?_
  refine zw_if_lt (tgt := 14) (pc' := 4) dX7_isShelf_1 rfl rfl (fun g1 => ?_) (fun g1 => ?_)
  · refine zw_ic (v := 0) (pc' := 15) dX7_isShelf_14 rfl rfl ?_
    refine zw_iret dX7_isShelf_15 rfl (by decide) ?_
    exact hf (by omega)
  · refine zx_W_ins (pc' := 5) dX7_isShelf_4 rfl (fun _ => rfl) rfl ?_
    refine zw_bi (v := 8) (pc' := 7) dX7_isShelf_5 rfl rfl ?_
    refine zw_icmp_ge (tgt := 14) (pc' := 10) dX7_isShelf_7 rfl rfl (fun g2 => ?_) (fun g2 => ?_)
    · refine zw_ic (v := 0) (pc' := 15) dX7_isShelf_14 rfl rfl ?_
      refine zw_iret dX7_isShelf_15 rfl (by decide) ?_
      exact hf (by omega)
    · refine zw_ic (v := 1) (pc' := 11) dX7_isShelf_10 rfl rfl ?_
      refine zw_goto (tgt := 15) dX7_isShelf_11 rfl ?_
      refine zw_iret dX7_isShelf_15 rfl (by decide) ?_
      exact ht (by omega)
def zt_115 : zx_MT := (7, yX7_isKind, cX7_isKind, 1, (some FieldType.boolean), 1, 1)
theorem zm_115 : zx_m 115 = zt_115 := rfl
theorem dX7_isKind_0 : decode cX7_isKind 0 = .ok (.iload_n 0, 1) := by decide +kernel
theorem dX7_isKind_1 : decode cX7_isKind 1 = .ok (.ifCond .lt 13, 3) := by decide +kernel
theorem dX7_isKind_4 : decode cX7_isKind 4 = .ok (.iload_n 0, 1) := by decide +kernel
theorem dX7_isKind_5 : decode cX7_isKind 5 = .ok (.bipush 7, 2) := by decide +kernel
theorem dX7_isKind_7 : decode cX7_isKind 7 = .ok (.if_icmp .ge 7, 3) := by decide +kernel
theorem dX7_isKind_10 : decode cX7_isKind 10 = .ok (.iconst 1, 1) := by decide +kernel
theorem dX7_isKind_11 : decode cX7_isKind 11 = .ok (.goto 4, 3) := by decide +kernel
theorem dX7_isKind_14 : decode cX7_isKind 14 = .ok (.iconst 0, 1) := by decide +kernel
theorem dX7_isKind_15 : decode cX7_isKind 15 = .ok (.ireturn, 1) := by decide +kernel
theorem zc_115 {d : Nat} {s : Int32} {h : List zx_C} {Q : Option zx_V → List zx_C → Prop}   (ht : 0 ≤ s.toInt ∧ s.toInt < 7 → Q (some (.inl 1)) h) (hf : ¬ (0 ≤ s.toInt ∧ s.toInt < 7) → Q (some (.inl 0)) h) : zx_M d 115 [.inl s] h Q := by
  have el_0 : (0 : Int32).toInt = 0 := by decide
  have el_1 : (1 : Int32).toInt = 1 := by decide
  have el_7 : (7 : Int32).toInt = 7 := by decide
  refine zx_M_of (Nat.le_of_ble_eq_true rfl) zm_115 (L := [some (.inl s)]) rfl ?_
  refine zx_W_ins (pc' := 1) dX7_isKind_0 rfl (fun _ => rfl) rfl ?_
  refine zw_if_lt (tgt := 14) (pc' := 4) dX7_isKind_1 rfl rfl (fun g1 => ?_) (fun g1 => ?_)
  · refine zw_ic (v := 0) (pc' := 15) dX7_isKind_14 rfl rfl ?_
    refine zw_iret dX7_isKind_15 rfl (by decide) ?_
    exact hf (by omega)
  · refine zx_W_ins (pc' := 5) dX7_isKind_4 rfl (fun _ => rfl) rfl ?_
    refine zw_bi (v := 7) (pc' := 7) dX7_isKind_5 rfl rfl ?_
    refine zw_icmp_ge (tgt := 14) (pc' := 10) dX7_isKind_7 rfl rfl (fun g2 => ?_) (fun g2 => ?_)
    · refine zw_ic (v := 0) (pc' := 15) dX7_isKind_14 rfl rfl ?_
      refine zw_iret dX7_isKind_15 rfl (by decide) ?_
      exact hf (by omega)
    · refine zw_ic (v := 1) (pc' := 11) dX7_isKind_10 rfl rfl ?_
      refine zw_goto (tgt := 15) dX7_isKind_11 rfl ?_
      refine zw_iret dX7_isKind_15 rfl (by decide) ?_
      exact ht (by omega)
def zt_116 : zx_MT := (7, yX7_isRule, cX7_isRule, 1, (some FieldType.boolean), 1, 1)
theorem zm_116 : zx_m 116 = zt_116 := rfl
theorem dX7_isRule_0 : decode cX7_isRule 0 = .ok (.iload_n 0, 1) := by decide +kernel
theorem dX7_isRule_1 : decode cX7_isRule 1 = .ok (.ifCond .lt 12, 3) := by decide +kernel
theorem dX7_isRule_4 : decode cX7_isRule 4 = .ok (.iload_n 0, 1) := by decide +kernel
theorem dX7_isRule_5 : decode cX7_isRule 5 = .ok (.iconst 4, 1) := by decide +kernel
theorem dX7_isRule_6 : decode cX7_isRule 6 = .ok (.if_icmp .ge 7, 3) := by decide +kernel
theorem dX7_isRule_9 : decode cX7_isRule 9 = .ok (.iconst 1, 1) := by decide +kernel
theorem dX7_isRule_10 : decode cX7_isRule 10 = .ok (.goto 4, 3) := by decide +kernel
theorem dX7_isRule_13 : decode cX7_isRule 13 = .ok (.iconst 0, 1) := by decide +kernel
theorem dX7_isRule_14 : decode cX7_isRule 14 = .ok (.ireturn, 1) := by decide +kernel
theorem zc_116 {d : Nat} {s : Int32} {h : List zx_C} {Q : Option zx_V → List zx_C → Prop}   (ht : 0 ≤ s.toInt ∧ s.toInt < 4 → Q (some (.inl 1)) h) (hf : ¬ (0 ≤ s.toInt ∧ s.toInt < 4) → Q (some (.inl 0)) h) : zx_M d 116 [.inl s] h Q := by
  have el_0 : (0 : Int32).toInt = 0 := by decide
  have el_1 : (1 : Int32).toInt = 1 := by decide
  have el_4 : (4 : Int32).toInt = 4 := by decide
  refine zx_M_of (Nat.le_of_ble_eq_true rfl) zm_116 (L := [some (.inl s)]) rfl ?_
  refine zx_W_ins (pc' := 1) dX7_isRule_0 rfl (fun _ => rfl) rfl ?_
  refine zw_if_lt (tgt := 13) (pc' := 4) dX7_isRule_1 rfl rfl (fun g1 => ?_) (fun g1 => ?_)
  · refine zw_ic (v := 0) (pc' := 14) dX7_isRule_13 rfl rfl ?_
    refine zw_iret dX7_isRule_14 rfl (by decide) ?_
    exact hf (by omega)
  · refine zx_W_ins (pc' := 5) dX7_isRule_4 rfl (fun _ => rfl) rfl ?_
    refine zw_ic (v := 4) (pc' := 6) dX7_isRule_5 rfl rfl ?_
    refine zw_icmp_ge (tgt := 13) (pc' := 9) dX7_isRule_6 rfl rfl (fun g2 => ?_) (fun g2 => ?_)
    · refine zw_ic (v := 0) (pc' := 14) dX7_isRule_13 rfl rfl ?_
      refine zw_iret dX7_isRule_14 rfl (by decide) ?_
      exact hf (by omega)
    · refine zw_ic (v := 1) (pc' := 10) dX7_isRule_9 rfl rfl ?_
      refine zw_goto (tgt := 14) dX7_isRule_10 rfl ?_
      refine zw_iret dX7_isRule_14 rfl (by decide) ?_
      exact ht (by omega)
def zt_65 : zx_MT := (6, yX6_hasPerson, cX6_hasPerson, 2, (some FieldType.boolean), 1, 0)
theorem zm_65 : zx_m 65 = zt_65 := rfl
theorem dX6_hasPerson_0 : decode cX6_hasPerson 0 = .ok (.iload_n 1, 1) := by decide +kernel
theorem dX6_hasPerson_1 : decode cX6_hasPerson 1 = .ok (.ifCond .lt 15, 3) := by decide +kernel
theorem dX6_hasPerson_4 : decode cX6_hasPerson 4 = .ok (.iload_n 1, 1) := by decide +kernel
theorem dX6_hasPerson_5 : decode cX6_hasPerson 5 = .ok (.aload_n 0, 1) := by decide +kernel
theorem dX6_hasPerson_6 : decode cX6_hasPerson 6 = .ok (.getfield 28, 3) := by decide +kernel
theorem dX6_hasPerson_9 : decode cX6_hasPerson 9 = .ok (.if_icmp .ge 7, 3) := by decide +kernel
theorem dX6_hasPerson_12 : decode cX6_hasPerson 12 = .ok (.iconst 1, 1) := by decide +kernel
theorem dX6_hasPerson_13 : decode cX6_hasPerson 13 = .ok (.goto 4, 3) := by decide +kernel
theorem dX6_hasPerson_16 : decode cX6_hasPerson 16 = .ok (.iconst 0, 1) := by decide +kernel
theorem dX6_hasPerson_17 : decode cX6_hasPerson 17 = .ok (.ireturn, 1) := by decide +kernel
theorem zc_65 {d : Nat} {y a0 a1 a2 a3 : Nat} {fu pe : Int32} {q : Int32} {h : List zx_C} {Q : Option zx_V → List zx_C → Prop} (hy : h[y]? = some (.inl (6, [.inr (.inr (1, a0)), .inr (.inr (1, a1)), .inr (.inr (1, a2)), .inr (.inr (1, a3)), .inl fu, .inl pe])))  (ht : 0 ≤ q.toInt ∧ q.toInt < pe.toInt → Q (some (.inl 1)) h) (hf : ¬ (0 ≤ q.toInt ∧ q.toInt < pe.toInt) → Q (some (.inl 0)) h) : zx_M d 65 [.inr (.inr (1, y)), .inl q] h Q := by
  have el_0 : (0 : Int32).toInt = 0 := by decide
  have el_1 : (1 : Int32).toInt = 1 := by decide
  refine zx_M_of (Nat.le_of_ble_eq_true rfl) zm_65 (L := [some (.inr (.inr (1, y))), some (.inl q)]) rfl ?_
  refine zx_W_ins (pc' := 1) dX6_hasPerson_0 rfl (fun _ => rfl) rfl ?_
  refine zw_if_lt (tgt := 16) (pc' := 4) dX6_hasPerson_1 rfl rfl (fun g1 => ?_) (fun g1 => ?_)
  · refine zw_ic (v := 0) (pc' := 17) dX6_hasPerson_16 rfl rfl ?_
    refine zw_iret dX6_hasPerson_17 rfl (by decide) ?_
    exact hf (by omega)
  · refine zx_W_ins (pc' := 5) dX6_hasPerson_4 rfl (fun _ => rfl) rfl ?_
    refine zx_W_ins (pc' := 6) dX6_hasPerson_5 rfl (fun _ => rfl) rfl ?_
    refine zw_gf (pc' := 9) dX6_hasPerson_6 rfl rfl hy rfl ?_
    refine zw_icmp_ge (tgt := 16) (pc' := 12) dX6_hasPerson_9 rfl rfl (fun g2 => ?_) (fun g2 => ?_)
    · refine zw_ic (v := 0) (pc' := 17) dX6_hasPerson_16 rfl rfl ?_
      refine zw_iret dX6_hasPerson_17 rfl (by decide) ?_
      exact hf (by omega)
    · refine zw_ic (v := 1) (pc' := 13) dX6_hasPerson_12 rfl rfl ?_
      refine zw_goto (tgt := 17) dX6_hasPerson_13 rfl ?_
      refine zw_iret dX6_hasPerson_17 rfl (by decide) ?_
      exact ht (by omega)
def zt_64 : zx_MT := (6, yX6_hasFurlong, cX6_hasFurlong, 2, (some FieldType.boolean), 1, 0)
theorem zm_64 : zx_m 64 = zt_64 := rfl
theorem dX6_hasFurlong_0 : decode cX6_hasFurlong 0 = .ok (.iload_n 1, 1) := by decide +kernel
theorem dX6_hasFurlong_1 : decode cX6_hasFurlong 1 = .ok (.ifCond .lt 15, 3) := by decide +kernel
theorem dX6_hasFurlong_4 : decode cX6_hasFurlong 4 = .ok (.iload_n 1, 1) := by decide +kernel
theorem dX6_hasFurlong_5 : decode cX6_hasFurlong 5 = .ok (.aload_n 0, 1) := by decide +kernel
theorem dX6_hasFurlong_6 : decode cX6_hasFurlong 6 = .ok (.getfield 24, 3) := by decide +kernel
theorem dX6_hasFurlong_9 : decode cX6_hasFurlong 9 = .ok (.if_icmp .ge 7, 3) := by decide +kernel
theorem dX6_hasFurlong_12 : decode cX6_hasFurlong 12 = .ok (.iconst 1, 1) := by decide +kernel
theorem dX6_hasFurlong_13 : decode cX6_hasFurlong 13 = .ok (.goto 4, 3) := by decide +kernel
theorem dX6_hasFurlong_16 : decode cX6_hasFurlong 16 = .ok (.iconst 0, 1) := by decide +kernel
theorem dX6_hasFurlong_17 : decode cX6_hasFurlong 17 = .ok (.ireturn, 1) := by decide +kernel
theorem zc_64 {d : Nat} {y a0 a1 a2 a3 : Nat} {fu pe : Int32} {q : Int32} {h : List zx_C} {Q : Option zx_V → List zx_C → Prop} (hy : h[y]? = some (.inl (6, [.inr (.inr (1, a0)), .inr (.inr (1, a1)), .inr (.inr (1, a2)), .inr (.inr (1, a3)), .inl fu, .inl pe])))  (ht : 0 ≤ q.toInt ∧ q.toInt < fu.toInt → Q (some (.inl 1)) h) (hf : ¬ (0 ≤ q.toInt ∧ q.toInt < fu.toInt) → Q (some (.inl 0)) h) : zx_M d 64 [.inr (.inr (1, y)), .inl q] h Q := by
  have el_0 : (0 : Int32).toInt = 0 := by decide
  have el_1 : (1 : Int32).toInt = 1 := by decide
  refine zx_M_of (Nat.le_of_ble_eq_true rfl) zm_64 (L := [some (.inr (.inr (1, y))), some (.inl q)]) rfl ?_
  refine zx_W_ins (pc' := 1) dX6_hasFurlong_0 rfl (fun _ => rfl) rfl ?_
  refine zw_if_lt (tgt := 16) (pc' := 4) dX6_hasFurlong_1 rfl rfl (fun g1 => ?_) (fun g1 => ?_)
  · refine zw_ic (v := 0) (pc' := 17) dX6_hasFurlong_16 rfl rfl ?_
    refine zw_iret dX6_hasFurlong_17 rfl (by decide) ?_
    exact hf (by omega)
  · refine zx_W_ins (pc' := 5) dX6_hasFurlong_4 rfl (fun _ => rfl) rfl ?_
    refine zx_W_ins (pc' := 6) dX6_hasFurlong_5 rfl (fun _ => rfl) rfl ?_
    refine zw_gf (pc' := 9) dX6_hasFurlong_6 rfl rfl hy rfl ?_
    refine zw_icmp_ge (tgt := 16) (pc' := 12) dX6_hasFurlong_9 rfl rfl (fun g2 => ?_) (fun g2 => ?_)
    · refine zw_ic (v := 0) (pc' := 17) dX6_hasFurlong_16 rfl rfl ?_
      refine zw_iret dX6_hasFurlong_17 rfl (by decide) ?_
      exact hf (by omega)
    · refine zw_ic (v := 1) (pc' := 13) dX6_hasFurlong_12 rfl rfl ?_
      refine zw_goto (tgt := 17) dX6_hasFurlong_13 rfl ?_
      refine zw_iret dX6_hasFurlong_17 rfl (by decide) ?_
      exact ht (by omega)
def zt_19 : zx_MT := (3, yX3_holdsRow, cX3_holdsRow, 1, (some FieldType.boolean), 0, 0)
theorem zm_19 : zx_m 19 = zt_19 := rfl
theorem dX3_holdsRow_0 : decode cX3_holdsRow 0 = .ok (.aload_n 0, 1) := by decide +kernel
theorem dX3_holdsRow_1 : decode cX3_holdsRow 1 = .ok (.getfield 15, 3) := by decide +kernel
theorem dX3_holdsRow_4 : decode cX3_holdsRow 4 = .ok (.bipush 100, 2) := by decide +kernel
theorem dX3_holdsRow_6 : decode cX3_holdsRow 6 = .ok (.if_icmp .lt 7, 3) := by decide +kernel
theorem dX3_holdsRow_9 : decode cX3_holdsRow 9 = .ok (.iconst 1, 1) := by decide +kernel
theorem dX3_holdsRow_10 : decode cX3_holdsRow 10 = .ok (.goto 4, 3) := by decide +kernel
theorem dX3_holdsRow_13 : decode cX3_holdsRow 13 = .ok (.iconst 0, 1) := by decide +kernel
theorem dX3_holdsRow_14 : decode cX3_holdsRow 14 = .ok (.ireturn, 1) := by decide +kernel
theorem zc_19 {d : Nat} {y a0 : Nat} {ho si : Int32}  {h : List zx_C} {Q : Option zx_V → List zx_C → Prop} (hy : h[y]? = some (.inl (3, [.inr (.inr (1, a0)), .inl ho, .inl si])))  (ht : 100 ≤ ho.toInt → Q (some (.inl 1)) h) (hf : ¬ (100 ≤ ho.toInt) → Q (some (.inl 0)) h) : zx_M d 19 [.inr (.inr (1, y))] h Q := by
  have el_0 : (0 : Int32).toInt = 0 := by decide
  have el_1 : (1 : Int32).toInt = 1 := by decide
  have el_100 : (100 : Int32).toInt = 100 := by decide
  refine zx_M_of (Nat.le_of_ble_eq_true rfl) zm_19 (L := [some (.inr (.inr (1, y)))]) rfl ?_
  refine zx_W_ins (pc' := 1) dX3_holdsRow_0 rfl (fun _ => rfl) rfl ?_
  refine zw_gf (pc' := 4) dX3_holdsRow_1 rfl rfl hy rfl ?_
  refine zw_bi (v := 100) (pc' := 6) dX3_holdsRow_4 rfl rfl ?_
  refine zw_icmp_lt (tgt := 13) (pc' := 9) dX3_holdsRow_6 rfl rfl (fun g1 => ?_) (fun g1 => ?_)
  · refine zw_ic (v := 0) (pc' := 14) dX3_holdsRow_13 rfl rfl ?_
    refine zw_iret dX3_holdsRow_14 rfl (by decide) ?_
    exact hf (by omega)
  · refine zw_ic (v := 1) (pc' := 10) dX3_holdsRow_9 rfl rfl ?_
    refine zw_goto (tgt := 14) dX3_holdsRow_10 rfl ?_
    refine zw_iret dX3_holdsRow_14 rfl (by decide) ?_
    exact ht (by omega)
def zt_20 : zx_MT := (3, yX3_hasElement, cX3_hasElement, 2, (some FieldType.boolean), 1, 0)
theorem zm_20 : zx_m 20 = zt_20 := rfl
theorem dX3_hasElement_0 : decode cX3_hasElement 0 = .ok (.iload_n 1, 1) := by decide +kernel
theorem dX3_hasElement_1 : decode cX3_hasElement 1 = .ok (.ifCond .lt 15, 3) := by decide +kernel
theorem dX3_hasElement_4 : decode cX3_hasElement 4 = .ok (.iload_n 1, 1) := by decide +kernel
theorem dX3_hasElement_5 : decode cX3_hasElement 5 = .ok (.aload_n 0, 1) := by decide +kernel
theorem dX3_hasElement_6 : decode cX3_hasElement 6 = .ok (.getfield 19, 3) := by decide +kernel
theorem dX3_hasElement_9 : decode cX3_hasElement 9 = .ok (.if_icmp .ge 7, 3) := by decide +kernel
theorem dX3_hasElement_12 : decode cX3_hasElement 12 = .ok (.iconst 1, 1) := by decide +kernel
theorem dX3_hasElement_13 : decode cX3_hasElement 13 = .ok (.goto 4, 3) := by decide +kernel
theorem dX3_hasElement_16 : decode cX3_hasElement 16 = .ok (.iconst 0, 1) := by decide +kernel
theorem dX3_hasElement_17 : decode cX3_hasElement 17 = .ok (.ireturn, 1) := by decide +kernel
theorem zc_20 {d : Nat} {y a0 : Nat} {ho si : Int32} {q : Int32} {h : List zx_C} {Q : Option zx_V → List zx_C → Prop} (hy : h[y]? = some (.inl (3, [.inr (.inr (1, a0)), .inl ho, .inl si])))  (ht : 0 ≤ q.toInt ∧ q.toInt < si.toInt → Q (some (.inl 1)) h) (hf : ¬ (0 ≤ q.toInt ∧ q.toInt < si.toInt) → Q (some (.inl 0)) h) : zx_M d 20 [.inr (.inr (1, y)), .inl q] h Q := by
  have el_0 : (0 : Int32).toInt = 0 := by decide
  have el_1 : (1 : Int32).toInt = 1 := by decide
  refine zx_M_of (Nat.le_of_ble_eq_true rfl) zm_20 (L := [some (.inr (.inr (1, y))), some (.inl q)]) rfl ?_
  refine zx_W_ins (pc' := 1) dX3_hasElement_0 rfl (fun _ => rfl) rfl ?_
  refine zw_if_lt (tgt := 16) (pc' := 4) dX3_hasElement_1 rfl rfl (fun g1 => ?_) (fun g1 => ?_)
  · refine zw_ic (v := 0) (pc' := 17) dX3_hasElement_16 rfl rfl ?_
    refine zw_iret dX3_hasElement_17 rfl (by decide) ?_
    exact hf (by omega)
  · refine zx_W_ins (pc' := 5) dX3_hasElement_4 rfl (fun _ => rfl) rfl ?_
    refine zx_W_ins (pc' := 6) dX3_hasElement_5 rfl (fun _ => rfl) rfl ?_
    refine zw_gf (pc' := 9) dX3_hasElement_6 rfl rfl hy rfl ?_
    refine zw_icmp_ge (tgt := 16) (pc' := 12) dX3_hasElement_9 rfl rfl (fun g2 => ?_) (fun g2 => ?_)
    · refine zw_ic (v := 0) (pc' := 17) dX3_hasElement_16 rfl rfl ?_
      refine zw_iret dX3_hasElement_17 rfl (by decide) ?_
      exact hf (by omega)
    · refine zw_ic (v := 1) (pc' := 13) dX3_hasElement_12 rfl rfl ?_
      refine zw_goto (tgt := 17) dX3_hasElement_13 rfl ?_
      refine zw_iret dX3_hasElement_17 rfl (by decide) ?_
      exact ht (by omega)
def zt_127 : zx_MT := (8, yX8_isShelf, cX8_isShelf, 2, (some FieldType.boolean), 1, 0)
theorem zm_127 : zx_m 127 = zt_127 := rfl
theorem dX8_isShelf_0 : decode cX8_isShelf 0 = .ok (.iload_n 1, 1) := by decide +kernel
theorem dX8_isShelf_1 : decode cX8_isShelf 1 = .ok (.ifCond .lt 13, 3) := by decide +kernel
theorem dX8_isShelf_4 : decode cX8_isShelf 4 = .ok (.iload_n 1, 1) := by decide +kernel
theorem dX8_isShelf_5 : decode cX8_isShelf 5 = .ok (.bipush 8, 2) := by decide +kernel
theorem dX8_isShelf_7 : decode cX8_isShelf 7 = .ok (.if_icmp .ge 7, 3) := by decide +kernel
theorem dX8_isShelf_10 : decode cX8_isShelf 10 = .ok (.iconst 1, 1) := by decide +kernel
theorem dX8_isShelf_11 : decode cX8_isShelf 11 = .ok (.goto 4, 3) := by decide +kernel
theorem dX8_isShelf_14 : decode cX8_isShelf 14 = .ok (.iconst 0, 1) := by decide +kernel
theorem dX8_isShelf_15 : decode cX8_isShelf 15 = .ok (.ireturn, 1) := by decide +kernel
theorem zc_127 {d : Nat} {m0 : Nat} {s : Int32} {h : List zx_C} {Q : Option zx_V → List zx_C → Prop}   (ht : 0 ≤ s.toInt ∧ s.toInt < 8 → Q (some (.inl 1)) h) (hf : ¬ (0 ≤ s.toInt ∧ s.toInt < 8) → Q (some (.inl 0)) h) : zx_M d 127 [.inr (.inr (1, m0)), .inl s] h Q := by
  have el_0 : (0 : Int32).toInt = 0 := by decide
  have el_1 : (1 : Int32).toInt = 1 := by decide
  have el_8 : (8 : Int32).toInt = 8 := by decide
  refine zx_M_of (Nat.le_of_ble_eq_true rfl) zm_127 (L := [some (.inr (.inr (1, m0))), some (.inl s)]) rfl ?_
  refine zx_W_ins (pc' := 1) dX8_isShelf_0 rfl (fun _ => rfl) rfl ?_
  refine zw_if_lt (tgt := 14) (pc' := 4) dX8_isShelf_1 rfl rfl (fun g1 => ?_) (fun g1 => ?_)
  · refine zw_ic (v := 0) (pc' := 15) dX8_isShelf_14 rfl rfl ?_
    refine zw_iret dX8_isShelf_15 rfl (by decide) ?_
    exact hf (by omega)
  · refine zx_W_ins (pc' := 5) dX8_isShelf_4 rfl (fun _ => rfl) rfl ?_
    refine zw_bi (v := 8) (pc' := 7) dX8_isShelf_5 rfl rfl ?_
    refine zw_icmp_ge (tgt := 14) (pc' := 10) dX8_isShelf_7 rfl rfl (fun g2 => ?_) (fun g2 => ?_)
    · refine zw_ic (v := 0) (pc' := 15) dX8_isShelf_14 rfl rfl ?_
      refine zw_iret dX8_isShelf_15 rfl (by decide) ?_
      exact hf (by omega)
    · refine zw_ic (v := 1) (pc' := 11) dX8_isShelf_10 rfl rfl ?_
      refine zw_goto (tgt := 15) dX8_isShelf_11 rfl ?_
      refine zw_iret dX8_isShelf_15 rfl (by decide) ?_
      exact ht (by omega)
def zt_180 : zx_MT := (8, yX8_isRule, cX8_isRule, 2, (some FieldType.boolean), 1, 0)
theorem zm_180 : zx_m 180 = zt_180 := rfl
theorem dX8_isRule_0 : decode cX8_isRule 0 = .ok (.iload_n 1, 1) := by decide +kernel
theorem dX8_isRule_1 : decode cX8_isRule 1 = .ok (.ifCond .lt 12, 3) := by decide +kernel
theorem dX8_isRule_4 : decode cX8_isRule 4 = .ok (.iload_n 1, 1) := by decide +kernel
theorem dX8_isRule_5 : decode cX8_isRule 5 = .ok (.iconst 3, 1) := by decide +kernel
theorem dX8_isRule_6 : decode cX8_isRule 6 = .ok (.if_icmp .gt 7, 3) := by decide +kernel
theorem dX8_isRule_9 : decode cX8_isRule 9 = .ok (.iconst 1, 1) := by decide +kernel
theorem dX8_isRule_10 : decode cX8_isRule 10 = .ok (.goto 4, 3) := by decide +kernel
theorem dX8_isRule_13 : decode cX8_isRule 13 = .ok (.iconst 0, 1) := by decide +kernel
theorem dX8_isRule_14 : decode cX8_isRule 14 = .ok (.ireturn, 1) := by decide +kernel
theorem zc_180 {d : Nat} {m0 : Nat} {s : Int32} {h : List zx_C} {Q : Option zx_V → List zx_C → Prop}   (ht : 0 ≤ s.toInt ∧ s.toInt ≤ 3 → Q (some (.inl 1)) h) (hf : ¬ (0 ≤ s.toInt ∧ s.toInt ≤ 3) → Q (some (.inl 0)) h) : zx_M d 180 [.inr (.inr (1, m0)), .inl s] h Q := by
  have el_0 : (0 : Int32).toInt = 0 := by decide
  have el_1 : (1 : Int32).toInt = 1 := by decide
  have el_3 : (3 : Int32).toInt = 3 := by decide
  refine zx_M_of (Nat.le_of_ble_eq_true rfl) zm_180 (L := [some (.inr (.inr (1, m0))), some (.inl s)]) rfl ?_
  refine zx_W_ins (pc' := 1) dX8_isRule_0 rfl (fun _ => rfl) rfl ?_
  refine zw_if_lt (tgt := 13) (pc' := 4) dX8_isRule_1 rfl rfl (fun g1 => ?_) (fun g1 => ?_)
  · refine zw_ic (v := 0) (pc' := 14) dX8_isRule_13 rfl rfl ?_
    refine zw_iret dX8_isRule_14 rfl (by decide) ?_
    exact hf (by omega)
  · refine zx_W_ins (pc' := 5) dX8_isRule_4 rfl (fun _ => rfl) rfl ?_
    refine zw_ic (v := 3) (pc' := 6) dX8_isRule_5 rfl rfl ?_
    refine zw_icmp_gt (tgt := 13) (pc' := 9) dX8_isRule_6 rfl rfl (fun g2 => ?_) (fun g2 => ?_)
    · refine zw_ic (v := 0) (pc' := 14) dX8_isRule_13 rfl rfl ?_
      refine zw_iret dX8_isRule_14 rfl (by decide) ?_
      exact hf (by omega)
    · refine zw_ic (v := 1) (pc' := 10) dX8_isRule_9 rfl rfl ?_
      refine zw_goto (tgt := 14) dX8_isRule_10 rfl ?_
      refine zw_iret dX8_isRule_14 rfl (by decide) ?_
      exact ht (by omega)
def zt_128 : zx_MT := (8, yX8_isPerson, cX8_isPerson, 2, (some FieldType.boolean), 1, 0)
theorem zm_128 : zx_m 128 = zt_128 := rfl
theorem dX8_isPerson_0 : decode cX8_isPerson 0 = .ok (.iload_n 1, 1) := by decide +kernel
theorem dX8_isPerson_1 : decode cX8_isPerson 1 = .ok (.ifCond .lt 15, 3) := by decide +kernel
theorem dX8_isPerson_4 : decode cX8_isPerson 4 = .ok (.iload_n 1, 1) := by decide +kernel
theorem dX8_isPerson_5 : decode cX8_isPerson 5 = .ok (.aload_n 0, 1) := by decide +kernel
theorem dX8_isPerson_6 : decode cX8_isPerson 6 = .ok (.getfield 105, 3) := by decide +kernel
theorem dX8_isPerson_9 : decode cX8_isPerson 9 = .ok (.if_icmp .ge 7, 3) := by decide +kernel
theorem dX8_isPerson_12 : decode cX8_isPerson 12 = .ok (.iconst 1, 1) := by decide +kernel
theorem dX8_isPerson_13 : decode cX8_isPerson 13 = .ok (.goto 4, 3) := by decide +kernel
theorem dX8_isPerson_16 : decode cX8_isPerson 16 = .ok (.iconst 0, 1) := by decide +kernel
theorem dX8_isPerson_17 : decode cX8_isPerson 17 = .ok (.ireturn, 1) := by decide +kernel
theorem zc_128 {d : Nat} {m_furlongs : Int32} {m_many : Int32} {m_bagged : Int32} {m_legs : Int32} {m_most : Int32} {m_nap : Int32} {m_on : Int32} {m_biscuits : Int32} {m_races : Int32} {m_worn : Int32} {m_here : Int32} {m_minutes : Int32} {m_seed : Int32} {m_fault : Int32} {m_base : Int32} {m_at : Int32} {m_end : Int32} {m_number : Int32} {m_wrongAt : Int32} {m_bestMany : Int32} {m_bestHere : Int32} {m_bestWorn : Int32} {m_bestMinutes : Int32} {m_turn : Int32} {m_ever : Int32} {m_made : Int32} {m_ruleHere : Int32} {m_ruleMinutes : Int32} {m_ruleEver : Int32} {m_ran : Int32} {m_isKept : Int32} {q : Int32} {h : List zx_C} {Q : Option zx_V → List zx_C → Prop} (hy : h[63]? = some (.inl (8, [.inl m_furlongs, .inl m_many, .inl m_bagged, .inl m_legs, .inl m_most, .inl m_nap, .inl m_on, .inl m_biscuits, .inl m_races, .inl m_worn, .inl m_here, .inl m_minutes, .inl m_seed, .inl m_fault, .inr (.inr (1, 64)), .inr (.inr (1, 65)), .inr (.inr (1, 66)), .inr (.inr (1, 67)), .inr (.inr (1, 68)), .inr (.inr (1, 69)), .inr (.inr (1, 70)), .inr (.inr (1, 71)), .inr (.inr (1, 72)), .inr (.inr (1, 73)), .inr (.inr (1, 74)), .inr (.inr (1, 75)), .inr (.inr (1, 76)), .inr (.inr (1, 77)), .inr (.inr (1, 78)), .inl m_base, .inl m_at, .inl m_end, .inl m_number, .inl m_wrongAt, .inr (.inr (1, 79)), .inr (.inr (1, 80)), .inr (.inr (1, 81)), .inr (.inr (1, 82)), .inr (.inr (1, 83)), .inr (.inr (1, 84)), .inl m_bestMany, .inl m_bestHere, .inl m_bestWorn, .inl m_bestMinutes, .inl m_turn, .inl m_ever, .inl m_made, .inl m_ruleHere, .inl m_ruleMinutes, .inl m_ruleEver, .inr (.inr (1, 85)), .inl m_ran, .inl m_isKept])))  (ht : 0 ≤ q.toInt ∧ q.toInt < m_many.toInt → Q (some (.inl 1)) h) (hf : ¬ (0 ≤ q.toInt ∧ q.toInt < m_many.toInt) → Q (some (.inl 0)) h) : zx_M d 128 [.inr (.inr (1, 63)), .inl q] h Q := by
  have el_0 : (0 : Int32).toInt = 0 := by decide
  have el_1 : (1 : Int32).toInt = 1 := by decide
  refine zx_M_of (Nat.le_of_ble_eq_true rfl) zm_128 (L := [some (.inr (.inr (1, 63))), some (.inl q)]) rfl ?_
  refine zx_W_ins (pc' := 1) dX8_isPerson_0 rfl (fun _ => rfl) rfl ?_
  refine zw_if_lt (tgt := 16) (pc' := 4) dX8_isPerson_1 rfl rfl (fun g1 => ?_) (fun g1 => ?_)
  · refine zw_ic (v := 0) (pc' := 17) dX8_isPerson_16 rfl rfl ?_
    refine zw_iret dX8_isPerson_17 rfl (by decide) ?_
    exact hf (by omega)
  · refine zx_W_ins (pc' := 5) dX8_isPerson_4 rfl (fun _ => rfl) rfl ?_
    refine zx_W_ins (pc' := 6) dX8_isPerson_5 rfl (fun _ => rfl) rfl ?_
    refine zw_gf (pc' := 9) dX8_isPerson_6 rfl rfl hy rfl ?_
    refine zw_icmp_ge (tgt := 16) (pc' := 12) dX8_isPerson_9 rfl rfl (fun g2 => ?_) (fun g2 => ?_)
    · refine zw_ic (v := 0) (pc' := 17) dX8_isPerson_16 rfl rfl ?_
      refine zw_iret dX8_isPerson_17 rfl (by decide) ?_
      exact hf (by omega)
    · refine zw_ic (v := 1) (pc' := 13) dX8_isPerson_12 rfl rfl ?_
      refine zw_goto (tgt := 17) dX8_isPerson_13 rfl ?_
      refine zw_iret dX8_isPerson_17 rfl (by decide) ?_
      exact ht (by omega)
def zt_129 : zx_MT := (8, yX8_isFurlong, cX8_isFurlong, 2, (some FieldType.boolean), 1, 0)
theorem zm_129 : zx_m 129 = zt_129 := rfl
theorem dX8_isFurlong_0 : decode cX8_isFurlong 0 = .ok (.iload_n 1, 1) := by decide +kernel
theorem dX8_isFurlong_1 : decode cX8_isFurlong 1 = .ok (.ifCond .lt 15, 3) := by decide +kernel
theorem dX8_isFurlong_4 : decode cX8_isFurlong 4 = .ok (.iload_n 1, 1) := by decide +kernel
theorem dX8_isFurlong_5 : decode cX8_isFurlong 5 = .ok (.aload_n 0, 1) := by decide +kernel
theorem dX8_isFurlong_6 : decode cX8_isFurlong 6 = .ok (.getfield 108, 3) := by decide +kernel
theorem dX8_isFurlong_9 : decode cX8_isFurlong 9 = .ok (.if_icmp .ge 7, 3) := by decide +kernel
theorem dX8_isFurlong_12 : decode cX8_isFurlong 12 = .ok (.iconst 1, 1) := by decide +kernel
theorem dX8_isFurlong_13 : decode cX8_isFurlong 13 = .ok (.goto 4, 3) := by decide +kernel
theorem dX8_isFurlong_16 : decode cX8_isFurlong 16 = .ok (.iconst 0, 1) := by decide +kernel
theorem dX8_isFurlong_17 : decode cX8_isFurlong 17 = .ok (.ireturn, 1) := by decide +kernel
theorem zc_129 {d : Nat} {m_furlongs : Int32} {m_many : Int32} {m_bagged : Int32} {m_legs : Int32} {m_most : Int32} {m_nap : Int32} {m_on : Int32} {m_biscuits : Int32} {m_races : Int32} {m_worn : Int32} {m_here : Int32} {m_minutes : Int32} {m_seed : Int32} {m_fault : Int32} {m_base : Int32} {m_at : Int32} {m_end : Int32} {m_number : Int32} {m_wrongAt : Int32} {m_bestMany : Int32} {m_bestHere : Int32} {m_bestWorn : Int32} {m_bestMinutes : Int32} {m_turn : Int32} {m_ever : Int32} {m_made : Int32} {m_ruleHere : Int32} {m_ruleMinutes : Int32} {m_ruleEver : Int32} {m_ran : Int32} {m_isKept : Int32} {q : Int32} {h : List zx_C} {Q : Option zx_V → List zx_C → Prop} (hy : h[63]? = some (.inl (8, [.inl m_furlongs, .inl m_many, .inl m_bagged, .inl m_legs, .inl m_most, .inl m_nap, .inl m_on, .inl m_biscuits, .inl m_races, .inl m_worn, .inl m_here, .inl m_minutes, .inl m_seed, .inl m_fault, .inr (.inr (1, 64)), .inr (.inr (1, 65)), .inr (.inr (1, 66)), .inr (.inr (1, 67)), .inr (.inr (1, 68)), .inr (.inr (1, 69)), .inr (.inr (1, 70)), .inr (.inr (1, 71)), .inr (.inr (1, 72)), .inr (.inr (1, 73)), .inr (.inr (1, 74)), .inr (.inr (1, 75)), .inr (.inr (1, 76)), .inr (.inr (1, 77)), .inr (.inr (1, 78)), .inl m_base, .inl m_at, .inl m_end, .inl m_number, .inl m_wrongAt, .inr (.inr (1, 79)), .inr (.inr (1, 80)), .inr (.inr (1, 81)), .inr (.inr (1, 82)), .inr (.inr (1, 83)), .inr (.inr (1, 84)), .inl m_bestMany, .inl m_bestHere, .inl m_bestWorn, .inl m_bestMinutes, .inl m_turn, .inl m_ever, .inl m_made, .inl m_ruleHere, .inl m_ruleMinutes, .inl m_ruleEver, .inr (.inr (1, 85)), .inl m_ran, .inl m_isKept])))  (ht : 0 ≤ q.toInt ∧ q.toInt < m_furlongs.toInt → Q (some (.inl 1)) h) (hf : ¬ (0 ≤ q.toInt ∧ q.toInt < m_furlongs.toInt) → Q (some (.inl 0)) h) : zx_M d 129 [.inr (.inr (1, 63)), .inl q] h Q := by
  have el_0 : (0 : Int32).toInt = 0 := by decide
  have el_1 : (1 : Int32).toInt = 1 := by decide
  refine zx_M_of (Nat.le_of_ble_eq_true rfl) zm_129 (L := [some (.inr (.inr (1, 63))), some (.inl q)]) rfl ?_
  refine zx_W_ins (pc' := 1) dX8_isFurlong_0 rfl (fun _ => rfl) rfl ?_
  refine zw_if_lt (tgt := 16) (pc' := 4) dX8_isFurlong_1 rfl rfl (fun g1 => ?_) (fun g1 => ?_)
  · refine zw_ic (v := 0) (pc' := 17) dX8_isFurlong_16 rfl rfl ?_
    refine zw_iret dX8_isFurlong_17 rfl (by decide) ?_
    exact hf (by omega)
  · refine zx_W_ins (pc' := 5) dX8_isFurlong_4 rfl (fun _ => rfl) rfl ?_
    refine zx_W_ins (pc' := 6) dX8_isFurlong_5 rfl (fun _ => rfl) rfl ?_
    refine zw_gf (pc' := 9) dX8_isFurlong_6 rfl rfl hy rfl ?_
    refine zw_icmp_ge (tgt := 16) (pc' := 12) dX8_isFurlong_9 rfl rfl (fun g2 => ?_) (fun g2 => ?_)
    · refine zw_ic (v := 0) (pc' := 17) dX8_isFurlong_16 rfl rfl ?_
      refine zw_iret dX8_isFurlong_17 rfl (by decide) ?_
      exact hf (by omega)
    · refine zw_ic (v := 1) (pc' := 13) dX8_isFurlong_12 rfl rfl ?_
      refine zw_goto (tgt := 17) dX8_isFurlong_13 rfl ?_
      refine zw_iret dX8_isFurlong_17 rfl (by decide) ?_
      exact ht (by omega)
def zt_164 : zx_MT := (8, yX8_isAsleep, cX8_isAsleep, 1, (some FieldType.boolean), 0, 0)
theorem zm_164 : zx_m 164 = zt_164 := rfl
theorem dX8_isAsleep_0 : decode cX8_isAsleep 0 = .ok (.aload_n 0, 1) := by decide +kernel
theorem dX8_isAsleep_1 : decode cX8_isAsleep 1 = .ok (.getfield 204, 3) := by decide +kernel
theorem dX8_isAsleep_4 : decode cX8_isAsleep 4 = .ok (.aload_n 0, 1) := by decide +kernel
theorem dX8_isAsleep_5 : decode cX8_isAsleep 5 = .ok (.getfield 19, 3) := by decide +kernel
theorem dX8_isAsleep_8 : decode cX8_isAsleep 8 = .ok (.if_icmp .lt 7, 3) := by decide +kernel
theorem dX8_isAsleep_11 : decode cX8_isAsleep 11 = .ok (.iconst 1, 1) := by decide +kernel
theorem dX8_isAsleep_12 : decode cX8_isAsleep 12 = .ok (.goto 4, 3) := by decide +kernel
theorem dX8_isAsleep_15 : decode cX8_isAsleep 15 = .ok (.iconst 0, 1) := by decide +kernel
theorem dX8_isAsleep_16 : decode cX8_isAsleep 16 = .ok (.ireturn, 1) := by decide +kernel
theorem zc_164 {d : Nat} {m_furlongs : Int32} {m_many : Int32} {m_bagged : Int32} {m_legs : Int32} {m_most : Int32} {m_nap : Int32} {m_on : Int32} {m_biscuits : Int32} {m_races : Int32} {m_worn : Int32} {m_here : Int32} {m_minutes : Int32} {m_seed : Int32} {m_fault : Int32} {m_base : Int32} {m_at : Int32} {m_end : Int32} {m_number : Int32} {m_wrongAt : Int32} {m_bestMany : Int32} {m_bestHere : Int32} {m_bestWorn : Int32} {m_bestMinutes : Int32} {m_turn : Int32} {m_ever : Int32} {m_made : Int32} {m_ruleHere : Int32} {m_ruleMinutes : Int32} {m_ruleEver : Int32} {m_ran : Int32} {m_isKept : Int32}  {h : List zx_C} {Q : Option zx_V → List zx_C → Prop} (hy : h[63]? = some (.inl (8, [.inl m_furlongs, .inl m_many, .inl m_bagged, .inl m_legs, .inl m_most, .inl m_nap, .inl m_on, .inl m_biscuits, .inl m_races, .inl m_worn, .inl m_here, .inl m_minutes, .inl m_seed, .inl m_fault, .inr (.inr (1, 64)), .inr (.inr (1, 65)), .inr (.inr (1, 66)), .inr (.inr (1, 67)), .inr (.inr (1, 68)), .inr (.inr (1, 69)), .inr (.inr (1, 70)), .inr (.inr (1, 71)), .inr (.inr (1, 72)), .inr (.inr (1, 73)), .inr (.inr (1, 74)), .inr (.inr (1, 75)), .inr (.inr (1, 76)), .inr (.inr (1, 77)), .inr (.inr (1, 78)), .inl m_base, .inl m_at, .inl m_end, .inl m_number, .inl m_wrongAt, .inr (.inr (1, 79)), .inr (.inr (1, 80)), .inr (.inr (1, 81)), .inr (.inr (1, 82)), .inr (.inr (1, 83)), .inr (.inr (1, 84)), .inl m_bestMany, .inl m_bestHere, .inl m_bestWorn, .inl m_bestMinutes, .inl m_turn, .inl m_ever, .inl m_made, .inl m_ruleHere, .inl m_ruleMinutes, .inl m_ruleEver, .inr (.inr (1, 85)), .inl m_ran, .inl m_isKept])))  (ht : m_nap.toInt ≤ m_on.toInt → Q (some (.inl 1)) h) (hf : ¬ (m_nap.toInt ≤ m_on.toInt) → Q (some (.inl 0)) h) : zx_M d 164 [.inr (.inr (1, 63))] h Q := by
  have el_0 : (0 : Int32).toInt = 0 := by decide
  have el_1 : (1 : Int32).toInt = 1 := by decide
  refine zx_M_of (Nat.le_of_ble_eq_true rfl) zm_164 (L := [some (.inr (.inr (1, 63)))]) rfl ?_
  refine zx_W_ins (pc' := 1) dX8_isAsleep_0 rfl (fun _ => rfl) rfl ?_
  refine zw_gf (pc' := 4) dX8_isAsleep_1 rfl rfl hy rfl ?_
  refine zx_W_ins (pc' := 5) dX8_isAsleep_4 rfl (fun _ => rfl) rfl ?_
  refine zw_gf (pc' := 8) dX8_isAsleep_5 rfl rfl hy rfl ?_
  refine zw_icmp_lt (tgt := 15) (pc' := 11) dX8_isAsleep_8 rfl rfl (fun g1 => ?_) (fun g1 => ?_)
  · refine zw_ic (v := 0) (pc' := 16) dX8_isAsleep_15 rfl rfl ?_
    refine zw_iret dX8_isAsleep_16 rfl (by decide) ?_
    exact hf (by omega)
  · refine zw_ic (v := 1) (pc' := 12) dX8_isAsleep_11 rfl rfl ?_
    refine zw_goto (tgt := 16) dX8_isAsleep_12 rfl ?_
    refine zw_iret dX8_isAsleep_16 rfl (by decide) ?_
    exact ht (by omega)
def zt_48 : zx_MT := (5, yX5_asleep, cX5_asleep, 1, (some FieldType.boolean), 0, 0)
theorem zm_48 : zx_m 48 = zt_48 := rfl
theorem dX5_asleep_0 : decode cX5_asleep 0 = .ok (.aload_n 0, 1) := by decide +kernel
theorem dX5_asleep_1 : decode cX5_asleep 1 = .ok (.getfield 28, 3) := by decide +kernel
theorem dX5_asleep_4 : decode cX5_asleep 4 = .ok (.aload_n 0, 1) := by decide +kernel
theorem dX5_asleep_5 : decode cX5_asleep 5 = .ok (.getfield 25, 3) := by decide +kernel
theorem dX5_asleep_8 : decode cX5_asleep 8 = .ok (.if_icmp .lt 7, 3) := by decide +kernel
theorem dX5_asleep_11 : decode cX5_asleep 11 = .ok (.iconst 1, 1) := by decide +kernel
theorem dX5_asleep_12 : decode cX5_asleep 12 = .ok (.goto 4, 3) := by decide +kernel
theorem dX5_asleep_15 : decode cX5_asleep 15 = .ok (.iconst 0, 1) := by decide +kernel
theorem dX5_asleep_16 : decode cX5_asleep 16 = .ok (.ireturn, 1) := by decide +kernel
theorem zc_48 {d : Nat} {y a0 a1 : Nat} {bg mo le na on bi ra wo he mi se : Int32}  {h : List zx_C} {Q : Option zx_V → List zx_C → Prop} (hy : h[y]? = some (.inl (5, [.inr (.inr (1, a0)), .inr (.inr (1, a1)), .inl bg, .inl mo, .inl le, .inl na, .inl on, .inl bi, .inl ra, .inl wo, .inl he, .inl mi, .inl se])))  (ht : na.toInt ≤ on.toInt → Q (some (.inl 1)) h) (hf : ¬ (na.toInt ≤ on.toInt) → Q (some (.inl 0)) h) : zx_M d 48 [.inr (.inr (1, y))] h Q := by
  have el_0 : (0 : Int32).toInt = 0 := by decide
  have el_1 : (1 : Int32).toInt = 1 := by decide
  refine zx_M_of (Nat.le_of_ble_eq_true rfl) zm_48 (L := [some (.inr (.inr (1, y)))]) rfl ?_
  refine zx_W_ins (pc' := 1) dX5_asleep_0 rfl (fun _ => rfl) rfl ?_
  refine zw_gf (pc' := 4) dX5_asleep_1 rfl rfl hy rfl ?_
  refine zx_W_ins (pc' := 5) dX5_asleep_4 rfl (fun _ => rfl) rfl ?_
  refine zw_gf (pc' := 8) dX5_asleep_5 rfl rfl hy rfl ?_
  refine zw_icmp_lt (tgt := 15) (pc' := 11) dX5_asleep_8 rfl rfl (fun g1 => ?_) (fun g1 => ?_)
  · refine zw_ic (v := 0) (pc' := 16) dX5_asleep_15 rfl rfl ?_
    refine zw_iret dX5_asleep_16 rfl (by decide) ?_
    exact hf (by omega)
  · refine zw_ic (v := 1) (pc' := 12) dX5_asleep_11 rfl rfl ?_
    refine zw_goto (tgt := 16) dX5_asleep_12 rfl ?_
    refine zw_iret dX5_asleep_16 rfl (by decide) ?_
    exact ht (by omega)
def zt_47 : zx_MT := (5, yX5_atEnd, cX5_atEnd, 1, (some FieldType.boolean), 0, 0)
theorem zm_47 : zx_m 47 = zt_47 := rfl
theorem dX5_atEnd_0 : decode cX5_atEnd 0 = .ok (.aload_n 0, 1) := by decide +kernel
theorem dX5_atEnd_1 : decode cX5_atEnd 1 = .ok (.getfield 40, 3) := by decide +kernel
theorem dX5_atEnd_4 : decode cX5_atEnd 4 = .ok (.aload_n 0, 1) := by decide +kernel
theorem dX5_atEnd_5 : decode cX5_atEnd 5 = .ok (.getfield 49, 3) := by decide +kernel
theorem dX5_atEnd_8 : decode cX5_atEnd 8 = .ok (.getfield 76, 3) := by decide +kernel
theorem dX5_atEnd_11 : decode cX5_atEnd 11 = .ok (.if_icmp .lt 7, 3) := by decide +kernel
theorem dX5_atEnd_14 : decode cX5_atEnd 14 = .ok (.iconst 1, 1) := by decide +kernel
theorem dX5_atEnd_15 : decode cX5_atEnd 15 = .ok (.goto 4, 3) := by decide +kernel
theorem dX5_atEnd_18 : decode cX5_atEnd 18 = .ok (.iconst 0, 1) := by decide +kernel
theorem dX5_atEnd_19 : decode cX5_atEnd 19 = .ok (.ireturn, 1) := by decide +kernel
theorem zc_47 {d : Nat} {y a0 a1 : Nat} {bg mo le na on bi ra wo he mi se : Int32} {b0 b1 b2 b3 : Nat} {fu pe : Int32}  {h : List zx_C} {Q : Option zx_V → List zx_C → Prop} (hy : h[y]? = some (.inl (5, [.inr (.inr (1, a0)), .inr (.inr (1, a1)), .inl bg, .inl mo, .inl le, .inl na, .inl on, .inl bi, .inl ra, .inl wo, .inl he, .inl mi, .inl se]))) (hz : h[a0]? = some (.inl (6, [.inr (.inr (1, b0)), .inr (.inr (1, b1)), .inr (.inr (1, b2)), .inr (.inr (1, b3)), .inl fu, .inl pe])))  (ht : fu.toInt ≤ he.toInt → Q (some (.inl 1)) h) (hf : ¬ (fu.toInt ≤ he.toInt) → Q (some (.inl 0)) h) : zx_M d 47 [.inr (.inr (1, y))] h Q := by
  have el_0 : (0 : Int32).toInt = 0 := by decide
  have el_1 : (1 : Int32).toInt = 1 := by decide
  refine zx_M_of (Nat.le_of_ble_eq_true rfl) zm_47 (L := [some (.inr (.inr (1, y)))]) rfl ?_
  refine zx_W_ins (pc' := 1) dX5_atEnd_0 rfl (fun _ => rfl) rfl ?_
  refine zw_gf (pc' := 4) dX5_atEnd_1 rfl rfl hy rfl ?_
  refine zx_W_ins (pc' := 5) dX5_atEnd_4 rfl (fun _ => rfl) rfl ?_
  refine zw_gf (pc' := 8) dX5_atEnd_5 rfl rfl hy rfl ?_
  refine zw_gf (pc' := 11) dX5_atEnd_8 rfl rfl hz rfl ?_
  refine zw_icmp_lt (tgt := 18) (pc' := 14) dX5_atEnd_11 rfl rfl (fun g1 => ?_) (fun g1 => ?_)
  · refine zw_ic (v := 0) (pc' := 19) dX5_atEnd_18 rfl rfl ?_
    refine zw_iret dX5_atEnd_19 rfl (by decide) ?_
    exact hf (by omega)
  · refine zw_ic (v := 1) (pc' := 15) dX5_atEnd_14 rfl rfl ?_
    refine zw_goto (tgt := 19) dX5_atEnd_15 rfl ?_
    refine zw_iret dX5_atEnd_19 rfl (by decide) ?_
    exact ht (by omega)
