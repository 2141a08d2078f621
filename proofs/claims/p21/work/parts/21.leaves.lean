/-! part 21: small methods: laid by wip/p2/leaves.py (the rows fb_.. began as the kit's) -/
theorem fb_rng (x : Int32) : -2147483648 ≤ x.toInt ∧ x.toInt < 2147483648 := by
  have h1 := Int32.le_toInt x
  have h2 := Int32.toInt_lt x
  omega
theorem fb_bmod {z : Int} (h1 : -2147483648 ≤ z) (h2 : z < 2147483648) : z.bmod (2 ^ 32) = z := by
  rw [Int.bmod_eq_of_le (by omega) (by omega)]
theorem fb_addI {x y : Int32} (h1 : -2147483648 ≤ x.toInt + y.toInt) (h2 : x.toInt + y.toInt < 2147483648) : (x + y).toInt = x.toInt + y.toInt := by
  rw [Int32.toInt_add, fb_bmod h1 h2]
theorem fb_subI {x y : Int32} (h1 : -2147483648 ≤ x.toInt - y.toInt) (h2 : x.toInt - y.toInt < 2147483648) : (x - y).toInt = x.toInt - y.toInt := by
  rw [Int32.toInt_sub, fb_bmod h1 h2]
theorem fb_mulI {x y : Int32} (h1 : -2147483648 ≤ x.toInt * y.toInt) (h2 : x.toInt * y.toInt < 2147483648) : (x * y).toInt = x.toInt * y.toInt := by
  rw [Int32.toInt_mul, fb_bmod h1 h2]
theorem fb_negI {x : Int32} (h : x.toInt ≠ -2147483648) : (-x).toInt = -x.toInt := by
  have := fb_rng x
  rw [Int32.toInt_neg, fb_bmod (by omega) (by omega)]
section
variable {sc : zx_Sc} {d nc ns : Nat} {t : zx_MT} {pc : Nat} {L : List (Option zx_V)} {S r : List zx_V} {h : List zx_C} {Q : Option zx_V → List zx_C → Prop}
theorem zw_gs {ix g pc' : Nat} {np : Nat × Nat} (hdg : decode (zx_mb t) pc = .ok (.getstatic ix, 3)) (hp : pc + 3 = pc') (hk : zx_lk zx_lG (zx_mo t) ix = some (g, np)) (hg : g < 5) (kk : zx_W sc nc ns d t pc' L (.inr (.inr (4, g)) :: S) h Q) : zx_W sc nc ns d t pc L S h Q := by
  subst hp
  refine zx_W_ins hdg rfl (fun run => ?_) rfl kk
  show zx_gs (zx_mo t) ix pc L S h nc ns = _
  unfold zx_gs
  simp only [hk]
  rw [if_pos hg]
  rfl
theorem zw_max {ix k pc' : Nat} {np : Nat × Nat} {x y : Int32} (hdg : decode (zx_mb t) pc = .ok (.invokestatic ix, 3)) (hp : pc + 3 = pc') (hk : zx_lk zx_lM (zx_mo t) ix = some (k, np)) (hkk : (decide (zx_mk (zx_m k) = 3) && (decide (k < 221) && decide (zx_cs r ≤ 8))) = true) (kk : zx_W sc nc ns d t pc' L (.inl (if x < y then y else x) :: r) h Q) : zx_W sc nc ns d t pc L (.inl y :: .inl x :: r) h Q := by
  subst hp
  simp only [Bool.and_eq_true, decide_eq_true_eq] at hkk
  refine zx_W_ins hdg rfl (fun run => ?_) rfl kk
  show zx_is run (zx_mo t) ix pc L (.inl y :: .inl x :: r) h nc ns = _
  unfold zx_is
  simp only [hk]
  rw [if_neg (fun z => by rw [hkk.1] at z; exact absurd z.1 (by decide)), if_pos ⟨hkk.2.2, hkk.2.1⟩, if_pos hkk.1]
  rfl
theorem zw_min {ix k pc' : Nat} {np : Nat × Nat} {x y : Int32} (hdg : decode (zx_mb t) pc = .ok (.invokestatic ix, 3)) (hp : pc + 3 = pc') (hk : zx_lk zx_lM (zx_mo t) ix = some (k, np)) (hkk : (decide (zx_mk (zx_m k) = 4) && (decide (k < 221) && decide (zx_cs r ≤ 8))) = true) (kk : zx_W sc nc ns d t pc' L (.inl (if y < x then y else x) :: r) h Q) : zx_W sc nc ns d t pc L (.inl y :: .inl x :: r) h Q := by
  subst hp
  simp only [Bool.and_eq_true, decide_eq_true_eq] at hkk
  refine zx_W_ins hdg rfl (fun run => ?_) rfl kk
  show zx_is run (zx_mo t) ix pc L (.inl y :: .inl x :: r) h nc ns = _
  unfold zx_is
  simp only [hk]
  rw [if_neg (fun z => by rw [hkk.1] at z; exact absurd z.1 (by decide)), if_pos ⟨hkk.2.2, hkk.2.1⟩, if_neg (fun z => by rw [hkk.1] at z; exact absurd z (by decide)), if_pos hkk.1]
  rfl
end
def zl_all (P : Nat → Nat → Prop) (i : Nat) (l : List Nat) : Prop := ∀ (j tg : Nat), l[j]? = some tg → P (i + j) tg
theorem zl_nil {P : Nat → Nat → Prop} {i : Nat} : zl_all P i [] := fun j tg h => by cases h
theorem zl_cons {P : Nat → Nat → Prop} {i a : Nat} {r : List Nat} (h : P i a) (k : zl_all P (i + 1) r) : zl_all P i (a :: r) := by
  intro j tg hj
  cases j with
  | zero => cases hj; exact h
  | succ j =>
    have e : i + (j + 1) = i + 1 + j := by omega
    rw [e]
    exact k j tg hj
section
variable {sc : zx_Sc} {d nc ns : Nat} {t : zx_MT} {pc : Nat} {L : List (Option zx_V)} {S r : List zx_V} {h : List zx_C} {Q : Option zx_V → List zx_C → Prop}
theorem zw_tsc {dflt lo hi : Int} {offs : Array Int} {len : Nat} {x : Int32} {tgd : Nat} (hdg : decode (zx_mb t) pc = .ok (.tableswitch dflt lo hi offs, len)) (hd : (pc : Int) + dflt = (tgd : Int)) (tgts : List Nat) (ht : offs.toList.map (fun o => (pc : Int) + o) = tgts.map (fun n : Nat => (n : Int))) (hsz : hi - lo + 1 = (offs.size : Int))
    (kd : (x.toInt < lo ∨ hi < x.toInt) → zx_W sc nc ns d t tgd L r h Q) (kin : zl_all (fun i tg => x.toInt = lo + (i : Int) → zx_W sc nc ns d t tg L r h Q) 0 tgts) : zx_W sc nc ns d t pc L (.inl x :: r) h Q := by
  by_cases g : x.toInt < lo ∨ hi < x.toInt
  · refine zx_W_ins hdg rfl (fun run => ?_) rfl (kd g)
    show zx_tsw dflt lo hi offs pc L (.inl x :: r) h nc ns = _
    unfold zx_tsw
    simp only
    rw [if_pos g]
    unfold zx_J
    rw [if_pos (by omega), show ((pc : Int) + dflt).toNat = tgd by omega]
    rfl
  · have hlt : (x.toInt - lo).toNat < offs.size := by omega
    have e1 : offs[(x.toInt - lo).toNat]? = some offs[(x.toInt - lo).toNat] := Array.getElem?_eq_getElem hlt
    have e2 : (offs.toList.map (fun o => (pc : Int) + o))[(x.toInt - lo).toNat]? = some ((pc : Int) + offs[(x.toInt - lo).toNat]) := by
      rw [List.getElem?_map, Array.getElem?_toList, e1]
      rfl
    rw [ht, List.getElem?_map] at e2
    cases e3 : tgts[(x.toInt - lo).toNat]? with
    | none => rw [e3] at e2; cases e2
    | some tg =>
      rw [e3] at e2
      have e4 : (tg : Int) = (pc : Int) + offs[(x.toInt - lo).toNat] := Option.some.inj e2
      refine zx_W_ins hdg rfl (fun run => ?_) rfl (kin _ tg e3 (by omega))
      show zx_tsw dflt lo hi offs pc L (.inl x :: r) h nc ns = _
      unfold zx_tsw
      simp only
      rw [if_neg g, e1]
      show zx_J pc offs[(x.toInt - lo).toNat] L r h nc ns = _
      unfold zx_J
      rw [if_pos (by omega), show ((pc : Int) + offs[(x.toInt - lo).toNat]).toNat = tg by omega]
      rfl
end
