/-! part 20: rules of runs, an instruction each: laid by wip/p2/rules.py -/
section
variable {sc : zx_Sc} {d nc ns : Nat} {t : zx_MT} {pc : Nat} {L : List (Option zx_V)} {S r : List zx_V} {h : List zx_C} {Q : Option zx_V → List zx_C → Prop}
theorem zi_lt {x y : Int32} : x < y ↔ x.toInt < y.toInt := Int32.lt_iff_toInt_lt
theorem zi_le {x y : Int32} : x ≤ y ↔ x.toInt ≤ y.toInt := Int32.le_iff_toInt_le
theorem zi_in {x : Int32} {n : Nat} (h : 0 ≤ x.toInt ∧ x.toInt < n) : ¬ x < 0 ∧ x.toNatClampNeg < n := by
  refine ⟨fun q => ?_, ?_⟩
  · have := zi_lt.mp q
    have e : (0 : Int32).toInt = 0 := rfl
    omega
  · show x.toInt.toNat < n
    omega
theorem zw_icmp_eq {x y : Int32} {off : Int} {tgt pc' : Nat} (hdg : decode (zx_mb t) pc = .ok (.if_icmp .eq off, 3)) (ht : (pc : Int) + off = (tgt : Int)) (hp : pc + 3 = pc') (kt : x = y → zx_W sc nc ns d t tgt L r h Q) (kf : ¬ x = y → zx_W sc nc ns d t pc' L r h Q) : zx_W sc nc ns d t pc L (.inl y :: .inl x :: r) h Q := by
  subst hp
  by_cases g : x = y
  · refine zx_W_ins hdg rfl (fun run => ?_) rfl (kt (g))
    show zx_br (decide (x = y)) off pc L r h nc ns = _
    unfold zx_br
    rw [if_pos (by omega), if_pos (decide_eq_true g), show ((pc : Int) + off).toNat = tgt by omega]
    rfl
  · refine zx_W_ins hdg rfl (fun run => ?_) rfl (kf (g))
    show zx_br (decide (x = y)) off pc L r h nc ns = _
    unfold zx_br
    rw [if_pos (by omega), if_neg (by simpa using g)]
    rfl
theorem zw_if_eq {x : Int32} {off : Int} {tgt pc' : Nat} (hdg : decode (zx_mb t) pc = .ok (.ifCond .eq off, 3)) (ht : (pc : Int) + off = (tgt : Int)) (hp : pc + 3 = pc') (kt : x = 0 → zx_W sc nc ns d t tgt L r h Q) (kf : ¬ x = 0 → zx_W sc nc ns d t pc' L r h Q) : zx_W sc nc ns d t pc L (.inl x :: r) h Q := by
  subst hp
  by_cases g : x = 0
  · refine zx_W_ins hdg rfl (fun run => ?_) rfl (kt (g))
    show zx_br (decide (x = 0)) off pc L r h nc ns = _
    unfold zx_br
    rw [if_pos (by omega), if_pos (decide_eq_true g), show ((pc : Int) + off).toNat = tgt by omega]
    rfl
  · refine zx_W_ins hdg rfl (fun run => ?_) rfl (kf (g))
    show zx_br (decide (x = 0)) off pc L r h nc ns = _
    unfold zx_br
    rw [if_pos (by omega), if_neg (by simpa using g)]
    rfl
theorem zw_icmp_ne {x y : Int32} {off : Int} {tgt pc' : Nat} (hdg : decode (zx_mb t) pc = .ok (.if_icmp .ne off, 3)) (ht : (pc : Int) + off = (tgt : Int)) (hp : pc + 3 = pc') (kt : ¬ x = y → zx_W sc nc ns d t tgt L r h Q) (kf : x = y → zx_W sc nc ns d t pc' L r h Q) : zx_W sc nc ns d t pc L (.inl y :: .inl x :: r) h Q := by
  subst hp
  by_cases g : ¬ x = y
  · refine zx_W_ins hdg rfl (fun run => ?_) rfl (kt (g))
    show zx_br (decide (¬ x = y)) off pc L r h nc ns = _
    unfold zx_br
    rw [if_pos (by omega), if_pos (decide_eq_true g), show ((pc : Int) + off).toNat = tgt by omega]
    rfl
  · refine zx_W_ins hdg rfl (fun run => ?_) rfl (kf (Decidable.not_not.mp g))
    show zx_br (decide (¬ x = y)) off pc L r h nc ns = _
    unfold zx_br
    rw [if_pos (by omega), if_neg (by simpa using g)]
    rfl
theorem zw_if_ne {x : Int32} {off : Int} {tgt pc' : Nat} (hdg : decode (zx_mb t) pc = .ok (.ifCond .ne off, 3)) (ht : (pc : Int) + off = (tgt : Int)) (hp : pc + 3 = pc') (kt : ¬ x = 0 → zx_W sc nc ns d t tgt L r h Q) (kf : x = 0 → zx_W sc nc ns d t pc' L r h Q) : zx_W sc nc ns d t pc L (.inl x :: r) h Q := by
  subst hp
  by_cases g : ¬ x = 0
  · refine zx_W_ins hdg rfl (fun run => ?_) rfl (kt (g))
    show zx_br (decide (¬ x = 0)) off pc L r h nc ns = _
    unfold zx_br
    rw [if_pos (by omega), if_pos (decide_eq_true g), show ((pc : Int) + off).toNat = tgt by omega]
    rfl
  · refine zx_W_ins hdg rfl (fun run => ?_) rfl (kf (Decidable.not_not.mp g))
    show zx_br (decide (¬ x = 0)) off pc L r h nc ns = _
    unfold zx_br
    rw [if_pos (by omega), if_neg (by simpa using g)]
    rfl
theorem zw_icmp_lt {x y : Int32} {off : Int} {tgt pc' : Nat} (hdg : decode (zx_mb t) pc = .ok (.if_icmp .lt off, 3)) (ht : (pc : Int) + off = (tgt : Int)) (hp : pc + 3 = pc') (kt : x.toInt < y.toInt → zx_W sc nc ns d t tgt L r h Q) (kf : y.toInt ≤ x.toInt → zx_W sc nc ns d t pc' L r h Q) : zx_W sc nc ns d t pc L (.inl y :: .inl x :: r) h Q := by
  subst hp
  by_cases g : x < y
  · refine zx_W_ins hdg rfl (fun run => ?_) rfl (kt (zi_lt.mp g))
    show zx_br (decide (x < y)) off pc L r h nc ns = _
    unfold zx_br
    rw [if_pos (by omega), if_pos (decide_eq_true g), show ((pc : Int) + off).toNat = tgt by omega]
    rfl
  · refine zx_W_ins hdg rfl (fun run => ?_) rfl (kf (by have g2 : ¬ _ := fun q => g (zi_lt.mpr q); omega))
    show zx_br (decide (x < y)) off pc L r h nc ns = _
    unfold zx_br
    rw [if_pos (by omega), if_neg (by simpa using g)]
    rfl
theorem zw_if_lt {x : Int32} {off : Int} {tgt pc' : Nat} (hdg : decode (zx_mb t) pc = .ok (.ifCond .lt off, 3)) (ht : (pc : Int) + off = (tgt : Int)) (hp : pc + 3 = pc') (kt : x.toInt < 0 → zx_W sc nc ns d t tgt L r h Q) (kf : 0 ≤ x.toInt → zx_W sc nc ns d t pc' L r h Q) : zx_W sc nc ns d t pc L (.inl x :: r) h Q := by
  subst hp
  by_cases g : x < 0
  · refine zx_W_ins hdg rfl (fun run => ?_) rfl (kt (by have e0 : (0 : Int32).toInt = 0 := rfl; have g2 := zi_lt.mp g; omega))
    show zx_br (decide (x < 0)) off pc L r h nc ns = _
    unfold zx_br
    rw [if_pos (by omega), if_pos (decide_eq_true g), show ((pc : Int) + off).toNat = tgt by omega]
    rfl
  · refine zx_W_ins hdg rfl (fun run => ?_) rfl (kf (by have e0 : (0 : Int32).toInt = 0 := rfl; have g2 : ¬ _ := fun q => g (zi_lt.mpr q); omega))
    show zx_br (decide (x < 0)) off pc L r h nc ns = _
    unfold zx_br
    rw [if_pos (by omega), if_neg (by simpa using g)]
    rfl
theorem zw_icmp_ge {x y : Int32} {off : Int} {tgt pc' : Nat} (hdg : decode (zx_mb t) pc = .ok (.if_icmp .ge off, 3)) (ht : (pc : Int) + off = (tgt : Int)) (hp : pc + 3 = pc') (kt : y.toInt ≤ x.toInt → zx_W sc nc ns d t tgt L r h Q) (kf : x.toInt < y.toInt → zx_W sc nc ns d t pc' L r h Q) : zx_W sc nc ns d t pc L (.inl y :: .inl x :: r) h Q := by
  subst hp
  by_cases g : y ≤ x
  · refine zx_W_ins hdg rfl (fun run => ?_) rfl (kt (zi_le.mp g))
    show zx_br (decide (y ≤ x)) off pc L r h nc ns = _
    unfold zx_br
    rw [if_pos (by omega), if_pos (decide_eq_true g), show ((pc : Int) + off).toNat = tgt by omega]
    rfl
  · refine zx_W_ins hdg rfl (fun run => ?_) rfl (kf (by have g2 : ¬ _ := fun q => g (zi_le.mpr q); omega))
    show zx_br (decide (y ≤ x)) off pc L r h nc ns = _
    unfold zx_br
    rw [if_pos (by omega), if_neg (by simpa using g)]
    rfl
theorem zw_if_ge {x : Int32} {off : Int} {tgt pc' : Nat} (hdg : decode (zx_mb t) pc = .ok (.ifCond .ge off, 3)) (ht : (pc : Int) + off = (tgt : Int)) (hp : pc + 3 = pc') (kt : 0 ≤ x.toInt → zx_W sc nc ns d t tgt L r h Q) (kf : x.toInt < 0 → zx_W sc nc ns d t pc' L r h Q) : zx_W sc nc ns d t pc L (.inl x :: r) h Q := by
  subst hp
  by_cases g : 0 ≤ x
  · refine zx_W_ins hdg rfl (fun run => ?_) rfl (kt (by have e0 : (0 : Int32).toInt = 0 := rfl; have g2 := zi_le.mp g; omega))
    show zx_br (decide (0 ≤ x)) off pc L r h nc ns = _
    unfold zx_br
    rw [if_pos (by omega), if_pos (decide_eq_true g), show ((pc : Int) + off).toNat = tgt by omega]
    rfl
  · refine zx_W_ins hdg rfl (fun run => ?_) rfl (kf (by have e0 : (0 : Int32).toInt = 0 := rfl; have g2 : ¬ _ := fun q => g (zi_le.mpr q); omega))
    show zx_br (decide (0 ≤ x)) off pc L r h nc ns = _
    unfold zx_br
    rw [if_pos (by omega), if_neg (by simpa using g)]
    rfl
theorem zw_icmp_gt {x y : Int32} {off : Int} {tgt pc' : Nat} (hdg : decode (zx_mb t) pc = .ok (.if_icmp .gt off, 3)) (ht : (pc : Int) + off = (tgt : Int)) (hp : pc + 3 = pc') (kt : y.toInt < x.toInt → zx_W sc nc ns d t tgt L r h Q) (kf : x.toInt ≤ y.toInt → zx_W sc nc ns d t pc' L r h Q) : zx_W sc nc ns d t pc L (.inl y :: .inl x :: r) h Q := by
  subst hp
  by_cases g : y < x
  · refine zx_W_ins hdg rfl (fun run => ?_) rfl (kt (zi_lt.mp g))
    show zx_br (decide (y < x)) off pc L r h nc ns = _
    unfold zx_br
    rw [if_pos (by omega), if_pos (decide_eq_true g), show ((pc : Int) + off).toNat = tgt by omega]
    rfl
  · refine zx_W_ins hdg rfl (fun run => ?_) rfl (kf (by have g2 : ¬ _ := fun q => g (zi_lt.mpr q); omega))
    show zx_br (decide (y < x)) off pc L r h nc ns = _
    unfold zx_br
    rw [if_pos (by omega), if_neg (by simpa using g)]
    rfl
theorem zw_icmp_le {x y : Int32} {off : Int} {tgt pc' : Nat} (hdg : decode (zx_mb t) pc = .ok (.if_icmp .le off, 3)) (ht : (pc : Int) + off = (tgt : Int)) (hp : pc + 3 = pc') (kt : x.toInt ≤ y.toInt → zx_W sc nc ns d t tgt L r h Q) (kf : y.toInt < x.toInt → zx_W sc nc ns d t pc' L r h Q) : zx_W sc nc ns d t pc L (.inl y :: .inl x :: r) h Q := by
  subst hp
  by_cases g : x ≤ y
  · refine zx_W_ins hdg rfl (fun run => ?_) rfl (kt (zi_le.mp g))
    show zx_br (decide (x ≤ y)) off pc L r h nc ns = _
    unfold zx_br
    rw [if_pos (by omega), if_pos (decide_eq_true g), show ((pc : Int) + off).toNat = tgt by omega]
    rfl
  · refine zx_W_ins hdg rfl (fun run => ?_) rfl (kf (by have g2 : ¬ _ := fun q => g (zi_le.mpr q); omega))
    show zx_br (decide (x ≤ y)) off pc L r h nc ns = _
    unfold zx_br
    rw [if_pos (by omega), if_neg (by simpa using g)]
    rfl
theorem zw_if_le {x : Int32} {off : Int} {tgt pc' : Nat} (hdg : decode (zx_mb t) pc = .ok (.ifCond .le off, 3)) (ht : (pc : Int) + off = (tgt : Int)) (hp : pc + 3 = pc') (kt : x.toInt ≤ 0 → zx_W sc nc ns d t tgt L r h Q) (kf : 0 < x.toInt → zx_W sc nc ns d t pc' L r h Q) : zx_W sc nc ns d t pc L (.inl x :: r) h Q := by
  subst hp
  by_cases g : x ≤ 0
  · refine zx_W_ins hdg rfl (fun run => ?_) rfl (kt (by have e0 : (0 : Int32).toInt = 0 := rfl; have g2 := zi_le.mp g; omega))
    show zx_br (decide (x ≤ 0)) off pc L r h nc ns = _
    unfold zx_br
    rw [if_pos (by omega), if_pos (decide_eq_true g), show ((pc : Int) + off).toNat = tgt by omega]
    rfl
  · refine zx_W_ins hdg rfl (fun run => ?_) rfl (kf (by have e0 : (0 : Int32).toInt = 0 := rfl; have g2 : ¬ _ := fun q => g (zi_le.mpr q); omega))
    show zx_br (decide (x ≤ 0)) off pc L r h nc ns = _
    unfold zx_br
    rw [if_pos (by omega), if_neg (by simpa using g)]
    rfl
theorem zw_goto {off : Int} {tgt : Nat} (hdg : decode (zx_mb t) pc = .ok (.goto off, 3)) (ht : (pc : Int) + off = (tgt : Int)) (k : zx_W sc nc ns d t tgt L S h Q) : zx_W sc nc ns d t pc L S h Q := by
  refine zx_W_ins hdg rfl (fun run => ?_) rfl k
  show zx_J pc off L S h nc ns = _
  unfold zx_J
  rw [if_pos (by omega), show ((pc : Int) + off).toNat = tgt by omega]
  rfl
theorem zw_bi {n : Int} {v : Int32} {pc' : Nat} (hdg : decode (zx_mb t) pc = .ok (.bipush n, 2)) (hp : pc + 2 = pc') (hv : (Int8.ofInt n).toInt32 = v) (k : zx_W sc nc ns d t pc' L (.inl v :: S) h Q) : zx_W sc nc ns d t pc L S h Q := by
  subst hp hv
  exact zx_W_ins hdg rfl (fun run => rfl) rfl k
theorem zw_si {n : Int} {v : Int32} {pc' : Nat} (hdg : decode (zx_mb t) pc = .ok (.sipush n, 3)) (hp : pc + 3 = pc') (hv : (Int16.ofInt n).toInt32 = v) (k : zx_W sc nc ns d t pc' L (.inl v :: S) h Q) : zx_W sc nc ns d t pc L S h Q := by
  subst hp hv
  exact zx_W_ins hdg rfl (fun run => rfl) rfl k
theorem zw_ic {n : Int} {v : Int32} {pc' : Nat} (hdg : decode (zx_mb t) pc = .ok (.iconst n, 1)) (hp : pc + 1 = pc') (hv : Int32.ofInt n = v) (k : zx_W sc nc ns d t pc' L (.inl v :: S) h Q) : zx_W sc nc ns d t pc L S h Q := by
  subst hp hv
  exact zx_W_ins hdg rfl (fun run => rfl) rfl k
theorem zw_gf {a ix ci k pc' : Nat} {np : Nat × Nat} {fs : List zx_V} {v : zx_V} (hdg : decode (zx_mb t) pc = .ok (.getfield ix, 3)) (hp : pc + 3 = pc') (hk : zx_lk zx_lF (zx_mo t) ix = some (ci, k, np)) (ha : h[a]? = some (.inl (ci, fs))) (hv : fs[k]? = some v) (kk : zx_W sc nc ns d t pc' L (v :: r) h Q) : zx_W sc nc ns d t pc L (.inr (.inr (1, a)) :: r) h Q := by
  subst hp
  refine zx_W_ins hdg rfl (fun run => ?_) rfl kk
  show zx_gf (zx_mo t) ix pc L (.inr (.inr (1, a)) :: r) h nc ns = _
  unfold zx_gf
  simp only [hk, ha, if_true, hv]
  rfl
theorem zw_pf {a ix ci k np pp pc' : Nat} {fs : List zx_V} {v : zx_V} (hdg : decode (zx_mb t) pc = .ok (.putfield ix, 3)) (hp : pc + 3 = pc') (hk : zx_lk zx_lF (zx_mo t) ix = some (ci, k, np, pp)) (ha : h[a]? = some (.inl (ci, fs))) (hf : (decide (k < fs.length) && (zx_fit (zx_ft ci k) v && decide ((zx_T8 ci k).2.2.2 = false))) = true) {fs' : List zx_V} (hs : fs.set k v = fs') (kk : zx_W sc nc ns d t pc' L r (h.set a (.inl (ci, fs'))) Q) : zx_W sc nc ns d t pc L (v :: .inr (.inr (1, a)) :: r) h Q := by
  subst hp hs
  simp only [Bool.and_eq_true, decide_eq_true_eq] at hf
  refine zx_W_ins hdg rfl (fun run => ?_) (List.length_set ..) kk
  show zx_pf (zx_mo t) (zx_mk t) ix pc L (v :: .inr (.inr (1, a)) :: r) h nc ns = _
  unfold zx_pf
  simp only [hk, ha]
  rw [if_pos ⟨trivial, hf.1, hf.2.1, Or.inl hf.2.2⟩]
  rfl
theorem zw_ial {a pc' : Nat} {i : Int32} {f : List Int32} (hdg : decode (zx_mb t) pc = .ok (.iaload, 1)) (hp : pc + 1 = pc') (ha : h[a]? = some (.inr (0, .inl f))) (hi : ¬ i < 0 ∧ i.toNatClampNeg < f.length) (kk : zx_W sc nc ns d t pc' L (.inl (f.getD i.toNatClampNeg 0) :: r) h Q) : zx_W sc nc ns d t pc L (.inl i :: .inr (.inr (1, a)) :: r) h Q := by
  subst hp
  refine zx_W_ins hdg rfl (fun run => ?_) rfl kk
  show zx_ial sc pc L (.inl i :: .inr (.inr (1, a)) :: r) h nc ns = _
  unfold zx_ial
  simp only [ha]
  rw [if_pos hi]
  rfl
theorem zw_ials {a pc' : Nat} {i : Int32} (hdg : decode (zx_mb t) pc = .ok (.iaload, 1)) (hp : pc + 1 = pc') (hi : a < 5 ∧ ¬ i < 0 ∧ i.toNatClampNeg < (zx_sa.getD a []).length) (kk : zx_W sc nc ns d t pc' L (.inl ((zx_sa.getD a []).getD i.toNatClampNeg 0) :: r) h Q) : zx_W sc nc ns d t pc L (.inl i :: .inr (.inr (4, a)) :: r) h Q := by
  subst hp
  refine zx_W_ins hdg rfl (fun run => ?_) rfl kk
  show zx_ial sc pc L (.inl i :: .inr (.inr (4, a)) :: r) h nc ns = _
  unfold zx_ial
  simp only
  rw [if_pos hi]
  rfl
theorem zw_ias {a pc' : Nat} {i x : Int32} {f : List Int32} (hdg : decode (zx_mb t) pc = .ok (.iastore, 1)) (hp : pc + 1 = pc') (ha : h[a]? = some (.inr (0, .inl f))) (hi : ¬ i < 0 ∧ i.toNatClampNeg < f.length) (kk : zx_W sc nc ns d t pc' L r (h.set a (.inr (0, .inl (f.set i.toNatClampNeg x)))) Q) : zx_W sc nc ns d t pc L (.inl x :: .inl i :: .inr (.inr (1, a)) :: r) h Q := by
  subst hp
  refine zx_W_ins hdg rfl (fun run => ?_) (List.length_set ..) kk
  show zx_ias pc L (.inl x :: .inl i :: .inr (.inr (1, a)) :: r) h nc ns = _
  unfold zx_ias
  simp only [ha]
  rw [if_pos hi]
  rfl
theorem zw_lal {a pc' : Nat} {i : Int32} {f : List Int64} (hdg : decode (zx_mb t) pc = .ok (.laload, 1)) (hp : pc + 1 = pc') (ha : h[a]? = some (.inr (1, .inr (.inl f)))) (hi : ¬ i < 0 ∧ i.toNatClampNeg < f.length) (kk : zx_W sc nc ns d t pc' L (.inr (.inl (f.getD i.toNatClampNeg 0)) :: r) h Q) : zx_W sc nc ns d t pc L (.inl i :: .inr (.inr (1, a)) :: r) h Q := by
  subst hp
  refine zx_W_ins hdg rfl (fun run => ?_) rfl kk
  show zx_lal pc L (.inl i :: .inr (.inr (1, a)) :: r) h nc ns = _
  unfold zx_lal
  simp only [ha]
  rw [if_pos hi]
  rfl
theorem zw_las {a pc' : Nat} {i : Int32} {x : Int64} {f : List Int64} (hdg : decode (zx_mb t) pc = .ok (.lastore, 1)) (hp : pc + 1 = pc') (ha : h[a]? = some (.inr (1, .inr (.inl f)))) (hi : ¬ i < 0 ∧ i.toNatClampNeg < f.length) (kk : zx_W sc nc ns d t pc' L r (h.set a (.inr (1, .inr (.inl (f.set i.toNatClampNeg x))))) Q) : zx_W sc nc ns d t pc L (.inr (.inl x) :: .inl i :: .inr (.inr (1, a)) :: r) h Q := by
  subst hp
  refine zx_W_ins hdg rfl (fun run => ?_) (List.length_set ..) kk
  show zx_las pc L (.inr (.inl x) :: .inl i :: .inr (.inr (1, a)) :: r) h nc ns = _
  unfold zx_las
  simp only [ha]
  rw [if_pos hi]
  rfl
theorem zw_aal {a pc' t0 : Nat} {i : Int32} {f : List (Option Nat)} (hdg : decode (zx_mb t) pc = .ok (.aaload, 1)) (hp : pc + 1 = pc') (ha : h[a]? = some (.inr (t0, .inr (.inr f)))) (ht : t0 = 2 ∨ t0 = 3) (hi : ¬ i < 0 ∧ i.toNatClampNeg < f.length) {b : Nat} (hb : f[i.toNatClampNeg]? = some (some b)) (kk : zx_W sc nc ns d t pc' L (.inr (.inr (1, b)) :: r) h Q) : zx_W sc nc ns d t pc L (.inl i :: .inr (.inr (1, a)) :: r) h Q := by
  subst hp
  refine zx_W_ins hdg rfl (fun run => ?_) rfl kk
  show zx_aal pc L (.inl i :: .inr (.inr (1, a)) :: r) h nc ns = _
  unfold zx_aal
  simp only [ha]
  rw [if_pos ⟨ht, hi⟩, hb]
  rfl
theorem zw_div {x y : Int32} {pc' : Nat} (hdg : decode (zx_mb t) pc = .ok (.idiv, 1)) (hp : pc + 1 = pc') (hy : ¬ y = 0) (kk : zx_W sc nc ns d t pc' L (.inl (x / y) :: r) h Q) : zx_W sc nc ns d t pc L (.inl y :: .inl x :: r) h Q := by
  subst hp
  refine zx_W_ins hdg rfl (fun run => ?_) rfl kk
  show zx_bin .idiv pc L (.inl y :: .inl x :: r) h nc ns = _
  unfold zx_bin zx_b2
  simp only
  rw [if_neg hy]
  rfl
theorem zw_rem {x y : Int32} {pc' : Nat} (hdg : decode (zx_mb t) pc = .ok (.irem, 1)) (hp : pc + 1 = pc') (hy : ¬ y = 0) (kk : zx_W sc nc ns d t pc' L (.inl (x - x / y * y) :: r) h Q) : zx_W sc nc ns d t pc L (.inl y :: .inl x :: r) h Q := by
  subst hp
  refine zx_W_ins hdg rfl (fun run => ?_) rfl kk
  show zx_bin .irem pc L (.inl y :: .inl x :: r) h nc ns = _
  unfold zx_bin zx_b2
  simp only
  rw [if_neg hy]
  rfl
theorem zw_iret {v : Int32} (hdg : decode (zx_mb t) pc = .ok (.ireturn, 1)) {ty : FieldType} (hr : zx_mr t = some ty) (hn : zx_nr ty v = true) (q : Q (some (.inl v)) h) : zx_W sc nc ns d t pc L [.inl v] h Q := by
  refine zx_W_end hdg rfl (fun run => ?_) q
  show zx_ir (zx_mr t) [.inl v] h nc ns = _
  unfold zx_ir
  rw [hr]
  simp only
  rw [if_pos hn]
theorem zw_vret (hdg : decode (zx_mb t) pc = .ok (.return_, 1)) (hr : zx_mr t = none) (q : Q none h) : zx_W sc nc ns d t pc L [] h Q := by
  refine zx_W_end hdg rfl (fun run => ?_) q
  show zx_vr (zx_mr t) [] h nc ns = _
  unfold zx_vr
  rw [hr]
theorem zw_lret {v : Int64} (hdg : decode (zx_mb t) pc = .ok (.lreturn, 1)) (hr : zx_mr t = some .long) (q : Q (some (.inr (.inl v))) h) : zx_W sc nc ns d t pc L [.inr (.inl v)] h Q := by
  refine zx_W_end hdg rfl (fun run => ?_) q
  show zx_lr (zx_mr t) [.inr (.inl v)] h nc ns = _
  unfold zx_lr
  rw [hr]
end
section
variable {sc : zx_Sc} {d nc ns : Nat} {t : zx_MT} {pc : Nat} {L : List (Option zx_V)} {S r : List zx_V} {h : List zx_C} {Q : Option zx_V → List zx_C → Prop}
/-- a virtual call on an object of ours -/
theorem zw_iv {a ix k ci pc' : Nat} {np : Nat × Nat} {fs as : List zx_V} (hdg : decode (zx_mb t) pc = .ok (.invokevirtual ix, 3)) (hp : pc + 3 = pc') (hk : zx_lk zx_lM (zx_mo t) ix = some (k, np)) (hkk : (decide (zx_mk (zx_m k) = 0) && decide (k < 221)) = true) (hd : S.drop (zx_mp (zx_m k)) = .inr (.inr (1, a)) :: r) (ha : h[a]? = some (.inl (ci, fs))) (hc : (decide (ci = zx_mo (zx_m k)) && (decide (ci < 9) && (decide (zx_cs r ≤ 8) && decide (zx_mp (zx_m k) ≤ S.length)))) = true) (has : (S.take (zx_mp (zx_m k))).reverse = as)
    (hM : zx_M d k (.inr (.inr (1, a)) :: as) h (fun v h' => h'.length = h.length → zx_W sc nc ns (d + 1) t pc' L (v.toList ++ r) h' Q)) : zx_W sc nc ns (d + 1) t pc L S h Q := by
  subst hp has
  simp only [Bool.and_eq_true, decide_eq_true_eq] at hkk hc
  refine zx_W_call hdg rfl (fun run => ?_) hM
  show zx_iv run (zx_mo t) ix pc L S h nc ns = _
  unfold zx_iv
  simp only [hk]
  rw [if_pos hkk]
  simp only [hd, ha]
  rw [if_pos hc]
theorem zw_is {ix k pc' : Nat} {np : Nat × Nat} {as : List zx_V} (hdg : decode (zx_mb t) pc = .ok (.invokestatic ix, 3)) (hp : pc + 3 = pc') (hk : zx_lk zx_lM (zx_mo t) ix = some (k, np)) (hkk : (decide (zx_mk (zx_m k) = 1) && (decide (k < 221) && (decide (zx_cs (S.drop (zx_mp (zx_m k))) ≤ 8) && decide (zx_mp (zx_m k) ≤ S.length)))) = true) (has : (S.take (zx_mp (zx_m k))).reverse = as) (hd : S.drop (zx_mp (zx_m k)) = r)
    (hM : zx_M d k as h (fun v h' => h'.length = h.length → zx_W sc nc ns (d + 1) t pc' L (v.toList ++ r) h' Q)) : zx_W sc nc ns (d + 1) t pc L S h Q := by
  subst hp has hd
  simp only [Bool.and_eq_true, decide_eq_true_eq] at hkk
  refine zx_W_call hdg rfl (fun run => ?_) hM
  show zx_is run (zx_mo t) ix pc L S h nc ns = _
  unfold zx_is
  simp only [hk]
  rw [if_pos hkk]
end
