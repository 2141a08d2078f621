/-! part 24: methods that change a cell or two: laid by wip/p2/meths.py -/
def zt_109 : zx_MT := (7, yX7_refuse, cX7_refuse, 2, (some FieldType.int), 1, 0)
theorem zm_109 : zx_m 109 = zt_109 := rfl
theorem dX7_refuse_0 : decode cX7_refuse 0 = .ok (.aload_n 0, 1) := by decide +kernel
theorem dX7_refuse_1 : decode cX7_refuse 1 = .ok (.getfield 65, 3) := by decide +kernel
theorem dX7_refuse_4 : decode cX7_refuse 4 = .ok (.iload_n 1, 1) := by decide +kernel
theorem dX7_refuse_5 : decode cX7_refuse 5 = .ok (.dup2, 1) := by decide +kernel
theorem dX7_refuse_6 : decode cX7_refuse 6 = .ok (.iaload, 1) := by decide +kernel
theorem dX7_refuse_7 : decode cX7_refuse 7 = .ok (.iconst 1, 1) := by decide +kernel
theorem dX7_refuse_8 : decode cX7_refuse 8 = .ok (.iadd, 1) := by decide +kernel
theorem dX7_refuse_9 : decode cX7_refuse 9 = .ok (.iastore, 1) := by decide +kernel
theorem dX7_refuse_10 : decode cX7_refuse 10 = .ok (.iload_n 1, 1) := by decide +kernel
theorem dX7_refuse_11 : decode cX7_refuse 11 = .ok (.ineg, 1) := by decide +kernel
theorem dX7_refuse_12 : decode cX7_refuse 12 = .ok (.ireturn, 1) := by decide +kernel
theorem zc_109 {d : Nat} {h : List zx_C} {w : Int32} {Q : Option zx_V → List zx_C → Prop} (hI : zx_I h) (hw : 0 ≤ w.toInt ∧ w.toInt < 8) (hq : ∀ (v : Int32) (h2 : List zx_C), zx_I h2 → (∀ i, i ∉ ([46] : List Nat) → h2[i]? = h[i]?) → v = -w → Q (some (.inl v)) h2) : zx_M d 109 [.inr (.inr (1, 0)), .inl w] h Q := by
  have el_1 : (1 : Int32).toInt = 1 := by decide
  obtain ⟨x1, c0_1, it1, lf1, rfl, hit1⟩ := zi_g hI 0 (by decide)
  obtain ⟨x2, c46_2, f46_2, rfl, l46_2⟩ := zi_g hI 46 (by decide)
  have fr0 : ∀ i, i ∉ ([46] : List Nat) → h[i]? = h[i]? := fun _ _ => rfl
  refine zx_M_of (Nat.le_of_ble_eq_true rfl) zm_109 (L := [some (.inr (.inr (1, 0))), some (.inl w)]) rfl ?_
  refine zx_W_ins (pc' := 1) dX7_refuse_0 rfl (fun _ => rfl) rfl ?_
  refine zw_gf (pc' := 4) dX7_refuse_1 rfl rfl c0_1 rfl ?_
  refine zx_W_ins (pc' := 5) dX7_refuse_4 rfl (fun _ => rfl) rfl ?_
  refine zx_W_ins (pc' := 6) dX7_refuse_5 rfl (fun _ => rfl) rfl ?_
  refine zw_ial (pc' := 7) dX7_refuse_6 rfl c46_2 (zi_in (by have := l46_2; omega)) ?_
  refine zw_ic (v := 1) (pc' := 8) dX7_refuse_7 rfl rfl ?_
  refine zx_W_ins (pc' := 9) dX7_refuse_8 rfl (fun _ => rfl) rfl ?_
  refine zw_ias (pc' := 10) dX7_refuse_9 rfl c46_2 (zi_in (by have := l46_2; omega)) ?_
  obtain ⟨h3, e4⟩ : ∃ z, z = h.set 46 (.inr (0, .inl (f46_2.set w.toNatClampNeg ((f46_2.getD w.toNatClampNeg 0) + 1)))) := ⟨_, rfl⟩
  rw [← e4]
  have c5 : h3[0]? = some (.inl (7, [.inr (.inr (1, 1)), .inr (.inr (1, 2)), .inr (.inr (1, 9)), .inr (.inr (1, 16)), .inr (.inr (1, 18)), .inr (.inr (1, 21)), .inr (.inr (1, 35)), .inr (.inr (1, 44)), .inr (.inr (1, 46)), .inl it1, .inl lf1])) := by rw [e4, List.getElem?_set_ne (by first | decide | omega)]; exact c0_1
  have c6 : h3[46]? = some (.inr (0, .inl (f46_2.set w.toNatClampNeg ((f46_2.getD w.toNatClampNeg 0) + 1)))) := by rw [e4, List.getElem?_set_self (List.getElem?_eq_some_iff.mp c46_2).1]
  have hI7 : zx_I h3 := by rw [e4]; exact zi_set hI (show zc_row 8 _ from ⟨_, rfl, by rw [List.length_set]; exact l46_2⟩) (by decide) (by decide)
  have fr8 : ∀ i, i ∉ ([46] : List Nat) → h3[i]? = h[i]? := fun i hi => Eq.trans (b := h[i]?) (by rw [e4, List.getElem?_set_ne (fun z => hi (by rw [← z]; decide))]) (fr0 i hi)
  refine zx_W_ins (pc' := 11) dX7_refuse_10 rfl (fun _ => rfl) rfl ?_
  refine zx_W_ins (pc' := 12) dX7_refuse_11 rfl (fun _ => rfl) rfl ?_
  refine zw_iret dX7_refuse_12 rfl rfl ?_
  exact hq _ h3 hI7 fr8 rfl
def zt_110 : zx_MT := (7, yX7_refuseFar, cX7_refuseFar, 2, (some FieldType.int), 1, 0)
theorem zm_110 : zx_m 110 = zt_110 := rfl
theorem dX7_refuseFar_0 : decode cX7_refuseFar 0 = .ok (.aload_n 0, 1) := by decide +kernel
theorem dX7_refuseFar_1 : decode cX7_refuseFar 1 = .ok (.getfield 65, 3) := by decide +kernel
theorem dX7_refuseFar_4 : decode cX7_refuseFar 4 = .ok (.iload_n 1, 1) := by decide +kernel
theorem dX7_refuseFar_5 : decode cX7_refuseFar 5 = .ok (.dup2, 1) := by decide +kernel
theorem dX7_refuseFar_6 : decode cX7_refuseFar 6 = .ok (.iaload, 1) := by decide +kernel
theorem dX7_refuseFar_7 : decode cX7_refuseFar 7 = .ok (.iconst 1, 1) := by decide +kernel
theorem dX7_refuseFar_8 : decode cX7_refuseFar 8 = .ok (.iadd, 1) := by decide +kernel
theorem dX7_refuseFar_9 : decode cX7_refuseFar 9 = .ok (.iastore, 1) := by decide +kernel
theorem dX7_refuseFar_10 : decode cX7_refuseFar 10 = .ok (.bipush (-10), 2) := by decide +kernel
theorem dX7_refuseFar_12 : decode cX7_refuseFar 12 = .ok (.iload_n 1, 1) := by decide +kernel
theorem dX7_refuseFar_13 : decode cX7_refuseFar 13 = .ok (.isub, 1) := by decide +kernel
theorem dX7_refuseFar_14 : decode cX7_refuseFar 14 = .ok (.ireturn, 1) := by decide +kernel
theorem zc_110 {d : Nat} {h : List zx_C} {w : Int32} {Q : Option zx_V → List zx_C → Prop} (hI : zx_I h) (hw : 0 ≤ w.toInt ∧ w.toInt < 8) (hq : ∀ (v : Int32) (h2 : List zx_C), zx_I h2 → (∀ i, i ∉ ([46] : List Nat) → h2[i]? = h[i]?) → Q (some (.inl v)) h2) : zx_M d 110 [.inr (.inr (1, 0)), .inl w] h Q := by
  have el_m10 : ((-10) : Int32).toInt = -10 := by decide
  have el_1 : (1 : Int32).toInt = 1 := by decide
  obtain ⟨x1, c0_1, it1, lf1, rfl, hit1⟩ := zi_g hI 0 (by decide)
  obtain ⟨x2, c46_2, f46_2, rfl, l46_2⟩ := zi_g hI 46 (by decide)
  have fr0 : ∀ i, i ∉ ([46] : List Nat) → h[i]? = h[i]? := fun _ _ => rfl
  refine zx_M_of (Nat.le_of_ble_eq_true rfl) zm_110 (L := [some (.inr (.inr (1, 0))), some (.inl w)]) rfl ?_
  refine zx_W_ins (pc' := 1) dX7_refuseFar_0 rfl (fun _ => rfl) rfl ?_
  refine zw_gf (pc' := 4) dX7_refuseFar_1 rfl rfl c0_1 rfl ?_
  refine zx_W_ins (pc' := 5) dX7_refuseFar_4 rfl (fun _ => rfl) rfl ?_
  refine zx_W_ins (pc' := 6) dX7_refuseFar_5 rfl (fun _ => rfl) rfl ?_
  refine zw_ial (pc' := 7) dX7_refuseFar_6 rfl c46_2 (zi_in (by have := l46_2; omega)) ?_
  refine zw_ic (v := 1) (pc' := 8) dX7_refuseFar_7 rfl rfl ?_
  refine zx_W_ins (pc' := 9) dX7_refuseFar_8 rfl (fun _ => rfl) rfl ?_
  refine zw_ias (pc' := 10) dX7_refuseFar_9 rfl c46_2 (zi_in (by have := l46_2; omega)) ?_
  obtain ⟨h3, e4⟩ : ∃ z, z = h.set 46 (.inr (0, .inl (f46_2.set w.toNatClampNeg ((f46_2.getD w.toNatClampNeg 0) + 1)))) := ⟨_, rfl⟩
  rw [← e4]
  have c5 : h3[0]? = some (.inl (7, [.inr (.inr (1, 1)), .inr (.inr (1, 2)), .inr (.inr (1, 9)), .inr (.inr (1, 16)), .inr (.inr (1, 18)), .inr (.inr (1, 21)), .inr (.inr (1, 35)), .inr (.inr (1, 44)), .inr (.inr (1, 46)), .inl it1, .inl lf1])) := by rw [e4, List.getElem?_set_ne (by first | decide | omega)]; exact c0_1
  have c6 : h3[46]? = some (.inr (0, .inl (f46_2.set w.toNatClampNeg ((f46_2.getD w.toNatClampNeg 0) + 1)))) := by rw [e4, List.getElem?_set_self (List.getElem?_eq_some_iff.mp c46_2).1]
  have hI7 : zx_I h3 := by rw [e4]; exact zi_set hI (show zc_row 8 _ from ⟨_, rfl, by rw [List.length_set]; exact l46_2⟩) (by decide) (by decide)
  have fr8 : ∀ i, i ∉ ([46] : List Nat) → h3[i]? = h[i]? := fun i hi => Eq.trans (b := h[i]?) (by rw [e4, List.getElem?_set_ne (fun z => hi (by rw [← z]; decide))]) (fr0 i hi)
  refine zw_bi (v := (-10)) (pc' := 12) dX7_refuseFar_10 rfl rfl ?_
  refine zx_W_ins (pc' := 13) dX7_refuseFar_12 rfl (fun _ => rfl) rfl ?_
  refine zx_W_ins (pc' := 14) dX7_refuseFar_13 rfl (fun _ => rfl) rfl ?_
  refine zw_iret dX7_refuseFar_14 rfl rfl ?_
  exact hq _ h3 hI7 fr8
def zt_83 : zx_MT := (7, yX7_fault, cX7_fault, 1, (some FieldType.int), 0, 0)
theorem zm_83 : zx_m 83 = zt_83 := rfl
theorem dX7_fault_0 : decode cX7_fault 0 = .ok (.aload_n 0, 1) := by decide +kernel
theorem dX7_fault_1 : decode cX7_fault 1 = .ok (.getfield 73, 3) := by decide +kernel
theorem dX7_fault_4 : decode cX7_fault 4 = .ok (.ireturn, 1) := by decide +kernel
theorem zc_83 {d : Nat} {h : List zx_C}  {Q : Option zx_V → List zx_C → Prop} (hI : zx_I h)  (hq : ∀ (v : Int32) (h2 : List zx_C), zx_I h2 → (∀ i, i ∉ ([] : List Nat) → h2[i]? = h[i]?) → Q (some (.inl v)) h2) : zx_M d 83 [.inr (.inr (1, 0))] h Q := by
  obtain ⟨x1, c0_1, it1, lf1, rfl, hit1⟩ := zi_g hI 0 (by decide)
  have fr0 : ∀ i, i ∉ ([] : List Nat) → h[i]? = h[i]? := fun _ _ => rfl
  refine zx_M_of (Nat.le_of_ble_eq_true rfl) zm_83 (L := [some (.inr (.inr (1, 0)))]) rfl ?_
  refine zx_W_ins (pc' := 1) dX7_fault_0 rfl (fun _ => rfl) rfl ?_
  refine zw_gf (pc' := 4) dX7_fault_1 rfl rfl c0_1 rfl ?_
  refine zw_iret dX7_fault_4 rfl rfl ?_
  exact hq _ h hI fr0
def zt_103 : zx_MT := (7, yX7_seed, cX7_seed, 3, (some FieldType.int), 1, 0)
theorem zm_103 : zx_m 103 = zt_103 := rfl
theorem dX7_seed_0 : decode cX7_seed 0 = .ok (.aload_n 0, 1) := by decide +kernel
theorem dX7_seed_1 : decode cX7_seed 1 = .ok (.getfield 23, 3) := by decide +kernel
theorem dX7_seed_4 : decode cX7_seed 4 = .ok (.getfield 310, 3) := by decide +kernel
theorem dX7_seed_7 : decode cX7_seed 7 = .ok (.istore_n 2, 1) := by decide +kernel
theorem dX7_seed_8 : decode cX7_seed 8 = .ok (.aload_n 0, 1) := by decide +kernel
theorem dX7_seed_9 : decode cX7_seed 9 = .ok (.getfield 23, 3) := by decide +kernel
theorem dX7_seed_12 : decode cX7_seed 12 = .ok (.iload_n 1, 1) := by decide +kernel
theorem dX7_seed_13 : decode cX7_seed 13 = .ok (.putfield 310, 3) := by decide +kernel
theorem dX7_seed_16 : decode cX7_seed 16 = .ok (.iload_n 2, 1) := by decide +kernel
theorem dX7_seed_17 : decode cX7_seed 17 = .ok (.ireturn, 1) := by decide +kernel
theorem zc_103 {d : Nat} {h : List zx_C} {w : Int32} {Q : Option zx_V → List zx_C → Prop} (hI : zx_I h)  (hq : ∀ (v : Int32) (h2 : List zx_C), zx_I h2 → (∀ i, i ∉ ([2] : List Nat) → h2[i]? = h[i]?) → Q (some (.inl v)) h2) : zx_M d 103 [.inr (.inr (1, 0)), .inl w] h Q := by
  obtain ⟨x1, c0_1, it1, lf1, rfl, hit1⟩ := zi_g hI 0 (by decide)
  obtain ⟨x2, c2_2, bg2, mo2, le2, na2, on2, bi2, ra2, wo2, he2, mi2, se2, rfl, hh2, hk2⟩ := zi_g hI 2 (by decide)
  have fr0 : ∀ i, i ∉ ([2] : List Nat) → h[i]? = h[i]? := fun _ _ => rfl
  refine zx_M_of (Nat.le_of_ble_eq_true rfl) zm_103 (L := [some (.inr (.inr (1, 0))), some (.inl w), none]) rfl ?_
  refine zx_W_ins (pc' := 1) dX7_seed_0 rfl (fun _ => rfl) rfl ?_
  refine zw_gf (pc' := 4) dX7_seed_1 rfl rfl c0_1 rfl ?_
  refine zw_gf (pc' := 7) dX7_seed_4 rfl rfl c2_2 rfl ?_
  refine zx_W_ins (pc' := 8) (L' := [some (.inr (.inr (1, 0))), some (.inl w), some (.inl se2)]) dX7_seed_7 rfl (fun _ => rfl) rfl ?_
  refine zx_W_ins (pc' := 9) dX7_seed_8 rfl (fun _ => rfl) rfl ?_
  refine zw_gf (pc' := 12) dX7_seed_9 rfl rfl c0_1 rfl ?_
  refine zx_W_ins (pc' := 13) dX7_seed_12 rfl (fun _ => rfl) rfl ?_
  refine zw_pf (pc' := 16) dX7_seed_13 rfl rfl c2_2 rfl (fs' := [.inr (.inr (1, 3)), .inr (.inr (1, 8)), .inl bg2, .inl mo2, .inl le2, .inl na2, .inl on2, .inl bi2, .inl ra2, .inl wo2, .inl he2, .inl mi2, .inl w]) rfl ?_
  obtain ⟨h3, e4⟩ : ∃ z, z = h.set 2 (.inl (5, [.inr (.inr (1, 3)), .inr (.inr (1, 8)), .inl bg2, .inl mo2, .inl le2, .inl na2, .inl on2, .inl bi2, .inl ra2, .inl wo2, .inl he2, .inl mi2, .inl w])) := ⟨_, rfl⟩
  rw [← e4]
  have c5 : h3[0]? = some (.inl (7, [.inr (.inr (1, 1)), .inr (.inr (1, 2)), .inr (.inr (1, 9)), .inr (.inr (1, 16)), .inr (.inr (1, 18)), .inr (.inr (1, 21)), .inr (.inr (1, 35)), .inr (.inr (1, 44)), .inr (.inr (1, 46)), .inl it1, .inl lf1])) := by rw [e4, List.getElem?_set_ne (by first | decide | omega)]; exact c0_1
  have c6 : h3[2]? = some (.inl (5, [.inr (.inr (1, 3)), .inr (.inr (1, 8)), .inl bg2, .inl mo2, .inl le2, .inl na2, .inl on2, .inl bi2, .inl ra2, .inl wo2, .inl he2, .inl mi2, .inl w])) := by rw [e4, List.getElem?_set_self (List.getElem?_eq_some_iff.mp c2_2).1]
  have hI7 : zx_I h3 := by rw [e4]; exact zi_set hI (show zc_walk 3 8 _ from ⟨_, _, _, _, _, _, _, _, _, _, _, rfl, by omega, by omega⟩) (by decide) (by decide)
  have fr8 : ∀ i, i ∉ ([2] : List Nat) → h3[i]? = h[i]? := fun i hi => Eq.trans (b := h[i]?) (by rw [e4, List.getElem?_set_ne (fun z => hi (by rw [← z]; decide))]) (fr0 i hi)
  refine zx_W_ins (pc' := 17) dX7_seed_16 rfl (fun _ => rfl) rfl ?_
  refine zw_iret dX7_seed_17 rfl rfl ?_
  exact hq _ h3 hI7 fr8
def zt_163 : zx_MT := (8, yX8_fault, cX8_fault, 1, (some FieldType.int), 0, 0)
theorem zm_163 : zx_m 163 = zt_163 := rfl
theorem dX8_fault_0 : decode cX8_fault 0 = .ok (.aload_n 0, 1) := by decide +kernel
theorem dX8_fault_1 : decode cX8_fault 1 = .ok (.getfield 34, 3) := by decide +kernel
theorem dX8_fault_4 : decode cX8_fault 4 = .ok (.ireturn, 1) := by decide +kernel
theorem zc_163 {d : Nat} {h : List zx_C}  {Q : Option zx_V → List zx_C → Prop} (hI : zx_I h)  (hq : ∀ (v : Int32) (h2 : List zx_C), zx_I h2 → (∀ i, i ∉ ([] : List Nat) → h2[i]? = h[i]?) → Q (some (.inl v)) h2) : zx_M d 163 [.inr (.inr (1, 63))] h Q := by
  obtain ⟨x1, c63_1, m_furlongs1, m_many1, m_bagged1, m_legs1, m_most1, m_nap1, m_on1, m_biscuits1, m_races1, m_worn1, m_here1, m_minutes1, m_seed1, m_fault1, m_base1, m_at1, m_end1, m_number1, m_wrongAt1, m_bestMany1, m_bestHere1, m_bestWorn1, m_bestMinutes1, m_turn1, m_ever1, m_made1, m_ruleHere1, m_ruleMinutes1, m_ruleEver1, m_ran1, m_isKept1, rfl, q0_1, q1_1, q2_1, q3_1, q4_1, q5_1, q6_1, q7_1, q8_1⟩ := zi_g hI 63 (by decide)
  have fr0 : ∀ i, i ∉ ([] : List Nat) → h[i]? = h[i]? := fun _ _ => rfl
  refine zx_M_of (Nat.le_of_ble_eq_true rfl) zm_163 (L := [some (.inr (.inr (1, 63)))]) rfl ?_
  refine zx_W_ins (pc' := 1) dX8_fault_0 rfl (fun _ => rfl) rfl ?_
  refine zw_gf (pc' := 4) dX8_fault_1 rfl rfl c63_1 rfl ?_
  refine zw_iret dX8_fault_4 rfl rfl ?_
  exact hq _ h hI fr0
def zt_201 : zx_MT := (8, yX8_seed, cX8_seed, 3, (some FieldType.int), 1, 0)
theorem zm_201 : zx_m 201 = zt_201 := rfl
theorem dX8_seed_0 : decode cX8_seed 0 = .ok (.aload_n 0, 1) := by decide +kernel
theorem dX8_seed_1 : decode cX8_seed 1 = .ok (.getfield 31, 3) := by decide +kernel
theorem dX8_seed_4 : decode cX8_seed 4 = .ok (.istore_n 2, 1) := by decide +kernel
theorem dX8_seed_5 : decode cX8_seed 5 = .ok (.aload_n 0, 1) := by decide +kernel
theorem dX8_seed_6 : decode cX8_seed 6 = .ok (.iload_n 1, 1) := by decide +kernel
theorem dX8_seed_7 : decode cX8_seed 7 = .ok (.putfield 31, 3) := by decide +kernel
theorem dX8_seed_10 : decode cX8_seed 10 = .ok (.iload_n 2, 1) := by decide +kernel
theorem dX8_seed_11 : decode cX8_seed 11 = .ok (.ireturn, 1) := by decide +kernel
theorem zc_201 {d : Nat} {h : List zx_C} {w : Int32} {Q : Option zx_V → List zx_C → Prop} (hI : zx_I h)  (hq : ∀ (v : Int32) (h2 : List zx_C), zx_I h2 → (∀ i, i ∉ ([63] : List Nat) → h2[i]? = h[i]?) → Q (some (.inl v)) h2) : zx_M d 201 [.inr (.inr (1, 63)), .inl w] h Q := by
  obtain ⟨x1, c63_1, m_furlongs1, m_many1, m_bagged1, m_legs1, m_most1, m_nap1, m_on1, m_biscuits1, m_races1, m_worn1, m_here1, m_minutes1, m_seed1, m_fault1, m_base1, m_at1, m_end1, m_number1, m_wrongAt1, m_bestMany1, m_bestHere1, m_bestWorn1, m_bestMinutes1, m_turn1, m_ever1, m_made1, m_ruleHere1, m_ruleMinutes1, m_ruleEver1, m_ran1, m_isKept1, rfl, q0_1, q1_1, q2_1, q3_1, q4_1, q5_1, q6_1, q7_1, q8_1⟩ := zi_g hI 63 (by decide)
  have fr0 : ∀ i, i ∉ ([63] : List Nat) → h[i]? = h[i]? := fun _ _ => rfl
  refine zx_M_of (Nat.le_of_ble_eq_true rfl) zm_201 (L := [some (.inr (.inr (1, 63))), some (.inl w), none]) rfl ?_
  refine zx_W_ins (pc' := 1) dX8_seed_0 rfl (fun _ => rfl) rfl ?_
  refine zw_gf (pc' := 4) dX8_seed_1 rfl rfl c63_1 rfl ?_
  refine zx_W_ins (pc' := 5) (L' := [some (.inr (.inr (1, 63))), some (.inl w), some (.inl m_seed1)]) dX8_seed_4 rfl (fun _ => rfl) rfl ?_
  refine zx_W_ins (pc' := 6) dX8_seed_5 rfl (fun _ => rfl) rfl ?_
  refine zx_W_ins (pc' := 7) dX8_seed_6 rfl (fun _ => rfl) rfl ?_
  refine zw_pf (pc' := 10) dX8_seed_7 rfl rfl c63_1 rfl (fs' := [.inl m_furlongs1, .inl m_many1, .inl m_bagged1, .inl m_legs1, .inl m_most1, .inl m_nap1, .inl m_on1, .inl m_biscuits1, .inl m_races1, .inl m_worn1, .inl m_here1, .inl m_minutes1, .inl w, .inl m_fault1, .inr (.inr (1, 64)), .inr (.inr (1, 65)), .inr (.inr (1, 66)), .inr (.inr (1, 67)), .inr (.inr (1, 68)), .inr (.inr (1, 69)), .inr (.inr (1, 70)), .inr (.inr (1, 71)), .inr (.inr (1, 72)), .inr (.inr (1, 73)), .inr (.inr (1, 74)), .inr (.inr (1, 75)), .inr (.inr (1, 76)), .inr (.inr (1, 77)), .inr (.inr (1, 78)), .inl m_base1, .inl m_at1, .inl m_end1, .inl m_number1, .inl m_wrongAt1, .inr (.inr (1, 79)), .inr (.inr (1, 80)), .inr (.inr (1, 81)), .inr (.inr (1, 82)), .inr (.inr (1, 83)), .inr (.inr (1, 84)), .inl m_bestMany1, .inl m_bestHere1, .inl m_bestWorn1, .inl m_bestMinutes1, .inl m_turn1, .inl m_ever1, .inl m_made1, .inl m_ruleHere1, .inl m_ruleMinutes1, .inl m_ruleEver1, .inr (.inr (1, 85)), .inl m_ran1, .inl m_isKept1]) rfl ?_
  obtain ⟨h2, e3⟩ : ∃ z, z = h.set 63 (.inl (8, [.inl m_furlongs1, .inl m_many1, .inl m_bagged1, .inl m_legs1, .inl m_most1, .inl m_nap1, .inl m_on1, .inl m_biscuits1, .inl m_races1, .inl m_worn1, .inl m_here1, .inl m_minutes1, .inl w, .inl m_fault1, .inr (.inr (1, 64)), .inr (.inr (1, 65)), .inr (.inr (1, 66)), .inr (.inr (1, 67)), .inr (.inr (1, 68)), .inr (.inr (1, 69)), .inr (.inr (1, 70)), .inr (.inr (1, 71)), .inr (.inr (1, 72)), .inr (.inr (1, 73)), .inr (.inr (1, 74)), .inr (.inr (1, 75)), .inr (.inr (1, 76)), .inr (.inr (1, 77)), .inr (.inr (1, 78)), .inl m_base1, .inl m_at1, .inl m_end1, .inl m_number1, .inl m_wrongAt1, .inr (.inr (1, 79)), .inr (.inr (1, 80)), .inr (.inr (1, 81)), .inr (.inr (1, 82)), .inr (.inr (1, 83)), .inr (.inr (1, 84)), .inl m_bestMany1, .inl m_bestHere1, .inl m_bestWorn1, .inl m_bestMinutes1, .inl m_turn1, .inl m_ever1, .inl m_made1, .inl m_ruleHere1, .inl m_ruleMinutes1, .inl m_ruleEver1, .inr (.inr (1, 85)), .inl m_ran1, .inl m_isKept1])) := ⟨_, rfl⟩
  rw [← e3]
  have c4 : h2[63]? = some (.inl (8, [.inl m_furlongs1, .inl m_many1, .inl m_bagged1, .inl m_legs1, .inl m_most1, .inl m_nap1, .inl m_on1, .inl m_biscuits1, .inl m_races1, .inl m_worn1, .inl m_here1, .inl m_minutes1, .inl w, .inl m_fault1, .inr (.inr (1, 64)), .inr (.inr (1, 65)), .inr (.inr (1, 66)), .inr (.inr (1, 67)), .inr (.inr (1, 68)), .inr (.inr (1, 69)), .inr (.inr (1, 70)), .inr (.inr (1, 71)), .inr (.inr (1, 72)), .inr (.inr (1, 73)), .inr (.inr (1, 74)), .inr (.inr (1, 75)), .inr (.inr (1, 76)), .inr (.inr (1, 77)), .inr (.inr (1, 78)), .inl m_base1, .inl m_at1, .inl m_end1, .inl m_number1, .inl m_wrongAt1, .inr (.inr (1, 79)), .inr (.inr (1, 80)), .inr (.inr (1, 81)), .inr (.inr (1, 82)), .inr (.inr (1, 83)), .inr (.inr (1, 84)), .inl m_bestMany1, .inl m_bestHere1, .inl m_bestWorn1, .inl m_bestMinutes1, .inl m_turn1, .inl m_ever1, .inl m_made1, .inl m_ruleHere1, .inl m_ruleMinutes1, .inl m_ruleEver1, .inr (.inr (1, 85)), .inl m_ran1, .inl m_isKept1])) := by rw [e3, List.getElem?_set_self (List.getElem?_eq_some_iff.mp c63_1).1]
  have hI5 : zx_I h2 := by rw [e3]; exact zi_set hI (show zc_ref _ from ⟨_, _, _, _, _, _, _, _, _, _, _, _, _, _, _, _, _, _, _, _, _, _, _, _, _, _, _, _, _, _, _, rfl, by omega, by omega, by omega, by omega, by omega, by omega, by omega, by omega, by assumption⟩) (by decide) (by decide)
  have fr6 : ∀ i, i ∉ ([63] : List Nat) → h2[i]? = h[i]? := fun i hi => Eq.trans (b := h[i]?) (by rw [e3, List.getElem?_set_ne (fun z => hi (by rw [← z]; decide))]) (fr0 i hi)
  refine zx_W_ins (pc' := 11) dX8_seed_10 rfl (fun _ => rfl) rfl ?_
  refine zw_iret dX8_seed_11 rfl rfl ?_
  exact hq _ h2 hI5 fr6
