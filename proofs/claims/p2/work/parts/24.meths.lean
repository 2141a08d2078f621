/-! part 24: methods that change a cell or two: laid by wip/p2/meths.py -/
def zt_109 : zx_MT := (7, yX7_refuse, cX7_refuse, 2, (some FieldType.int), 1, 0)
theorem zm_109 : zx_m 109 = zt_109 := rfl
theorem dX7_refuse_0 : decode cX7_refuse 0 = .ok (.aload_n 0, 1) := by decide +kernel
theorem dX7_refuse_1 : decode cX7_refuse 1 = .ok (.getfield 65, 3) := by decide +kernel
theorem dX7_refuse_4 : decode cX7_refuse 4 = .ok (.iload_n 1, 1) := by decide +kernel
theorem dX7_refuse_5 : decode cX7_refuse 5 = .ok (.dup2, 1) := by decide +kernel
theorem dX7_refuse_6 : decode cX7_refuse 6 = .ok (.iaload, 1) := by decide +kernel
theorem dX7_refuse_7 : decode cX7_refuse 7 = .ok (.iconst 1, 1) := by decide +kernel
theorem dX7_refuse_8 : decode cX7_refuse 8 = .ok (.iadd, 1) := by decide +kernel
theorem dX7_refuse_9 : decode cX7_refuse 9 = .ok (.iastore, 1) := by decide +kernel
theorem dX7_refuse_10 : decode cX7_refuse 10 = .ok (.iload_n 1, 1) := by decide +kernel
theorem dX7_refuse_11 : decode cX7_refuse 11 = .ok (.ineg, 1) := by decide +kernel
theorem dX7_refuse_12 : decode cX7_refuse 12 = .ok (.ireturn, 1) := by decide +kernel
theorem zc_109 {d : Nat} {h : List zx_C} {w : Int32} {Q : Option zx_V → List zx_C → Prop} (hI : zx_I h)   (hw : 0 ≤ w.toInt ∧ w.toInt < 8) (hq : ∀ (v : Int32) (h2 : List zx_C), zx_I h2 → (∀ i, i ∉ ([46] : List Nat) → h2[i]? = h[i]?) → v = -w → Q (some (.inl v)) h2) : zx_M (d) 109 [.inr (.inr (1, 0)), .inl w] h Q := by
  have el_1 : (1 : Int32).toInt = 1 := by decide
  obtain ⟨x1, c0_1, it1, lf1, rfl, hit1⟩ := zi_g hI 0 (by decide)
  obtain ⟨x2, c46_2, f46_2, rfl, l46_2⟩ := zi_g hI 46 (by decide)
  have fr0 : ∀ i, i ∉ ([46] : List Nat) → h[i]? = h[i]? := fun _ _ => rfl
  refine zx_M_of (Nat.le_of_ble_eq_true rfl) zm_109 (L := [some (.inr (.inr (1, 0))), some (.inl w)]) rfl ?_
  refine zx_W_ins (pc' := 1) dX7_refuse_0 rfl (fun _ => rfl) rfl ?_
  refine zw_gf (pc' := 4) dX7_refuse_1 rfl rfl c0_1 rfl ?_
  refine zx_W_ins (pc' := 5) dX7_refuse_4 rfl (fun _ => rfl) rfl ?_
  refine zx_W_ins (pc' := 6) dX7_refuse_5 rfl (fun _ => rfl) rfl ?_
  refine zw_ial (pc' := 7) dX7_refuse_6 rfl c46_2 (zi_in (by have := l46_2; omega)) ?_
  refine zw_ic (v := 1) (pc' := 8) dX7_refuse_7 rfl rfl ?_
  refine zx_W_ins (pc' := 9) dX7_refuse_8 rfl (fun _ => rfl) rfl ?_
  refine zw_ias (pc' := 10) dX7_refuse_9 rfl c46_2 (zi_in (by have := l46_2; omega)) ?_
  obtain ⟨h3, e4⟩ : ∃ z, z = h.set 46 (.inr (0, .inl (f46_2.set w.toNatClampNeg ((f46_2.getD w.toNatClampNeg 0) + 1)))) := ⟨_, rfl⟩
  rw [← e4]
  have c5 : h3[0]? = some (.inl (7, [.inr (.inr (1, 1)), .inr (.inr (1, 2)), .inr (.inr (1, 9)), .inr (.inr (1, 16)), .inr (.inr (1, 18)), .inr (.inr (1, 21)), .inr (.inr (1, 35)), .inr (.inr (1, 44)), .inr (.inr (1, 46)), .inl it1, .inl lf1])) := by rw [e4, List.getElem?_set_ne (by first | decide | omega)]; exact c0_1
  have c6 : h3[46]? = some (.inr (0, .inl (f46_2.set w.toNatClampNeg ((f46_2.getD w.toNatClampNeg 0) + 1)))) := by rw [e4, List.getElem?_set_self (List.getElem?_eq_some_iff.mp c46_2).1]
  have hI7 : zx_I h3 := by rw [e4]; exact zi_set hI (show zc_row 8 _ from ⟨_, rfl, by rw [List.length_set]; exact l46_2⟩) (by decide) (by decide)
  have l8 := (List.length_set (as := f46_2) (i := w.toNatClampNeg) (a := ((f46_2.getD w.toNatClampNeg 0) + 1))).trans l46_2
  have fr9 : ∀ i, i ∉ ([46] : List Nat) → h3[i]? = h[i]? := fun i hi => Eq.trans (b := h[i]?) (by rw [e4, List.getElem?_set_ne (fun z => hi (by rw [← z]; decide))]) (fr0 i hi)
  refine zx_W_ins (pc' := 11) dX7_refuse_10 rfl (fun _ => rfl) rfl ?_
  refine zx_W_ins (pc' := 12) dX7_refuse_11 rfl (fun _ => rfl) rfl ?_
  refine zw_iret dX7_refuse_12 rfl rfl ?_
  exact hq _ h3 hI7 fr9 rfl
def zt_110 : zx_MT := (7, yX7_refuseFar, cX7_refuseFar, 2, (some FieldType.int), 1, 0)
theorem zm_110 : zx_m 110 = zt_110 := rfl
theorem dX7_refuseFar_0 : decode cX7_refuseFar 0 = .ok (.aload_n 0, 1) := by decide +kernel
theorem dX7_refuseFar_1 : decode cX7_refuseFar 1 = .ok (.getfield 65, 3) := by decide +kernel
theorem dX7_refuseFar_4 : decode cX7_refuseFar 4 = .ok (.iload_n 1, 1) := by decide +kernel
theorem dX7_refuseFar_5 : decode cX7_refuseFar 5 = .ok (.dup2, 1) := by decide +kernel
theorem dX7_refuseFar_6 : decode cX7_refuseFar 6 = .ok (.iaload, 1) := by decide +kernel
theorem dX7_refuseFar_7 : decode cX7_refuseFar 7 = .ok (.iconst 1, 1) := by decide +kernel
theorem dX7_refuseFar_8 : decode cX7_refuseFar 8 = .ok (.iadd, 1) := by decide +kernel
theorem dX7_refuseFar_9 : decode cX7_refuseFar 9 = .ok (.iastore, 1) := by decide +kernel
theorem dX7_refuseFar_10 : decode cX7_refuseFar 10 = .ok (.bipush (-10), 2) := by decide +kernel
theorem dX7_refuseFar_12 : decode cX7_refuseFar 12 = .ok (.iload_n 1, 1) := by decide +kernel
theorem dX7_refuseFar_13 : decode cX7_refuseFar 13 = .ok (.isub, 1) := by decide +kernel
theorem dX7_refuseFar_14 : decode cX7_refuseFar 14 = .ok (.ireturn, 1) := by decide +kernel
theorem zc_110 {d : Nat} {h : List zx_C} {w : Int32} {Q : Option zx_V → List zx_C → Prop} (hI : zx_I h)   (hw : 0 ≤ w.toInt ∧ w.toInt < 8) (hq : ∀ (v : Int32) (h2 : List zx_C), zx_I h2 → (∀ i, i ∉ ([46] : List Nat) → h2[i]? = h[i]?) → Q (some (.inl v)) h2) : zx_M (d) 110 [.inr (.inr (1, 0)), .inl w] h Q := by
  have el_m10 : ((-10) : Int32).toInt = -10 := by decide
  have el_1 : (1 : Int32).toInt = 1 := by decide
  obtain ⟨x1, c0_1, it1, lf1, rfl, hit1⟩ := zi_g hI 0 (by decide)
  obtain ⟨x2, c46_2, f46_2, rfl, l46_2⟩ := zi_g hI 46 (by decide)
  have fr0 : ∀ i, i ∉ ([46] : List Nat) → h[i]? = h[i]? := fun _ _ => rfl
  refine zx_M_of (Nat.le_of_ble_eq_true rfl) zm_110 (L := [some (.inr (.inr (1, 0))), some (.inl w)]) rfl ?_
  refine zx_W_ins (pc' := 1) dX7_refuseFar_0 rfl (fun _ => rfl) rfl ?_
  refine zw_gf (pc' := 4) dX7_refuseFar_1 rfl rfl c0_1 rfl ?_
  refine zx_W_ins (pc' := 5) dX7_refuseFar_4 rfl (fun _ => rfl) rfl ?_
  refine zx_W_ins (pc' := 6) dX7_refuseFar_5 rfl (fun _ => rfl) rfl ?_
  refine zw_ial (pc' := 7) dX7_refuseFar_6 rfl c46_2 (zi_in (by have := l46_2; omega)) ?_
  refine zw_ic (v := 1) (pc' := 8) dX7_refuseFar_7 rfl rfl ?_
  refine zx_W_ins (pc' := 9) dX7_refuseFar_8 rfl (fun _ => rfl) rfl ?_
  refine zw_ias (pc' := 10) dX7_refuseFar_9 rfl c46_2 (zi_in (by have := l46_2; omega)) ?_
  obtain ⟨h3, e4⟩ : ∃ z, z = h.set 46 (.inr (0, .inl (f46_2.set w.toNatClampNeg ((f46_2.getD w.toNatClampNeg 0) + 1)))) := ⟨_, rfl⟩
  rw [← e4]
  have c5 : h3[0]? = some (.inl (7, [.inr (.inr (1, 1)), .inr (.inr (1, 2)), .inr (.inr (1, 9)), .inr (.inr (1, 16)), .inr (.inr (1, 18)), .inr (.inr (1, 21)), .inr (.inr (1, 35)), .inr (.inr (1, 44)), .inr (.inr (1, 46)), .inl it1, .inl lf1])) := by rw [e4, List.getElem?_set_ne (by first | decide | omega)]; exact c0_1
  have c6 : h3[46]? = some (.inr (0, .inl (f46_2.set w.toNatClampNeg ((f46_2.getD w.toNatClampNeg 0) + 1)))) := by rw [e4, List.getElem?_set_self (List.getElem?_eq_some_iff.mp c46_2).1]
  have hI7 : zx_I h3 := by rw [e4]; exact zi_set hI (show zc_row 8 _ from ⟨_, rfl, by rw [List.length_set]; exact l46_2⟩) (by decide) (by decide)
  have l8 := (List.length_set (as := f46_2) (i := w.toNatClampNeg) (a := ((f46_2.getD w.toNatClampNeg 0) + 1))).trans l46_2
  have fr9 : ∀ i, i ∉ ([46] : List Nat) → h3[i]? = h[i]? := fun i hi => Eq.trans (b := h[i]?) (by rw [e4, List.getElem?_set_ne (fun z => hi (by rw [← z]; decide))]) (fr0 i hi)
  refine zw_bi (v := (-10)) (pc' := 12) dX7_refuseFar_10 rfl rfl ?_
  refine zx_W_ins (pc' := 13) dX7_refuseFar_12 rfl (fun _ => rfl) rfl ?_
  refine zx_W_ins (pc' := 14) dX7_refuseFar_13 rfl (fun _ => rfl) rfl ?_
  refine zw_iret dX7_refuseFar_14 rfl rfl ?_
  exact hq _ h3 hI7 fr9
def zt_125 : zx_MT := (8, yX8_no, cX8_no, 2, (some FieldType.int), 1, 0)
theorem zm_125 : zx_m 125 = zt_125 := rfl
theorem dX8_no_0 : decode cX8_no 0 = .ok (.aload_n 0, 1) := by decide +kernel
theorem dX8_no_1 : decode cX8_no 1 = .ok (.getfield 37, 3) := by decide +kernel
theorem dX8_no_4 : decode cX8_no 4 = .ok (.iload_n 1, 1) := by decide +kernel
theorem dX8_no_5 : decode cX8_no 5 = .ok (.ineg, 1) := by decide +kernel
theorem dX8_no_6 : decode cX8_no 6 = .ok (.dup2, 1) := by decide +kernel
theorem dX8_no_7 : decode cX8_no 7 = .ok (.iaload, 1) := by decide +kernel
theorem dX8_no_8 : decode cX8_no 8 = .ok (.iconst 1, 1) := by decide +kernel
theorem dX8_no_9 : decode cX8_no 9 = .ok (.iadd, 1) := by decide +kernel
theorem dX8_no_10 : decode cX8_no 10 = .ok (.iastore, 1) := by decide +kernel
theorem dX8_no_11 : decode cX8_no 11 = .ok (.iload_n 1, 1) := by decide +kernel
theorem dX8_no_12 : decode cX8_no 12 = .ok (.ireturn, 1) := by decide +kernel
theorem zc_125 {d : Nat} {h : List zx_C} {w : Int32} {Q : Option zx_V → List zx_C → Prop} (hI : zx_I h)   (hw : -8 < w.toInt ∧ w.toInt ≤ 0) (hq : ∀ (v : Int32) (h2 : List zx_C), zx_I h2 → (∀ i, i ∉ ([64] : List Nat) → h2[i]? = h[i]?) → v = w → Q (some (.inl v)) h2) : zx_M (d) 125 [.inr (.inr (1, 63)), .inl w] h Q := by
  have el_1 : (1 : Int32).toInt = 1 := by decide
  obtain ⟨x1, c63_1, m_furlongs1, m_many1, m_bagged1, m_legs1, m_most1, m_nap1, m_on1, m_biscuits1, m_races1, m_worn1, m_here1, m_minutes1, m_seed1, m_fault1, m_base1, m_at1, m_end1, m_number1, m_wrongAt1, m_bestMany1, m_bestHere1, m_bestWorn1, m_bestMinutes1, m_turn1, m_ever1, m_made1, m_ruleHere1, m_ruleMinutes1, m_ruleEver1, m_ran1, m_isKept1, rfl, q0_1, q1_1, q2_1, q3_1, q4_1, q5_1, q6_1, q7_1, q8_1⟩ := zi_g hI 63 (by decide)
  obtain ⟨x2, c64_2, f64_2, rfl, l64_2⟩ := zi_g hI 64 (by decide)
  have fr0 : ∀ i, i ∉ ([64] : List Nat) → h[i]? = h[i]? := fun _ _ => rfl
  have ew := fb_negI (x := w) (by omega)
  refine zx_M_of (Nat.le_of_ble_eq_true rfl) zm_125 (L := [some (.inr (.inr (1, 63))), some (.inl w)]) rfl ?_
  refine zx_W_ins (pc' := 1) dX8_no_0 rfl (fun _ => rfl) rfl ?_
  refine zw_gf (pc' := 4) dX8_no_1 rfl rfl c63_1 rfl ?_
  refine zx_W_ins (pc' := 5) dX8_no_4 rfl (fun _ => rfl) rfl ?_
  refine zx_W_ins (pc' := 6) dX8_no_5 rfl (fun _ => rfl) rfl ?_
  refine zx_W_ins (pc' := 7) dX8_no_6 rfl (fun _ => rfl) rfl ?_
  refine zw_ial (pc' := 8) dX8_no_7 rfl c64_2 (zi_in (by have := l64_2; omega)) ?_
  refine zw_ic (v := 1) (pc' := 9) dX8_no_8 rfl rfl ?_
  refine zx_W_ins (pc' := 10) dX8_no_9 rfl (fun _ => rfl) rfl ?_
  refine zw_ias (pc' := 11) dX8_no_10 rfl c64_2 (zi_in (by have := l64_2; omega)) ?_
  obtain ⟨h3, e4⟩ : ∃ z, z = h.set 64 (.inr (0, .inl (f64_2.set (-w).toNatClampNeg ((f64_2.getD (-w).toNatClampNeg 0) + 1)))) := ⟨_, rfl⟩
  rw [← e4]
  have c5 : h3[63]? = some (.inl (8, [.inl m_furlongs1, .inl m_many1, .inl m_bagged1, .inl m_legs1, .inl m_most1, .inl m_nap1, .inl m_on1, .inl m_biscuits1, .inl m_races1, .inl m_worn1, .inl m_here1, .inl m_minutes1, .inl m_seed1, .inl m_fault1, .inr (.inr (1, 64)), .inr (.inr (1, 65)), .inr (.inr (1, 66)), .inr (.inr (1, 67)), .inr (.inr (1, 68)), .inr (.inr (1, 69)), .inr (.inr (1, 70)), .inr (.inr (1, 71)), .inr (.inr (1, 72)), .inr (.inr (1, 73)), .inr (.inr (1, 74)), .inr (.inr (1, 75)), .inr (.inr (1, 76)), .inr (.inr (1, 77)), .inr (.inr (1, 78)), .inl m_base1, .inl m_at1, .inl m_end1, .inl m_number1, .inl m_wrongAt1, .inr (.inr (1, 79)), .inr (.inr (1, 80)), .inr (.inr (1, 81)), .inr (.inr (1, 82)), .inr (.inr (1, 83)), .inr (.inr (1, 84)), .inl m_bestMany1, .inl m_bestHere1, .inl m_bestWorn1, .inl m_bestMinutes1, .inl m_turn1, .inl m_ever1, .inl m_made1, .inl m_ruleHere1, .inl m_ruleMinutes1, .inl m_ruleEver1, .inr (.inr (1, 85)), .inl m_ran1, .inl m_isKept1])) := by rw [e4, List.getElem?_set_ne (by first | decide | omega)]; exact c63_1
  have c6 : h3[64]? = some (.inr (0, .inl (f64_2.set (-w).toNatClampNeg ((f64_2.getD (-w).toNatClampNeg 0) + 1)))) := by rw [e4, List.getElem?_set_self (List.getElem?_eq_some_iff.mp c64_2).1]
  have hI7 : zx_I h3 := by rw [e4]; exact zi_set hI (show zc_row 8 _ from ⟨_, rfl, by rw [List.length_set]; exact l64_2⟩) (by decide) (by decide)
  have l8 := (List.length_set (as := f64_2) (i := (-w).toNatClampNeg) (a := ((f64_2.getD (-w).toNatClampNeg 0) + 1))).trans l64_2
  have fr9 : ∀ i, i ∉ ([64] : List Nat) → h3[i]? = h[i]? := fun i hi => Eq.trans (b := h[i]?) (by rw [e4, List.getElem?_set_ne (fun z => hi (by rw [← z]; decide))]) (fr0 i hi)
  refine zx_W_ins (pc' := 12) dX8_no_11 rfl (fun _ => rfl) rfl ?_
  refine zw_iret dX8_no_12 rfl rfl ?_
  exact hq _ h3 hI7 fr9 rfl
def zt_126 : zx_MT := (8, yX8_noTen, cX8_noTen, 2, (some FieldType.int), 1, 0)
theorem zm_126 : zx_m 126 = zt_126 := rfl
theorem dX8_noTen_0 : decode cX8_noTen 0 = .ok (.aload_n 0, 1) := by decide +kernel
theorem dX8_noTen_1 : decode cX8_noTen 1 = .ok (.getfield 37, 3) := by decide +kernel
theorem dX8_noTen_4 : decode cX8_noTen 4 = .ok (.iload_n 1, 1) := by decide +kernel
theorem dX8_noTen_5 : decode cX8_noTen 5 = .ok (.ineg, 1) := by decide +kernel
theorem dX8_noTen_6 : decode cX8_noTen 6 = .ok (.dup2, 1) := by decide +kernel
theorem dX8_noTen_7 : decode cX8_noTen 7 = .ok (.iaload, 1) := by decide +kernel
theorem dX8_noTen_8 : decode cX8_noTen 8 = .ok (.iconst 1, 1) := by decide +kernel
theorem dX8_noTen_9 : decode cX8_noTen 9 = .ok (.iadd, 1) := by decide +kernel
theorem dX8_noTen_10 : decode cX8_noTen 10 = .ok (.iastore, 1) := by decide +kernel
theorem dX8_noTen_11 : decode cX8_noTen 11 = .ok (.iload_n 1, 1) := by decide +kernel
theorem dX8_noTen_12 : decode cX8_noTen 12 = .ok (.bipush 10, 2) := by decide +kernel
theorem dX8_noTen_14 : decode cX8_noTen 14 = .ok (.isub, 1) := by decide +kernel
theorem dX8_noTen_15 : decode cX8_noTen 15 = .ok (.ireturn, 1) := by decide +kernel
theorem zc_126 {d : Nat} {h : List zx_C} {w : Int32} {Q : Option zx_V → List zx_C → Prop} (hI : zx_I h)   (hw : -8 < w.toInt ∧ w.toInt ≤ 0) (hq : ∀ (v : Int32) (h2 : List zx_C), zx_I h2 → (∀ i, i ∉ ([64] : List Nat) → h2[i]? = h[i]?) → Q (some (.inl v)) h2) : zx_M (d) 126 [.inr (.inr (1, 63)), .inl w] h Q := by
  have el_1 : (1 : Int32).toInt = 1 := by decide
  have el_10 : (10 : Int32).toInt = 10 := by decide
  obtain ⟨x1, c63_1, m_furlongs1, m_many1, m_bagged1, m_legs1, m_most1, m_nap1, m_on1, m_biscuits1, m_races1, m_worn1, m_here1, m_minutes1, m_seed1, m_fault1, m_base1, m_at1, m_end1, m_number1, m_wrongAt1, m_bestMany1, m_bestHere1, m_bestWorn1, m_bestMinutes1, m_turn1, m_ever1, m_made1, m_ruleHere1, m_ruleMinutes1, m_ruleEver1, m_ran1, m_isKept1, rfl, q0_1, q1_1, q2_1, q3_1, q4_1, q5_1, q6_1, q7_1, q8_1⟩ := zi_g hI 63 (by decide)
  obtain ⟨x2, c64_2, f64_2, rfl, l64_2⟩ := zi_g hI 64 (by decide)
  have fr0 : ∀ i, i ∉ ([64] : List Nat) → h[i]? = h[i]? := fun _ _ => rfl
  have ew := fb_negI (x := w) (by omega)
  refine zx_M_of (Nat.le_of_ble_eq_true rfl) zm_126 (L := [some (.inr (.inr (1, 63))), some (.inl w)]) rfl ?_
  refine zx_W_ins (pc' := 1) dX8_noTen_0 rfl (fun _ => rfl) rfl ?_
  refine zw_gf (pc' := 4) dX8_noTen_1 rfl rfl c63_1 rfl ?_
  refine zx_W_ins (pc' := 5) dX8_noTen_4 rfl (fun _ => rfl) rfl ?_
  refine zx_W_ins (pc' := 6) dX8_noTen_5 rfl (fun _ => rfl) rfl ?_
  refine zx_W_ins (pc' := 7) dX8_noTen_6 rfl (fun _ => rfl) rfl ?_
  refine zw_ial (pc' := 8) dX8_noTen_7 rfl c64_2 (zi_in (by have := l64_2; omega)) ?_
  refine zw_ic (v := 1) (pc' := 9) dX8_noTen_8 rfl rfl ?_
  refine zx_W_ins (pc' := 10) dX8_noTen_9 rfl (fun _ => rfl) rfl ?_
  refine zw_ias (pc' := 11) dX8_noTen_10 rfl c64_2 (zi_in (by have := l64_2; omega)) ?_
  obtain ⟨h3, e4⟩ : ∃ z, z = h.set 64 (.inr (0, .inl (f64_2.set (-w).toNatClampNeg ((f64_2.getD (-w).toNatClampNeg 0) + 1)))) := ⟨_, rfl⟩
  rw [← e4]
  have c5 : h3[63]? = some (.inl (8, [.inl m_furlongs1, .inl m_many1, .inl m_bagged1, .inl m_legs1, .inl m_most1, .inl m_nap1, .inl m_on1, .inl m_biscuits1, .inl m_races1, .inl m_worn1, .inl m_here1, .inl m_minutes1, .inl m_seed1, .inl m_fault1, .inr (.inr (1, 64)), .inr (.inr (1, 65)), .inr (.inr (1, 66)), .inr (.inr (1, 67)), .inr (.inr (1, 68)), .inr (.inr (1, 69)), .inr (.inr (1, 70)), .inr (.inr (1, 71)), .inr (.inr (1, 72)), .inr (.inr (1, 73)), .inr (.inr (1, 74)), .inr (.inr (1, 75)), .inr (.inr (1, 76)), .inr (.inr (1, 77)), .inr (.inr (1, 78)), .inl m_base1, .inl m_at1, .inl m_end1, .inl m_number1, .inl m_wrongAt1, .inr (.inr (1, 79)), .inr (.inr (1, 80)), .inr (.inr (1, 81)), .inr (.inr (1, 82)), .inr (.inr (1, 83)), .inr (.inr (1, 84)), .inl m_bestMany1, .inl m_bestHere1, .inl m_bestWorn1, .inl m_bestMinutes1, .inl m_turn1, .inl m_ever1, .inl m_made1, .inl m_ruleHere1, .inl m_ruleMinutes1, .inl m_ruleEver1, .inr (.inr (1, 85)), .inl m_ran1, .inl m_isKept1])) := by rw [e4, List.getElem?_set_ne (by first | decide | omega)]; exact c63_1
  have c6 : h3[64]? = some (.inr (0, .inl (f64_2.set (-w).toNatClampNeg ((f64_2.getD (-w).toNatClampNeg 0) + 1)))) := by rw [e4, List.getElem?_set_self (List.getElem?_eq_some_iff.mp c64_2).1]
  have hI7 : zx_I h3 := by rw [e4]; exact zi_set hI (show zc_row 8 _ from ⟨_, rfl, by rw [List.length_set]; exact l64_2⟩) (by decide) (by decide)
  have l8 := (List.length_set (as := f64_2) (i := (-w).toNatClampNeg) (a := ((f64_2.getD (-w).toNatClampNeg 0) + 1))).trans l64_2
  have fr9 : ∀ i, i ∉ ([64] : List Nat) → h3[i]? = h[i]? := fun i hi => Eq.trans (b := h[i]?) (by rw [e4, List.getElem?_set_ne (fun z => hi (by rw [← z]; decide))]) (fr0 i hi)
  refine zx_W_ins (pc' := 12) dX8_noTen_11 rfl (fun _ => rfl) rfl ?_
  refine zw_bi (v := 10) (pc' := 14) dX8_noTen_12 rfl rfl ?_
  refine zx_W_ins (pc' := 15) dX8_noTen_14 rfl (fun _ => rfl) rfl ?_
  refine zw_iret dX8_noTen_15 rfl rfl ?_
  exact hq _ h3 hI7 fr9
def zt_83 : zx_MT := (7, yX7_fault, cX7_fault, 1, (some FieldType.int), 0, 0)
theorem zm_83 : zx_m 83 = zt_83 := rfl
theorem dX7_fault_0 : decode cX7_fault 0 = .ok (.aload_n 0, 1) := by decide +kernel
theorem dX7_fault_1 : decode cX7_fault 1 = .ok (.getfield 73, 3) := by decide +kernel
theorem dX7_fault_4 : decode cX7_fault 4 = .ok (.ireturn, 1) := by decide +kernel
theorem zc_83 {d : Nat} {h : List zx_C}  {Q : Option zx_V → List zx_C → Prop} (hI : zx_I h)    (hq : ∀ (v : Int32) (h2 : List zx_C), zx_I h2 → (∀ i, i ∉ ([] : List Nat) → h2[i]? = h[i]?) → Q (some (.inl v)) h2) : zx_M (d) 83 [.inr (.inr (1, 0))] h Q := by
  obtain ⟨x1, c0_1, it1, lf1, rfl, hit1⟩ := zi_g hI 0 (by decide)
  have fr0 : ∀ i, i ∉ ([] : List Nat) → h[i]? = h[i]? := fun _ _ => rfl
  refine zx_M_of (Nat.le_of_ble_eq_true rfl) zm_83 (L := [some (.inr (.inr (1, 0)))]) rfl ?_
  refine zx_W_ins (pc' := 1) dX7_fault_0 rfl (fun _ => rfl) rfl ?_
  refine zw_gf (pc' := 4) dX7_fault_1 rfl rfl c0_1 rfl ?_
  refine zw_iret dX7_fault_4 rfl rfl ?_
  exact hq _ h hI fr0
def zt_103 : zx_MT := (7, yX7_seed, cX7_seed, 3, (some FieldType.int), 1, 0)
theorem zm_103 : zx_m 103 = zt_103 := rfl
theorem dX7_seed_0 : decode cX7_seed 0 = .ok (.aload_n 0, 1) := by decide +kernel
theorem dX7_seed_1 : decode cX7_seed 1 = .ok (.getfield 23, 3) := by decide +kernel
theorem dX7_seed_4 : decode cX7_seed 4 = .ok (.getfield 310, 3) := by decide +kernel
theorem dX7_seed_7 : decode cX7_seed 7 = .ok (.istore_n 2, 1) := by decide +kernel
theorem dX7_seed_8 : decode cX7_seed 8 = .ok (.aload_n 0, 1) := by decide +kernel
theorem dX7_seed_9 : decode cX7_seed 9 = .ok (.getfield 23, 3) := by decide +kernel
theorem dX7_seed_12 : decode cX7_seed 12 = .ok (.iload_n 1, 1) := by decide +kernel
theorem dX7_seed_13 : decode cX7_seed 13 = .ok (.putfield 310, 3) := by decide +kernel
theorem dX7_seed_16 : decode cX7_seed 16 = .ok (.iload_n 2, 1) := by decide +kernel
theorem dX7_seed_17 : decode cX7_seed 17 = .ok (.ireturn, 1) := by decide +kernel
theorem zc_103 {d : Nat} {h : List zx_C} {w : Int32} {Q : Option zx_V → List zx_C → Prop} (hI : zx_I h)    (hq : ∀ (v : Int32) (h2 : List zx_C), zx_I h2 → (∀ i, i ∉ ([2] : List Nat) → h2[i]? = h[i]?) → Q (some (.inl v)) h2) : zx_M (d) 103 [.inr (.inr (1, 0)), .inl w] h Q := by
  obtain ⟨x1, c0_1, it1, lf1, rfl, hit1⟩ := zi_g hI 0 (by decide)
  obtain ⟨x2, c2_2, bg2, mo2, le2, na2, on2, bi2, ra2, wo2, he2, mi2, se2, rfl, hh2, hk2⟩ := zi_g hI 2 (by decide)
  have fr0 : ∀ i, i ∉ ([2] : List Nat) → h[i]? = h[i]? := fun _ _ => rfl
  refine zx_M_of (Nat.le_of_ble_eq_true rfl) zm_103 (L := [some (.inr (.inr (1, 0))), some (.inl w), none]) rfl ?_
  refine zx_W_ins (pc' := 1) dX7_seed_0 rfl (fun _ => rfl) rfl ?_
  refine zw_gf (pc' := 4) dX7_seed_1 rfl rfl c0_1 rfl ?_
  refine zw_gf (pc' := 7) dX7_seed_4 rfl rfl c2_2 rfl ?_
  refine zx_W_ins (pc' := 8) (L' := [some (.inr (.inr (1, 0))), some (.inl w), some (.inl se2)]) dX7_seed_7 rfl (fun _ => rfl) rfl ?_
  refine zx_W_ins (pc' := 9) dX7_seed_8 rfl (fun _ => rfl) rfl ?_
  refine zw_gf (pc' := 12) dX7_seed_9 rfl rfl c0_1 rfl ?_
  refine zx_W_ins (pc' := 13) dX7_seed_12 rfl (fun _ => rfl) rfl ?_
  refine zw_pf (pc' := 16) dX7_seed_13 rfl rfl c2_2 rfl (fs' := [.inr (.inr (1, 3)), .inr (.inr (1, 8)), .inl bg2, .inl mo2, .inl le2, .inl na2, .inl on2, .inl bi2, .inl ra2, .inl wo2, .inl he2, .inl mi2, .inl w]) rfl ?_
  obtain ⟨h3, e4⟩ : ∃ z, z = h.set 2 (.inl (5, [.inr (.inr (1, 3)), .inr (.inr (1, 8)), .inl bg2, .inl mo2, .inl le2, .inl na2, .inl on2, .inl bi2, .inl ra2, .inl wo2, .inl he2, .inl mi2, .inl w])) := ⟨_, rfl⟩
  rw [← e4]
  have c5 : h3[0]? = some (.inl (7, [.inr (.inr (1, 1)), .inr (.inr (1, 2)), .inr (.inr (1, 9)), .inr (.inr (1, 16)), .inr (.inr (1, 18)), .inr (.inr (1, 21)), .inr (.inr (1, 35)), .inr (.inr (1, 44)), .inr (.inr (1, 46)), .inl it1, .inl lf1])) := by rw [e4, List.getElem?_set_ne (by first | decide | omega)]; exact c0_1
  have c6 : h3[2]? = some (.inl (5, [.inr (.inr (1, 3)), .inr (.inr (1, 8)), .inl bg2, .inl mo2, .inl le2, .inl na2, .inl on2, .inl bi2, .inl ra2, .inl wo2, .inl he2, .inl mi2, .inl w])) := by rw [e4, List.getElem?_set_self (List.getElem?_eq_some_iff.mp c2_2).1]
  have hI7 : zx_I h3 := by rw [e4]; exact zi_set hI (show zc_walk 3 8 _ from ⟨_, _, _, _, _, _, _, _, _, _, _, rfl, by omega, by omega⟩) (by decide) (by decide)
  have fr8 : ∀ i, i ∉ ([2] : List Nat) → h3[i]? = h[i]? := fun i hi => Eq.trans (b := h[i]?) (by rw [e4, List.getElem?_set_ne (fun z => hi (by rw [← z]; decide))]) (fr0 i hi)
  refine zx_W_ins (pc' := 17) dX7_seed_16 rfl (fun _ => rfl) rfl ?_
  refine zw_iret dX7_seed_17 rfl rfl ?_
  exact hq _ h3 hI7 fr8
def zt_163 : zx_MT := (8, yX8_fault, cX8_fault, 1, (some FieldType.int), 0, 0)
theorem zm_163 : zx_m 163 = zt_163 := rfl
theorem dX8_fault_0 : decode cX8_fault 0 = .ok (.aload_n 0, 1) := by decide +kernel
theorem dX8_fault_1 : decode cX8_fault 1 = .ok (.getfield 34, 3) := by decide +kernel
theorem dX8_fault_4 : decode cX8_fault 4 = .ok (.ireturn, 1) := by decide +kernel
theorem zc_163 {d : Nat} {h : List zx_C}  {Q : Option zx_V → List zx_C → Prop} (hI : zx_I h)    (hq : ∀ (v : Int32) (h2 : List zx_C), zx_I h2 → (∀ i, i ∉ ([] : List Nat) → h2[i]? = h[i]?) → Q (some (.inl v)) h2) : zx_M (d) 163 [.inr (.inr (1, 63))] h Q := by
  obtain ⟨x1, c63_1, m_furlongs1, m_many1, m_bagged1, m_legs1, m_most1, m_nap1, m_on1, m_biscuits1, m_races1, m_worn1, m_here1, m_minutes1, m_seed1, m_fault1, m_base1, m_at1, m_end1, m_number1, m_wrongAt1, m_bestMany1, m_bestHere1, m_bestWorn1, m_bestMinutes1, m_turn1, m_ever1, m_made1, m_ruleHere1, m_ruleMinutes1, m_ruleEver1, m_ran1, m_isKept1, rfl, q0_1, q1_1, q2_1, q3_1, q4_1, q5_1, q6_1, q7_1, q8_1⟩ := zi_g hI 63 (by decide)
  have fr0 : ∀ i, i ∉ ([] : List Nat) → h[i]? = h[i]? := fun _ _ => rfl
  refine zx_M_of (Nat.le_of_ble_eq_true rfl) zm_163 (L := [some (.inr (.inr (1, 63)))]) rfl ?_
  refine zx_W_ins (pc' := 1) dX8_fault_0 rfl (fun _ => rfl) rfl ?_
  refine zw_gf (pc' := 4) dX8_fault_1 rfl rfl c63_1 rfl ?_
  refine zw_iret dX8_fault_4 rfl rfl ?_
  exact hq _ h hI fr0
def zt_201 : zx_MT := (8, yX8_seed, cX8_seed, 3, (some FieldType.int), 1, 0)
theorem zm_201 : zx_m 201 = zt_201 := rfl
theorem dX8_seed_0 : decode cX8_seed 0 = .ok (.aload_n 0, 1) := by decide +kernel
theorem dX8_seed_1 : decode cX8_seed 1 = .ok (.getfield 31, 3) := by decide +kernel
theorem dX8_seed_4 : decode cX8_seed 4 = .ok (.istore_n 2, 1) := by decide +kernel
theorem dX8_seed_5 : decode cX8_seed 5 = .ok (.aload_n 0, 1) := by decide +kernel
theorem dX8_seed_6 : decode cX8_seed 6 = .ok (.iload_n 1, 1) := by decide +kernel
theorem dX8_seed_7 : decode cX8_seed 7 = .ok (.putfield 31, 3) := by decide +kernel
theorem dX8_seed_10 : decode cX8_seed 10 = .ok (.iload_n 2, 1) := by decide +kernel
theorem dX8_seed_11 : decode cX8_seed 11 = .ok (.ireturn, 1) := by decide +kernel
theorem zc_201 {d : Nat} {h : List zx_C} {w : Int32} {Q : Option zx_V → List zx_C → Prop} (hI : zx_I h)    (hq : ∀ (v : Int32) (h2 : List zx_C), zx_I h2 → (∀ i, i ∉ ([63] : List Nat) → h2[i]? = h[i]?) → Q (some (.inl v)) h2) : zx_M (d) 201 [.inr (.inr (1, 63)), .inl w] h Q := by
  obtain ⟨x1, c63_1, m_furlongs1, m_many1, m_bagged1, m_legs1, m_most1, m_nap1, m_on1, m_biscuits1, m_races1, m_worn1, m_here1, m_minutes1, m_seed1, m_fault1, m_base1, m_at1, m_end1, m_number1, m_wrongAt1, m_bestMany1, m_bestHere1, m_bestWorn1, m_bestMinutes1, m_turn1, m_ever1, m_made1, m_ruleHere1, m_ruleMinutes1, m_ruleEver1, m_ran1, m_isKept1, rfl, q0_1, q1_1, q2_1, q3_1, q4_1, q5_1, q6_1, q7_1, q8_1⟩ := zi_g hI 63 (by decide)
  have fr0 : ∀ i, i ∉ ([63] : List Nat) → h[i]? = h[i]? := fun _ _ => rfl
  refine zx_M_of (Nat.le_of_ble_eq_true rfl) zm_201 (L := [some (.inr (.inr (1, 63))), some (.inl w), none]) rfl ?_
  refine zx_W_ins (pc' := 1) dX8_seed_0 rfl (fun _ => rfl) rfl ?_
  refine zw_gf (pc' := 4) dX8_seed_1 rfl rfl c63_1 rfl ?_
  refine zx_W_ins (pc' := 5) (L' := [some (.inr (.inr (1, 63))), some (.inl w), some (.inl m_seed1)]) dX8_seed_4 rfl (fun _ => rfl) rfl ?_
  refine zx_W_ins (pc' := 6) dX8_seed_5 rfl (fun _ => rfl) rfl ?_
  refine zx_W_ins (pc' := 7) dX8_seed_6 rfl (fun _ => rfl) rfl ?_
  refine zw_pf (pc' := 10) dX8_seed_7 rfl rfl c63_1 rfl (fs' := [.inl m_furlongs1, .inl m_many1, .inl m_bagged1, .inl m_legs1, .inl m_most1, .inl m_nap1, .inl m_on1, .inl m_biscuits1, .inl m_races1, .inl m_worn1, .inl m_here1, .inl m_minutes1, .inl w, .inl m_fault1, .inr (.inr (1, 64)), .inr (.inr (1, 65)), .inr (.inr (1, 66)), .inr (.inr (1, 67)), .inr (.inr (1, 68)), .inr (.inr (1, 69)), .inr (.inr (1, 70)), .inr (.inr (1, 71)), .inr (.inr (1, 72)), .inr (.inr (1, 73)), .inr (.inr (1, 74)), .inr (.inr (1, 75)), .inr (.inr (1, 76)), .inr (.inr (1, 77)), .inr (.inr (1, 78)), .inl m_base1, .inl m_at1, .inl m_end1, .inl m_number1, .inl m_wrongAt1, .inr (.inr (1, 79)), .inr (.inr (1, 80)), .inr (.inr (1, 81)), .inr (.inr (1, 82)), .inr (.inr (1, 83)), .inr (.inr (1, 84)), .inl m_bestMany1, .inl m_bestHere1, .inl m_bestWorn1, .inl m_bestMinutes1, .inl m_turn1, .inl m_ever1, .inl m_made1, .inl m_ruleHere1, .inl m_ruleMinutes1, .inl m_ruleEver1, .inr (.inr (1, 85)), .inl m_ran1, .inl m_isKept1]) rfl ?_
  obtain ⟨h2, e3⟩ : ∃ z, z = h.set 63 (.inl (8, [.inl m_furlongs1, .inl m_many1, .inl m_bagged1, .inl m_legs1, .inl m_most1, .inl m_nap1, .inl m_on1, .inl m_biscuits1, .inl m_races1, .inl m_worn1, .inl m_here1, .inl m_minutes1, .inl w, .inl m_fault1, .inr (.inr (1, 64)), .inr (.inr (1, 65)), .inr (.inr (1, 66)), .inr (.inr (1, 67)), .inr (.inr (1, 68)), .inr (.inr (1, 69)), .inr (.inr (1, 70)), .inr (.inr (1, 71)), .inr (.inr (1, 72)), .inr (.inr (1, 73)), .inr (.inr (1, 74)), .inr (.inr (1, 75)), .inr (.inr (1, 76)), .inr (.inr (1, 77)), .inr (.inr (1, 78)), .inl m_base1, .inl m_at1, .inl m_end1, .inl m_number1, .inl m_wrongAt1, .inr (.inr (1, 79)), .inr (.inr (1, 80)), .inr (.inr (1, 81)), .inr (.inr (1, 82)), .inr (.inr (1, 83)), .inr (.inr (1, 84)), .inl m_bestMany1, .inl m_bestHere1, .inl m_bestWorn1, .inl m_bestMinutes1, .inl m_turn1, .inl m_ever1, .inl m_made1, .inl m_ruleHere1, .inl m_ruleMinutes1, .inl m_ruleEver1, .inr (.inr (1, 85)), .inl m_ran1, .inl m_isKept1])) := ⟨_, rfl⟩
  rw [← e3]
  have c4 : h2[63]? = some (.inl (8, [.inl m_furlongs1, .inl m_many1, .inl m_bagged1, .inl m_legs1, .inl m_most1, .inl m_nap1, .inl m_on1, .inl m_biscuits1, .inl m_races1, .inl m_worn1, .inl m_here1, .inl m_minutes1, .inl w, .inl m_fault1, .inr (.inr (1, 64)), .inr (.inr (1, 65)), .inr (.inr (1, 66)), .inr (.inr (1, 67)), .inr (.inr (1, 68)), .inr (.inr (1, 69)), .inr (.inr (1, 70)), .inr (.inr (1, 71)), .inr (.inr (1, 72)), .inr (.inr (1, 73)), .inr (.inr (1, 74)), .inr (.inr (1, 75)), .inr (.inr (1, 76)), .inr (.inr (1, 77)), .inr (.inr (1, 78)), .inl m_base1, .inl m_at1, .inl m_end1, .inl m_number1, .inl m_wrongAt1, .inr (.inr (1, 79)), .inr (.inr (1, 80)), .inr (.inr (1, 81)), .inr (.inr (1, 82)), .inr (.inr (1, 83)), .inr (.inr (1, 84)), .inl m_bestMany1, .inl m_bestHere1, .inl m_bestWorn1, .inl m_bestMinutes1, .inl m_turn1, .inl m_ever1, .inl m_made1, .inl m_ruleHere1, .inl m_ruleMinutes1, .inl m_ruleEver1, .inr (.inr (1, 85)), .inl m_ran1, .inl m_isKept1])) := by rw [e3, List.getElem?_set_self (List.getElem?_eq_some_iff.mp c63_1).1]
  have hI5 : zx_I h2 := by rw [e3]; exact zi_set hI (show zc_ref _ from ⟨_, _, _, _, _, _, _, _, _, _, _, _, _, _, _, _, _, _, _, _, _, _, _, _, _, _, _, _, _, _, _, rfl, by omega, by omega, by omega, by omega, by omega, by omega, by omega, by omega, by assumption⟩) (by decide) (by decide)
  have fr6 : ∀ i, i ∉ ([63] : List Nat) → h2[i]? = h[i]? := fun i hi => Eq.trans (b := h[i]?) (by rw [e3, List.getElem?_set_ne (fun z => hi (by rw [← z]; decide))]) (fr0 i hi)
  refine zx_W_ins (pc' := 11) dX8_seed_10 rfl (fun _ => rfl) rfl ?_
  refine zw_iret dX8_seed_11 rfl rfl ?_
  exact hq _ h2 hI5 fr6
def zt_80 : zx_MT := (7, yX7_tire, cX7_tire, 4, (some FieldType.int), 2, 0)
theorem zm_80 : zx_m 80 = zt_80 := rfl
theorem dX7_tire_0 : decode cX7_tire 0 = .ok (.aload_n 0, 1) := by decide +kernel
theorem dX7_tire_1 : decode cX7_tire 1 = .ok (.getfield 23, 3) := by decide +kernel
theorem dX7_tire_4 : decode cX7_tire 4 = .ok (.getfield 30, 3) := by decide +kernel
theorem dX7_tire_7 : decode cX7_tire 7 = .ok (.iload_n 1, 1) := by decide +kernel
theorem dX7_tire_8 : decode cX7_tire 8 = .ok (.invokevirtual 118, 3) := by decide +kernel
theorem dX7_tire_11 : decode cX7_tire 11 = .ok (.ifCond .ne 9, 3) := by decide +kernel
theorem dX7_tire_14 : decode cX7_tire 14 = .ok (.aload_n 0, 1) := by decide +kernel
theorem dX7_tire_15 : decode cX7_tire 15 = .ok (.iconst 1, 1) := by decide +kernel
theorem dX7_tire_16 : decode cX7_tire 16 = .ok (.invokevirtual 82, 3) := by decide +kernel
theorem dX7_tire_19 : decode cX7_tire 19 = .ok (.ireturn, 1) := by decide +kernel
theorem dX7_tire_20 : decode cX7_tire 20 = .ok (.iload_n 2, 1) := by decide +kernel
theorem dX7_tire_21 : decode cX7_tire 21 = .ok (.ifCond .lt 9, 3) := by decide +kernel
theorem dX7_tire_24 : decode cX7_tire 24 = .ok (.iload_n 2, 1) := by decide +kernel
theorem dX7_tire_25 : decode cX7_tire 25 = .ok (.bipush 99, 2) := by decide +kernel
theorem dX7_tire_27 : decode cX7_tire 27 = .ok (.if_icmp .le 10, 3) := by decide +kernel
theorem dX7_tire_30 : decode cX7_tire 30 = .ok (.aload_n 0, 1) := by decide +kernel
theorem dX7_tire_31 : decode cX7_tire 31 = .ok (.bipush 6, 2) := by decide +kernel
theorem dX7_tire_33 : decode cX7_tire 33 = .ok (.invokevirtual 82, 3) := by decide +kernel
theorem dX7_tire_36 : decode cX7_tire 36 = .ok (.ireturn, 1) := by decide +kernel
theorem dX7_tire_37 : decode cX7_tire 37 = .ok (.aload_n 0, 1) := by decide +kernel
theorem dX7_tire_38 : decode cX7_tire 38 = .ok (.getfield 23, 3) := by decide +kernel
theorem dX7_tire_41 : decode cX7_tire 41 = .ok (.getfield 143, 3) := by decide +kernel
theorem dX7_tire_44 : decode cX7_tire 44 = .ok (.iload_n 1, 1) := by decide +kernel
theorem dX7_tire_45 : decode cX7_tire 45 = .ok (.iaload, 1) := by decide +kernel
theorem dX7_tire_46 : decode cX7_tire 46 = .ok (.istore_n 3, 1) := by decide +kernel
theorem dX7_tire_47 : decode cX7_tire 47 = .ok (.aload_n 0, 1) := by decide +kernel
theorem dX7_tire_48 : decode cX7_tire 48 = .ok (.getfield 23, 3) := by decide +kernel
theorem dX7_tire_51 : decode cX7_tire 51 = .ok (.getfield 143, 3) := by decide +kernel
theorem dX7_tire_54 : decode cX7_tire 54 = .ok (.iload_n 1, 1) := by decide +kernel
theorem dX7_tire_55 : decode cX7_tire 55 = .ok (.iload_n 2, 1) := by decide +kernel
theorem dX7_tire_56 : decode cX7_tire 56 = .ok (.iastore, 1) := by decide +kernel
theorem dX7_tire_57 : decode cX7_tire 57 = .ok (.iload_n 3, 1) := by decide +kernel
theorem dX7_tire_58 : decode cX7_tire 58 = .ok (.ireturn, 1) := by decide +kernel
theorem zc_80 {d : Nat} {h : List zx_C} {q : Int32} {w : Int32} {Q : Option zx_V → List zx_C → Prop} (hI : zx_I h)    (hq : ∀ (v : Int32) (h2 : List zx_C), zx_I h2 → (∀ i, i ∉ ([8, 46] : List Nat) → h2[i]? = h[i]?) → Q (some (.inl v)) h2) : zx_M (d + 1) 80 [.inr (.inr (1, 0)), .inl q, .inl w] h Q := by
  have el_1 : (1 : Int32).toInt = 1 := by decide
  have el_6 : (6 : Int32).toInt = 6 := by decide
  have el_99 : (99 : Int32).toInt = 99 := by decide
  obtain ⟨x1, c0_1, it1, lf1, rfl, hit1⟩ := zi_g hI 0 (by decide)
  obtain ⟨x2, c2_2, bg2, mo2, le2, na2, on2, bi2, ra2, wo2, he2, mi2, se2, rfl, hh2, hk2⟩ := zi_g hI 2 (by decide)
  obtain ⟨x3, c3_3, fu3, pe3, rfl, hf3, hg3, hp3, hq3⟩ := zi_g hI 3 (by decide)
  obtain ⟨x4, c8_4, f8_4, rfl, l8_4⟩ := zi_g hI 8 (by decide)
  have fr0 : ∀ i, i ∉ ([8, 46] : List Nat) → h[i]? = h[i]? := fun _ _ => rfl
  refine zx_M_of (Nat.le_of_ble_eq_true rfl) zm_80 (L := [some (.inr (.inr (1, 0))), some (.inl q), some (.inl w), none]) rfl ?_
  refine zx_W_ins (pc' := 1) dX7_tire_0 rfl (fun _ => rfl) rfl ?_
  refine zw_gf (pc' := 4) dX7_tire_1 rfl rfl c0_1 rfl ?_
  refine zw_gf (pc' := 7) dX7_tire_4 rfl rfl c2_2 rfl ?_
  refine zx_W_ins (pc' := 8) dX7_tire_7 rfl (fun _ => rfl) rfl ?_
  refine zw_iv (k := 65) (pc' := 11) dX7_tire_8 rfl rfl rfl rfl c3_3 rfl rfl (zc_65 c3_3 (fun g5 _ => ?_) (fun g5 _ => ?_))
  · show zx_W _ _ _ _ _ _ _ [.inl 1] _ _
    refine zw_if_ne (tgt := 20) (pc' := 14) dX7_tire_11 rfl rfl (fun _ => ?_) (fun g => by first | exact absurd rfl g | exact absurd g (by decide))
    refine zx_W_ins (pc' := 21) dX7_tire_20 rfl (fun _ => rfl) rfl ?_
    refine zw_if_lt (tgt := 30) (pc' := 24) dX7_tire_21 rfl rfl (fun g7 => ?_) (fun g7 => ?_)
    · refine zx_W_ins (pc' := 31) dX7_tire_30 rfl (fun _ => rfl) rfl ?_
      refine zw_bi (v := 6) (pc' := 33) dX7_tire_31 rfl rfl ?_
      refine zw_iv (k := 109) (pc' := 36) dX7_tire_33 rfl rfl rfl rfl c0_1 rfl rfl (zc_109 hI (by omega) (fun v8 h9 hI10 fr11 hvv8 _ => ?_))
      show zx_W _ _ _ _ _ _ _ [.inl v8] _ _
      have fr12 : ∀ i, i ∉ ([8, 46] : List Nat) → h9[i]? = h[i]? := fun i hi => Eq.trans (fr11 i (fun z => hi (by first | exact absurd z List.not_mem_nil | (simp only [List.mem_cons, List.not_mem_nil, or_false] at z ⊢; omega)))) (fr0 i hi)
      have c13 : h9[0]? = some (.inl (7, [.inr (.inr (1, 1)), .inr (.inr (1, 2)), .inr (.inr (1, 9)), .inr (.inr (1, 16)), .inr (.inr (1, 18)), .inr (.inr (1, 21)), .inr (.inr (1, 35)), .inr (.inr (1, 44)), .inr (.inr (1, 46)), .inl it1, .inl lf1])) := by rw [fr11 0 (by decide)]; exact c0_1
      have c14 : h9[2]? = some (.inl (5, [.inr (.inr (1, 3)), .inr (.inr (1, 8)), .inl bg2, .inl mo2, .inl le2, .inl na2, .inl on2, .inl bi2, .inl ra2, .inl wo2, .inl he2, .inl mi2, .inl se2])) := by rw [fr11 2 (by decide)]; exact c2_2
      have c15 : h9[3]? = some (.inl (6, [.inr (.inr (1, 4)), .inr (.inr (1, 5)), .inr (.inr (1, 6)), .inr (.inr (1, 7)), .inl fu3, .inl pe3])) := by rw [fr11 3 (by decide)]; exact c3_3
      have c16 : h9[8]? = some (.inr (0, .inl f8_4)) := by rw [fr11 8 (by decide)]; exact c8_4
      obtain ⟨x17, c46_17, f46_17, rfl, l46_17⟩ := zi_g hI10 46 (by decide)
      refine zw_iret dX7_tire_36 rfl rfl ?_
      exact hq _ h9 hI10 fr12
    · refine zx_W_ins (pc' := 25) dX7_tire_24 rfl (fun _ => rfl) rfl ?_
      refine zw_bi (v := 99) (pc' := 27) dX7_tire_25 rfl rfl ?_
      refine zw_icmp_le (tgt := 37) (pc' := 30) dX7_tire_27 rfl rfl (fun g18 => ?_) (fun g18 => ?_)
      · refine zx_W_ins (pc' := 38) dX7_tire_37 rfl (fun _ => rfl) rfl ?_
        refine zw_gf (pc' := 41) dX7_tire_38 rfl rfl c0_1 rfl ?_
        refine zw_gf (pc' := 44) dX7_tire_41 rfl rfl c2_2 rfl ?_
        refine zx_W_ins (pc' := 45) dX7_tire_44 rfl (fun _ => rfl) rfl ?_
        refine zw_ial (pc' := 46) dX7_tire_45 rfl c8_4 (zi_in (by have := l8_4; omega)) ?_
        refine zx_W_ins (pc' := 47) (L' := [some (.inr (.inr (1, 0))), some (.inl q), some (.inl w), some (.inl (f8_4.getD q.toNatClampNeg 0))]) dX7_tire_46 rfl (fun _ => rfl) rfl ?_
        refine zx_W_ins (pc' := 48) dX7_tire_47 rfl (fun _ => rfl) rfl ?_
        refine zw_gf (pc' := 51) dX7_tire_48 rfl rfl c0_1 rfl ?_
        refine zw_gf (pc' := 54) dX7_tire_51 rfl rfl c2_2 rfl ?_
        refine zx_W_ins (pc' := 55) dX7_tire_54 rfl (fun _ => rfl) rfl ?_
        refine zx_W_ins (pc' := 56) dX7_tire_55 rfl (fun _ => rfl) rfl ?_
        refine zw_ias (pc' := 57) dX7_tire_56 rfl c8_4 (zi_in (by have := l8_4; omega)) ?_
        obtain ⟨h19, e20⟩ : ∃ z, z = h.set 8 (.inr (0, .inl (f8_4.set q.toNatClampNeg w))) := ⟨_, rfl⟩
        rw [← e20]
        have c21 : h19[0]? = some (.inl (7, [.inr (.inr (1, 1)), .inr (.inr (1, 2)), .inr (.inr (1, 9)), .inr (.inr (1, 16)), .inr (.inr (1, 18)), .inr (.inr (1, 21)), .inr (.inr (1, 35)), .inr (.inr (1, 44)), .inr (.inr (1, 46)), .inl it1, .inl lf1])) := by rw [e20, List.getElem?_set_ne (by first | decide | omega)]; exact c0_1
        have c22 : h19[2]? = some (.inl (5, [.inr (.inr (1, 3)), .inr (.inr (1, 8)), .inl bg2, .inl mo2, .inl le2, .inl na2, .inl on2, .inl bi2, .inl ra2, .inl wo2, .inl he2, .inl mi2, .inl se2])) := by rw [e20, List.getElem?_set_ne (by first | decide | omega)]; exact c2_2
        have c23 : h19[3]? = some (.inl (6, [.inr (.inr (1, 4)), .inr (.inr (1, 5)), .inr (.inr (1, 6)), .inr (.inr (1, 7)), .inl fu3, .inl pe3])) := by rw [e20, List.getElem?_set_ne (by first | decide | omega)]; exact c3_3
        have c24 : h19[8]? = some (.inr (0, .inl (f8_4.set q.toNatClampNeg w))) := by rw [e20, List.getElem?_set_self (List.getElem?_eq_some_iff.mp c8_4).1]
        have hI25 : zx_I h19 := by rw [e20]; exact zi_set hI (show zc_row 6 _ from ⟨_, rfl, by rw [List.length_set]; exact l8_4⟩) (by decide) (by decide)
        have l26 := (List.length_set (as := f8_4) (i := q.toNatClampNeg) (a := w)).trans l8_4
        have fr27 : ∀ i, i ∉ ([8, 46] : List Nat) → h19[i]? = h[i]? := fun i hi => Eq.trans (b := h[i]?) (by rw [e20, List.getElem?_set_ne (fun z => hi (by rw [← z]; decide))]) (fr0 i hi)
        refine zx_W_ins (pc' := 58) dX7_tire_57 rfl (fun _ => rfl) rfl ?_
        refine zw_iret dX7_tire_58 rfl rfl ?_
        exact hq _ h19 hI25 fr27
      · refine zx_W_ins (pc' := 31) dX7_tire_30 rfl (fun _ => rfl) rfl ?_
        refine zw_bi (v := 6) (pc' := 33) dX7_tire_31 rfl rfl ?_
        refine zw_iv (k := 109) (pc' := 36) dX7_tire_33 rfl rfl rfl rfl c0_1 rfl rfl (zc_109 hI (by omega) (fun v28 h29 hI30 fr31 hvv28 _ => ?_))
        show zx_W _ _ _ _ _ _ _ [.inl v28] _ _
        have fr32 : ∀ i, i ∉ ([8, 46] : List Nat) → h29[i]? = h[i]? := fun i hi => Eq.trans (fr31 i (fun z => hi (by first | exact absurd z List.not_mem_nil | (simp only [List.mem_cons, List.not_mem_nil, or_false] at z ⊢; omega)))) (fr0 i hi)
        have c33 : h29[0]? = some (.inl (7, [.inr (.inr (1, 1)), .inr (.inr (1, 2)), .inr (.inr (1, 9)), .inr (.inr (1, 16)), .inr (.inr (1, 18)), .inr (.inr (1, 21)), .inr (.inr (1, 35)), .inr (.inr (1, 44)), .inr (.inr (1, 46)), .inl it1, .inl lf1])) := by rw [fr31 0 (by decide)]; exact c0_1
        have c34 : h29[2]? = some (.inl (5, [.inr (.inr (1, 3)), .inr (.inr (1, 8)), .inl bg2, .inl mo2, .inl le2, .inl na2, .inl on2, .inl bi2, .inl ra2, .inl wo2, .inl he2, .inl mi2, .inl se2])) := by rw [fr31 2 (by decide)]; exact c2_2
        have c35 : h29[3]? = some (.inl (6, [.inr (.inr (1, 4)), .inr (.inr (1, 5)), .inr (.inr (1, 6)), .inr (.inr (1, 7)), .inl fu3, .inl pe3])) := by rw [fr31 3 (by decide)]; exact c3_3
        have c36 : h29[8]? = some (.inr (0, .inl f8_4)) := by rw [fr31 8 (by decide)]; exact c8_4
        obtain ⟨x37, c46_37, f46_37, rfl, l46_37⟩ := zi_g hI30 46 (by decide)
        refine zw_iret dX7_tire_36 rfl rfl ?_
        exact hq _ h29 hI30 fr32
  · show zx_W _ _ _ _ _ _ _ [.inl 0] _ _
    refine zw_if_ne (tgt := 20) (pc' := 14) dX7_tire_11 rfl rfl (fun g => by first | exact absurd rfl g | exact absurd g (by decide)) (fun _ => ?_)
    refine zx_W_ins (pc' := 15) dX7_tire_14 rfl (fun _ => rfl) rfl ?_
    refine zw_ic (v := 1) (pc' := 16) dX7_tire_15 rfl rfl ?_
    refine zw_iv (k := 109) (pc' := 19) dX7_tire_16 rfl rfl rfl rfl c0_1 rfl rfl (zc_109 hI (by omega) (fun v39 h40 hI41 fr42 hvv39 _ => ?_))
    show zx_W _ _ _ _ _ _ _ [.inl v39] _ _
    have fr43 : ∀ i, i ∉ ([8, 46] : List Nat) → h40[i]? = h[i]? := fun i hi => Eq.trans (fr42 i (fun z => hi (by first | exact absurd z List.not_mem_nil | (simp only [List.mem_cons, List.not_mem_nil, or_false] at z ⊢; omega)))) (fr0 i hi)
    have c44 : h40[0]? = some (.inl (7, [.inr (.inr (1, 1)), .inr (.inr (1, 2)), .inr (.inr (1, 9)), .inr (.inr (1, 16)), .inr (.inr (1, 18)), .inr (.inr (1, 21)), .inr (.inr (1, 35)), .inr (.inr (1, 44)), .inr (.inr (1, 46)), .inl it1, .inl lf1])) := by rw [fr42 0 (by decide)]; exact c0_1
    have c45 : h40[2]? = some (.inl (5, [.inr (.inr (1, 3)), .inr (.inr (1, 8)), .inl bg2, .inl mo2, .inl le2, .inl na2, .inl on2, .inl bi2, .inl ra2, .inl wo2, .inl he2, .inl mi2, .inl se2])) := by rw [fr42 2 (by decide)]; exact c2_2
    have c46 : h40[3]? = some (.inl (6, [.inr (.inr (1, 4)), .inr (.inr (1, 5)), .inr (.inr (1, 6)), .inr (.inr (1, 7)), .inl fu3, .inl pe3])) := by rw [fr42 3 (by decide)]; exact c3_3
    have c47 : h40[8]? = some (.inr (0, .inl f8_4)) := by rw [fr42 8 (by decide)]; exact c8_4
    obtain ⟨x48, c46_48, f46_48, rfl, l46_48⟩ := zi_g hI41 46 (by decide)
    refine zw_iret dX7_tire_19 rfl rfl ?_
    exact hq _ h40 hI41 fr43
def zt_81 : zx_MT := (7, yX7_bag, cX7_bag, 3, (some FieldType.int), 1, 0)
theorem zm_81 : zx_m 81 = zt_81 := rfl
theorem dX7_bag_0 : decode cX7_bag 0 = .ok (.iload_n 1, 1) := by decide +kernel
theorem dX7_bag_1 : decode cX7_bag 1 = .ok (.iconst (-1), 1) := by decide +kernel
theorem dX7_bag_2 : decode cX7_bag 2 = .ok (.if_icmp .eq 23, 3) := by decide +kernel
theorem dX7_bag_5 : decode cX7_bag 5 = .ok (.aload_n 0, 1) := by decide +kernel
theorem dX7_bag_6 : decode cX7_bag 6 = .ok (.getfield 23, 3) := by decide +kernel
theorem dX7_bag_9 : decode cX7_bag 9 = .ok (.getfield 30, 3) := by decide +kernel
theorem dX7_bag_12 : decode cX7_bag 12 = .ok (.iload_n 1, 1) := by decide +kernel
theorem dX7_bag_13 : decode cX7_bag 13 = .ok (.invokevirtual 118, 3) := by decide +kernel
theorem dX7_bag_16 : decode cX7_bag 16 = .ok (.ifCond .ne 9, 3) := by decide +kernel
theorem dX7_bag_19 : decode cX7_bag 19 = .ok (.aload_n 0, 1) := by decide +kernel
theorem dX7_bag_20 : decode cX7_bag 20 = .ok (.iconst 1, 1) := by decide +kernel
theorem dX7_bag_21 : decode cX7_bag 21 = .ok (.invokevirtual 162, 3) := by decide +kernel
theorem dX7_bag_24 : decode cX7_bag 24 = .ok (.ireturn, 1) := by decide +kernel
theorem dX7_bag_25 : decode cX7_bag 25 = .ok (.aload_n 0, 1) := by decide +kernel
theorem dX7_bag_26 : decode cX7_bag 26 = .ok (.getfield 23, 3) := by decide +kernel
theorem dX7_bag_29 : decode cX7_bag 29 = .ok (.getfield 174, 3) := by decide +kernel
theorem dX7_bag_32 : decode cX7_bag 32 = .ok (.istore_n 2, 1) := by decide +kernel
theorem dX7_bag_33 : decode cX7_bag 33 = .ok (.aload_n 0, 1) := by decide +kernel
theorem dX7_bag_34 : decode cX7_bag 34 = .ok (.getfield 23, 3) := by decide +kernel
theorem dX7_bag_37 : decode cX7_bag 37 = .ok (.iload_n 1, 1) := by decide +kernel
theorem dX7_bag_38 : decode cX7_bag 38 = .ok (.putfield 174, 3) := by decide +kernel
theorem dX7_bag_41 : decode cX7_bag 41 = .ok (.iload_n 2, 1) := by decide +kernel
theorem dX7_bag_42 : decode cX7_bag 42 = .ok (.ireturn, 1) := by decide +kernel
theorem zc_81 {d : Nat} {h : List zx_C} {q : Int32} {Q : Option zx_V → List zx_C → Prop} (hI : zx_I h)    (hq : ∀ (v : Int32) (h2 : List zx_C), zx_I h2 → (∀ i, i ∉ ([2, 46] : List Nat) → h2[i]? = h[i]?) → Q (some (.inl v)) h2) : zx_M (d + 1) 81 [.inr (.inr (1, 0)), .inl q] h Q := by
  have el_m1 : ((-1) : Int32).toInt = -1 := by decide
  have el_1 : (1 : Int32).toInt = 1 := by decide
  obtain ⟨x1, c0_1, it1, lf1, rfl, hit1⟩ := zi_g hI 0 (by decide)
  obtain ⟨x2, c2_2, bg2, mo2, le2, na2, on2, bi2, ra2, wo2, he2, mi2, se2, rfl, hh2, hk2⟩ := zi_g hI 2 (by decide)
  obtain ⟨x3, c3_3, fu3, pe3, rfl, hf3, hg3, hp3, hq3⟩ := zi_g hI 3 (by decide)
  have fr0 : ∀ i, i ∉ ([2, 46] : List Nat) → h[i]? = h[i]? := fun _ _ => rfl
  refine zx_M_of (Nat.le_of_ble_eq_true rfl) zm_81 (L := [some (.inr (.inr (1, 0))), some (.inl q), none]) rfl ?_
  refine zx_W_ins (pc' := 1) dX7_bag_0 rfl (fun _ => rfl) rfl ?_
  refine zw_ic (v := (-1)) (pc' := 2) dX7_bag_1 rfl rfl ?_
  refine zw_icmp_eq (tgt := 25) (pc' := 5) dX7_bag_2 rfl rfl (fun g4 => ?_) (fun g4 => ?_)
  · have g4t : (q).toInt = ((-1) : Int32).toInt := congrArg Int32.toInt g4
    refine zx_W_ins (pc' := 26) dX7_bag_25 rfl (fun _ => rfl) rfl ?_
    refine zw_gf (pc' := 29) dX7_bag_26 rfl rfl c0_1 rfl ?_
    refine zw_gf (pc' := 32) dX7_bag_29 rfl rfl c2_2 rfl ?_
    refine zx_W_ins (pc' := 33) (L' := [some (.inr (.inr (1, 0))), some (.inl q), some (.inl bg2)]) dX7_bag_32 rfl (fun _ => rfl) rfl ?_
    refine zx_W_ins (pc' := 34) dX7_bag_33 rfl (fun _ => rfl) rfl ?_
    refine zw_gf (pc' := 37) dX7_bag_34 rfl rfl c0_1 rfl ?_
    refine zx_W_ins (pc' := 38) dX7_bag_37 rfl (fun _ => rfl) rfl ?_
    refine zw_pf (pc' := 41) dX7_bag_38 rfl rfl c2_2 rfl (fs' := [.inr (.inr (1, 3)), .inr (.inr (1, 8)), .inl q, .inl mo2, .inl le2, .inl na2, .inl on2, .inl bi2, .inl ra2, .inl wo2, .inl he2, .inl mi2, .inl se2]) rfl ?_
    obtain ⟨h5, e6⟩ : ∃ z, z = h.set 2 (.inl (5, [.inr (.inr (1, 3)), .inr (.inr (1, 8)), .inl q, .inl mo2, .inl le2, .inl na2, .inl on2, .inl bi2, .inl ra2, .inl wo2, .inl he2, .inl mi2, .inl se2])) := ⟨_, rfl⟩
    rw [← e6]
    have c7 : h5[0]? = some (.inl (7, [.inr (.inr (1, 1)), .inr (.inr (1, 2)), .inr (.inr (1, 9)), .inr (.inr (1, 16)), .inr (.inr (1, 18)), .inr (.inr (1, 21)), .inr (.inr (1, 35)), .inr (.inr (1, 44)), .inr (.inr (1, 46)), .inl it1, .inl lf1])) := by rw [e6, List.getElem?_set_ne (by first | decide | omega)]; exact c0_1
    have c8 : h5[2]? = some (.inl (5, [.inr (.inr (1, 3)), .inr (.inr (1, 8)), .inl q, .inl mo2, .inl le2, .inl na2, .inl on2, .inl bi2, .inl ra2, .inl wo2, .inl he2, .inl mi2, .inl se2])) := by rw [e6, List.getElem?_set_self (List.getElem?_eq_some_iff.mp c2_2).1]
    have c9 : h5[3]? = some (.inl (6, [.inr (.inr (1, 4)), .inr (.inr (1, 5)), .inr (.inr (1, 6)), .inr (.inr (1, 7)), .inl fu3, .inl pe3])) := by rw [e6, List.getElem?_set_ne (by first | decide | omega)]; exact c3_3
    have hI10 : zx_I h5 := by rw [e6]; exact zi_set hI (show zc_walk 3 8 _ from ⟨_, _, _, _, _, _, _, _, _, _, _, rfl, by omega, by omega⟩) (by decide) (by decide)
    have fr11 : ∀ i, i ∉ ([2, 46] : List Nat) → h5[i]? = h[i]? := fun i hi => Eq.trans (b := h[i]?) (by rw [e6, List.getElem?_set_ne (fun z => hi (by rw [← z]; decide))]) (fr0 i hi)
    refine zx_W_ins (pc' := 42) dX7_bag_41 rfl (fun _ => rfl) rfl ?_
    refine zw_iret dX7_bag_42 rfl rfl ?_
    exact hq _ h5 hI10 fr11
  · have g4t : ¬ (q).toInt = ((-1) : Int32).toInt := fun z => g4 (Int32.toInt_inj.mp z)
    refine zx_W_ins (pc' := 6) dX7_bag_5 rfl (fun _ => rfl) rfl ?_
    refine zw_gf (pc' := 9) dX7_bag_6 rfl rfl c0_1 rfl ?_
    refine zw_gf (pc' := 12) dX7_bag_9 rfl rfl c2_2 rfl ?_
    refine zx_W_ins (pc' := 13) dX7_bag_12 rfl (fun _ => rfl) rfl ?_
    refine zw_iv (k := 65) (pc' := 16) dX7_bag_13 rfl rfl rfl rfl c3_3 rfl rfl (zc_65 c3_3 (fun g12 _ => ?_) (fun g12 _ => ?_))
    · show zx_W _ _ _ _ _ _ _ [.inl 1] _ _
      refine zw_if_ne (tgt := 25) (pc' := 19) dX7_bag_16 rfl rfl (fun _ => ?_) (fun g => by first | exact absurd rfl g | exact absurd g (by decide))
      refine zx_W_ins (pc' := 26) dX7_bag_25 rfl (fun _ => rfl) rfl ?_
      refine zw_gf (pc' := 29) dX7_bag_26 rfl rfl c0_1 rfl ?_
      refine zw_gf (pc' := 32) dX7_bag_29 rfl rfl c2_2 rfl ?_
      refine zx_W_ins (pc' := 33) (L' := [some (.inr (.inr (1, 0))), some (.inl q), some (.inl bg2)]) dX7_bag_32 rfl (fun _ => rfl) rfl ?_
      refine zx_W_ins (pc' := 34) dX7_bag_33 rfl (fun _ => rfl) rfl ?_
      refine zw_gf (pc' := 37) dX7_bag_34 rfl rfl c0_1 rfl ?_
      refine zx_W_ins (pc' := 38) dX7_bag_37 rfl (fun _ => rfl) rfl ?_
      refine zw_pf (pc' := 41) dX7_bag_38 rfl rfl c2_2 rfl (fs' := [.inr (.inr (1, 3)), .inr (.inr (1, 8)), .inl q, .inl mo2, .inl le2, .inl na2, .inl on2, .inl bi2, .inl ra2, .inl wo2, .inl he2, .inl mi2, .inl se2]) rfl ?_
      obtain ⟨h14, e15⟩ : ∃ z, z = h.set 2 (.inl (5, [.inr (.inr (1, 3)), .inr (.inr (1, 8)), .inl q, .inl mo2, .inl le2, .inl na2, .inl on2, .inl bi2, .inl ra2, .inl wo2, .inl he2, .inl mi2, .inl se2])) := ⟨_, rfl⟩
      rw [← e15]
      have c16 : h14[0]? = some (.inl (7, [.inr (.inr (1, 1)), .inr (.inr (1, 2)), .inr (.inr (1, 9)), .inr (.inr (1, 16)), .inr (.inr (1, 18)), .inr (.inr (1, 21)), .inr (.inr (1, 35)), .inr (.inr (1, 44)), .inr (.inr (1, 46)), .inl it1, .inl lf1])) := by rw [e15, List.getElem?_set_ne (by first | decide | omega)]; exact c0_1
      have c17 : h14[2]? = some (.inl (5, [.inr (.inr (1, 3)), .inr (.inr (1, 8)), .inl q, .inl mo2, .inl le2, .inl na2, .inl on2, .inl bi2, .inl ra2, .inl wo2, .inl he2, .inl mi2, .inl se2])) := by rw [e15, List.getElem?_set_self (List.getElem?_eq_some_iff.mp c2_2).1]
      have c18 : h14[3]? = some (.inl (6, [.inr (.inr (1, 4)), .inr (.inr (1, 5)), .inr (.inr (1, 6)), .inr (.inr (1, 7)), .inl fu3, .inl pe3])) := by rw [e15, List.getElem?_set_ne (by first | decide | omega)]; exact c3_3
      have hI19 : zx_I h14 := by rw [e15]; exact zi_set hI (show zc_walk 3 8 _ from ⟨_, _, _, _, _, _, _, _, _, _, _, rfl, by omega, by omega⟩) (by decide) (by decide)
      have fr20 : ∀ i, i ∉ ([2, 46] : List Nat) → h14[i]? = h[i]? := fun i hi => Eq.trans (b := h[i]?) (by rw [e15, List.getElem?_set_ne (fun z => hi (by rw [← z]; decide))]) (fr0 i hi)
      refine zx_W_ins (pc' := 42) dX7_bag_41 rfl (fun _ => rfl) rfl ?_
      refine zw_iret dX7_bag_42 rfl rfl ?_
      exact hq _ h14 hI19 fr20
    · show zx_W _ _ _ _ _ _ _ [.inl 0] _ _
      refine zw_if_ne (tgt := 25) (pc' := 19) dX7_bag_16 rfl rfl (fun g => by first | exact absurd rfl g | exact absurd g (by decide)) (fun _ => ?_)
      refine zx_W_ins (pc' := 20) dX7_bag_19 rfl (fun _ => rfl) rfl ?_
      refine zw_ic (v := 1) (pc' := 21) dX7_bag_20 rfl rfl ?_
      refine zw_iv (k := 110) (pc' := 24) dX7_bag_21 rfl rfl rfl rfl c0_1 rfl rfl (zc_110 hI (by omega) (fun v22 h23 hI24 fr25 _ => ?_))
      show zx_W _ _ _ _ _ _ _ [.inl v22] _ _
      have fr26 : ∀ i, i ∉ ([2, 46] : List Nat) → h23[i]? = h[i]? := fun i hi => Eq.trans (fr25 i (fun z => hi (by first | exact absurd z List.not_mem_nil | (simp only [List.mem_cons, List.not_mem_nil, or_false] at z ⊢; omega)))) (fr0 i hi)
      have c27 : h23[0]? = some (.inl (7, [.inr (.inr (1, 1)), .inr (.inr (1, 2)), .inr (.inr (1, 9)), .inr (.inr (1, 16)), .inr (.inr (1, 18)), .inr (.inr (1, 21)), .inr (.inr (1, 35)), .inr (.inr (1, 44)), .inr (.inr (1, 46)), .inl it1, .inl lf1])) := by rw [fr25 0 (by decide)]; exact c0_1
      have c28 : h23[2]? = some (.inl (5, [.inr (.inr (1, 3)), .inr (.inr (1, 8)), .inl bg2, .inl mo2, .inl le2, .inl na2, .inl on2, .inl bi2, .inl ra2, .inl wo2, .inl he2, .inl mi2, .inl se2])) := by rw [fr25 2 (by decide)]; exact c2_2
      have c29 : h23[3]? = some (.inl (6, [.inr (.inr (1, 4)), .inr (.inr (1, 5)), .inr (.inr (1, 6)), .inr (.inr (1, 7)), .inl fu3, .inl pe3])) := by rw [fr25 3 (by decide)]; exact c3_3
      obtain ⟨x30, c46_30, f46_30, rfl, l46_30⟩ := zi_g hI24 46 (by decide)
      refine zw_iret dX7_bag_24 rfl rfl ?_
      exact hq _ h23 hI24 fr26
def zt_77 : zx_MT := (7, yX7_furlongOf, cX7_furlongOf, 3, (some FieldType.int), 2, 0)
theorem zm_77 : zx_m 77 = zt_77 := rfl
theorem dX7_furlongOf_0 : decode cX7_furlongOf 0 = .ok (.aload_n 0, 1) := by decide +kernel
theorem dX7_furlongOf_1 : decode cX7_furlongOf 1 = .ok (.getfield 23, 3) := by decide +kernel
theorem dX7_furlongOf_4 : decode cX7_furlongOf 4 = .ok (.getfield 30, 3) := by decide +kernel
theorem dX7_furlongOf_7 : decode cX7_furlongOf 7 = .ok (.iload_n 1, 1) := by decide +kernel
theorem dX7_furlongOf_8 : decode cX7_furlongOf 8 = .ok (.invokevirtual 159, 3) := by decide +kernel
theorem dX7_furlongOf_11 : decode cX7_furlongOf 11 = .ok (.ifCond .eq 12, 3) := by decide +kernel
theorem dX7_furlongOf_14 : decode cX7_furlongOf 14 = .ok (.iload_n 2, 1) := by decide +kernel
theorem dX7_furlongOf_15 : decode cX7_furlongOf 15 = .ok (.ifCond .lt 8, 3) := by decide +kernel
theorem dX7_furlongOf_18 : decode cX7_furlongOf 18 = .ok (.iload_n 2, 1) := by decide +kernel
theorem dX7_furlongOf_19 : decode cX7_furlongOf 19 = .ok (.iconst 1, 1) := by decide +kernel
theorem dX7_furlongOf_20 : decode cX7_furlongOf 20 = .ok (.if_icmp .le 9, 3) := by decide +kernel
theorem dX7_furlongOf_23 : decode cX7_furlongOf 23 = .ok (.aload_n 0, 1) := by decide +kernel
theorem dX7_furlongOf_24 : decode cX7_furlongOf 24 = .ok (.iconst 5, 1) := by decide +kernel
theorem dX7_furlongOf_25 : decode cX7_furlongOf 25 = .ok (.invokevirtual 162, 3) := by decide +kernel
theorem dX7_furlongOf_28 : decode cX7_furlongOf 28 = .ok (.ireturn, 1) := by decide +kernel
theorem dX7_furlongOf_29 : decode cX7_furlongOf 29 = .ok (.iload_n 2, 1) := by decide +kernel
theorem dX7_furlongOf_30 : decode cX7_furlongOf 30 = .ok (.ifCond .ne 18, 3) := by decide +kernel
theorem dX7_furlongOf_33 : decode cX7_furlongOf 33 = .ok (.aload_n 0, 1) := by decide +kernel
theorem dX7_furlongOf_34 : decode cX7_furlongOf 34 = .ok (.getfield 23, 3) := by decide +kernel
theorem dX7_furlongOf_37 : decode cX7_furlongOf 37 = .ok (.getfield 30, 3) := by decide +kernel
theorem dX7_furlongOf_40 : decode cX7_furlongOf 40 = .ok (.getfield 165, 3) := by decide +kernel
theorem dX7_furlongOf_43 : decode cX7_furlongOf 43 = .ok (.iload_n 1, 1) := by decide +kernel
theorem dX7_furlongOf_44 : decode cX7_furlongOf 44 = .ok (.iaload, 1) := by decide +kernel
theorem dX7_furlongOf_45 : decode cX7_furlongOf 45 = .ok (.goto 15, 3) := by decide +kernel
theorem dX7_furlongOf_48 : decode cX7_furlongOf 48 = .ok (.aload_n 0, 1) := by decide +kernel
theorem dX7_furlongOf_49 : decode cX7_furlongOf 49 = .ok (.getfield 23, 3) := by decide +kernel
theorem dX7_furlongOf_52 : decode cX7_furlongOf 52 = .ok (.getfield 30, 3) := by decide +kernel
theorem dX7_furlongOf_55 : decode cX7_furlongOf 55 = .ok (.getfield 168, 3) := by decide +kernel
theorem dX7_furlongOf_58 : decode cX7_furlongOf 58 = .ok (.iload_n 1, 1) := by decide +kernel
theorem dX7_furlongOf_59 : decode cX7_furlongOf 59 = .ok (.iaload, 1) := by decide +kernel
theorem dX7_furlongOf_60 : decode cX7_furlongOf 60 = .ok (.ireturn, 1) := by decide +kernel
theorem zc_77 {d : Nat} {h : List zx_C} {q : Int32} {w : Int32} {Q : Option zx_V → List zx_C → Prop} (hI : zx_I h)    (hq : ∀ (v : Int32) (h2 : List zx_C), zx_I h2 → (∀ i, i ∉ ([46] : List Nat) → h2[i]? = h[i]?) → Q (some (.inl v)) h2) : zx_M (d + 1) 77 [.inr (.inr (1, 0)), .inl q, .inl w] h Q := by
  have el_0 : (0 : Int32).toInt = 0 := by decide
  have el_1 : (1 : Int32).toInt = 1 := by decide
  have el_5 : (5 : Int32).toInt = 5 := by decide
  obtain ⟨x1, c0_1, it1, lf1, rfl, hit1⟩ := zi_g hI 0 (by decide)
  obtain ⟨x2, c2_2, bg2, mo2, le2, na2, on2, bi2, ra2, wo2, he2, mi2, se2, rfl, hh2, hk2⟩ := zi_g hI 2 (by decide)
  obtain ⟨x3, c3_3, fu3, pe3, rfl, hf3, hg3, hp3, hq3⟩ := zi_g hI 3 (by decide)
  obtain ⟨x4, c4_4, f4_4, rfl, l4_4⟩ := zi_g hI 4 (by decide)
  obtain ⟨x5, c5_5, f5_5, rfl, l5_5⟩ := zi_g hI 5 (by decide)
  have fr0 : ∀ i, i ∉ ([46] : List Nat) → h[i]? = h[i]? := fun _ _ => rfl
  refine zx_M_of (Nat.le_of_ble_eq_true rfl) zm_77 (L := [some (.inr (.inr (1, 0))), some (.inl q), some (.inl w)]) rfl ?_
  refine zx_W_ins (pc' := 1) dX7_furlongOf_0 rfl (fun _ => rfl) rfl ?_
  refine zw_gf (pc' := 4) dX7_furlongOf_1 rfl rfl c0_1 rfl ?_
  refine zw_gf (pc' := 7) dX7_furlongOf_4 rfl rfl c2_2 rfl ?_
  refine zx_W_ins (pc' := 8) dX7_furlongOf_7 rfl (fun _ => rfl) rfl ?_
  refine zw_iv (k := 64) (pc' := 11) dX7_furlongOf_8 rfl rfl rfl rfl c3_3 rfl rfl (zc_64 c3_3 (fun g6 _ => ?_) (fun g6 _ => ?_))
  · show zx_W _ _ _ _ _ _ _ [.inl 1] _ _
    refine zw_if_eq (tgt := 23) (pc' := 14) dX7_furlongOf_11 rfl rfl (fun g => by first | exact absurd rfl g | exact absurd g (by decide)) (fun _ => ?_)
    refine zx_W_ins (pc' := 15) dX7_furlongOf_14 rfl (fun _ => rfl) rfl ?_
    refine zw_if_lt (tgt := 23) (pc' := 18) dX7_furlongOf_15 rfl rfl (fun g8 => ?_) (fun g8 => ?_)
    · refine zx_W_ins (pc' := 24) dX7_furlongOf_23 rfl (fun _ => rfl) rfl ?_
      refine zw_ic (v := 5) (pc' := 25) dX7_furlongOf_24 rfl rfl ?_
      refine zw_iv (k := 110) (pc' := 28) dX7_furlongOf_25 rfl rfl rfl rfl c0_1 rfl rfl (zc_110 hI (by omega) (fun v9 h10 hI11 fr12 _ => ?_))
      show zx_W _ _ _ _ _ _ _ [.inl v9] _ _
      have fr13 : ∀ i, i ∉ ([46] : List Nat) → h10[i]? = h[i]? := fun i hi => Eq.trans (fr12 i (fun z => hi (by first | exact absurd z List.not_mem_nil | (simp only [List.mem_cons, List.not_mem_nil, or_false] at z ⊢; omega)))) (fr0 i hi)
      have c14 : h10[0]? = some (.inl (7, [.inr (.inr (1, 1)), .inr (.inr (1, 2)), .inr (.inr (1, 9)), .inr (.inr (1, 16)), .inr (.inr (1, 18)), .inr (.inr (1, 21)), .inr (.inr (1, 35)), .inr (.inr (1, 44)), .inr (.inr (1, 46)), .inl it1, .inl lf1])) := by rw [fr12 0 (by decide)]; exact c0_1
      have c15 : h10[2]? = some (.inl (5, [.inr (.inr (1, 3)), .inr (.inr (1, 8)), .inl bg2, .inl mo2, .inl le2, .inl na2, .inl on2, .inl bi2, .inl ra2, .inl wo2, .inl he2, .inl mi2, .inl se2])) := by rw [fr12 2 (by decide)]; exact c2_2
      have c16 : h10[3]? = some (.inl (6, [.inr (.inr (1, 4)), .inr (.inr (1, 5)), .inr (.inr (1, 6)), .inr (.inr (1, 7)), .inl fu3, .inl pe3])) := by rw [fr12 3 (by decide)]; exact c3_3
      have c17 : h10[4]? = some (.inr (0, .inl f4_4)) := by rw [fr12 4 (by decide)]; exact c4_4
      have c18 : h10[5]? = some (.inr (0, .inl f5_5)) := by rw [fr12 5 (by decide)]; exact c5_5
      obtain ⟨x19, c46_19, f46_19, rfl, l46_19⟩ := zi_g hI11 46 (by decide)
      refine zw_iret dX7_furlongOf_28 rfl rfl ?_
      exact hq _ h10 hI11 fr13
    · refine zx_W_ins (pc' := 19) dX7_furlongOf_18 rfl (fun _ => rfl) rfl ?_
      refine zw_ic (v := 1) (pc' := 20) dX7_furlongOf_19 rfl rfl ?_
      refine zw_icmp_le (tgt := 29) (pc' := 23) dX7_furlongOf_20 rfl rfl (fun g20 => ?_) (fun g20 => ?_)
      · refine zx_W_ins (pc' := 30) dX7_furlongOf_29 rfl (fun _ => rfl) rfl ?_
        refine zw_if_ne (tgt := 48) (pc' := 33) dX7_furlongOf_30 rfl rfl (fun g21 => ?_) (fun g21 => ?_)
        · have g21t : ¬ (w).toInt = (0 : Int32).toInt := fun z => g21 (Int32.toInt_inj.mp z)
          refine zx_W_ins (pc' := 49) dX7_furlongOf_48 rfl (fun _ => rfl) rfl ?_
          refine zw_gf (pc' := 52) dX7_furlongOf_49 rfl rfl c0_1 rfl ?_
          refine zw_gf (pc' := 55) dX7_furlongOf_52 rfl rfl c2_2 rfl ?_
          refine zw_gf (pc' := 58) dX7_furlongOf_55 rfl rfl c3_3 rfl ?_
          refine zx_W_ins (pc' := 59) dX7_furlongOf_58 rfl (fun _ => rfl) rfl ?_
          refine zw_ial (pc' := 60) dX7_furlongOf_59 rfl c5_5 (zi_in (by have := l5_5; omega)) ?_
          refine zw_iret dX7_furlongOf_60 rfl rfl ?_
          exact hq _ h hI fr0
        · have g21t : (w).toInt = (0 : Int32).toInt := congrArg Int32.toInt g21
          refine zx_W_ins (pc' := 34) dX7_furlongOf_33 rfl (fun _ => rfl) rfl ?_
          refine zw_gf (pc' := 37) dX7_furlongOf_34 rfl rfl c0_1 rfl ?_
          refine zw_gf (pc' := 40) dX7_furlongOf_37 rfl rfl c2_2 rfl ?_
          refine zw_gf (pc' := 43) dX7_furlongOf_40 rfl rfl c3_3 rfl ?_
          refine zx_W_ins (pc' := 44) dX7_furlongOf_43 rfl (fun _ => rfl) rfl ?_
          refine zw_ial (pc' := 45) dX7_furlongOf_44 rfl c4_4 (zi_in (by have := l4_4; omega)) ?_
          refine zw_goto (tgt := 60) dX7_furlongOf_45 rfl ?_
          refine zw_iret dX7_furlongOf_60 rfl rfl ?_
          exact hq _ h hI fr0
      · refine zx_W_ins (pc' := 24) dX7_furlongOf_23 rfl (fun _ => rfl) rfl ?_
        refine zw_ic (v := 5) (pc' := 25) dX7_furlongOf_24 rfl rfl ?_
        refine zw_iv (k := 110) (pc' := 28) dX7_furlongOf_25 rfl rfl rfl rfl c0_1 rfl rfl (zc_110 hI (by omega) (fun v22 h23 hI24 fr25 _ => ?_))
        show zx_W _ _ _ _ _ _ _ [.inl v22] _ _
        have fr26 : ∀ i, i ∉ ([46] : List Nat) → h23[i]? = h[i]? := fun i hi => Eq.trans (fr25 i (fun z => hi (by first | exact absurd z List.not_mem_nil | (simp only [List.mem_cons, List.not_mem_nil, or_false] at z ⊢; omega)))) (fr0 i hi)
        have c27 : h23[0]? = some (.inl (7, [.inr (.inr (1, 1)), .inr (.inr (1, 2)), .inr (.inr (1, 9)), .inr (.inr (1, 16)), .inr (.inr (1, 18)), .inr (.inr (1, 21)), .inr (.inr (1, 35)), .inr (.inr (1, 44)), .inr (.inr (1, 46)), .inl it1, .inl lf1])) := by rw [fr25 0 (by decide)]; exact c0_1
        have c28 : h23[2]? = some (.inl (5, [.inr (.inr (1, 3)), .inr (.inr (1, 8)), .inl bg2, .inl mo2, .inl le2, .inl na2, .inl on2, .inl bi2, .inl ra2, .inl wo2, .inl he2, .inl mi2, .inl se2])) := by rw [fr25 2 (by decide)]; exact c2_2
        have c29 : h23[3]? = some (.inl (6, [.inr (.inr (1, 4)), .inr (.inr (1, 5)), .inr (.inr (1, 6)), .inr (.inr (1, 7)), .inl fu3, .inl pe3])) := by rw [fr25 3 (by decide)]; exact c3_3
        have c30 : h23[4]? = some (.inr (0, .inl f4_4)) := by rw [fr25 4 (by decide)]; exact c4_4
        have c31 : h23[5]? = some (.inr (0, .inl f5_5)) := by rw [fr25 5 (by decide)]; exact c5_5
        obtain ⟨x32, c46_32, f46_32, rfl, l46_32⟩ := zi_g hI24 46 (by decide)
        refine zw_iret dX7_furlongOf_28 rfl rfl ?_
        exact hq _ h23 hI24 fr26
  · show zx_W _ _ _ _ _ _ _ [.inl 0] _ _
    refine zw_if_eq (tgt := 23) (pc' := 14) dX7_furlongOf_11 rfl rfl (fun _ => ?_) (fun g => by first | exact absurd rfl g | exact absurd g (by decide))
    refine zx_W_ins (pc' := 24) dX7_furlongOf_23 rfl (fun _ => rfl) rfl ?_
    refine zw_ic (v := 5) (pc' := 25) dX7_furlongOf_24 rfl rfl ?_
    refine zw_iv (k := 110) (pc' := 28) dX7_furlongOf_25 rfl rfl rfl rfl c0_1 rfl rfl (zc_110 hI (by omega) (fun v34 h35 hI36 fr37 _ => ?_))
    show zx_W _ _ _ _ _ _ _ [.inl v34] _ _
    have fr38 : ∀ i, i ∉ ([46] : List Nat) → h35[i]? = h[i]? := fun i hi => Eq.trans (fr37 i (fun z => hi (by first | exact absurd z List.not_mem_nil | (simp only [List.mem_cons, List.not_mem_nil, or_false] at z ⊢; omega)))) (fr0 i hi)
    have c39 : h35[0]? = some (.inl (7, [.inr (.inr (1, 1)), .inr (.inr (1, 2)), .inr (.inr (1, 9)), .inr (.inr (1, 16)), .inr (.inr (1, 18)), .inr (.inr (1, 21)), .inr (.inr (1, 35)), .inr (.inr (1, 44)), .inr (.inr (1, 46)), .inl it1, .inl lf1])) := by rw [fr37 0 (by decide)]; exact c0_1
    have c40 : h35[2]? = some (.inl (5, [.inr (.inr (1, 3)), .inr (.inr (1, 8)), .inl bg2, .inl mo2, .inl le2, .inl na2, .inl on2, .inl bi2, .inl ra2, .inl wo2, .inl he2, .inl mi2, .inl se2])) := by rw [fr37 2 (by decide)]; exact c2_2
    have c41 : h35[3]? = some (.inl (6, [.inr (.inr (1, 4)), .inr (.inr (1, 5)), .inr (.inr (1, 6)), .inr (.inr (1, 7)), .inl fu3, .inl pe3])) := by rw [fr37 3 (by decide)]; exact c3_3
    have c42 : h35[4]? = some (.inr (0, .inl f4_4)) := by rw [fr37 4 (by decide)]; exact c4_4
    have c43 : h35[5]? = some (.inr (0, .inl f5_5)) := by rw [fr37 5 (by decide)]; exact c5_5
    obtain ⟨x44, c46_44, f46_44, rfl, l46_44⟩ := zi_g hI36 46 (by decide)
    refine zw_iret dX7_furlongOf_28 rfl rfl ?_
    exact hq _ h35 hI36 fr38
def zt_151 : zx_MT := (8, yX8_tire, cX8_tire, 4, (some FieldType.int), 2, 0)
theorem zm_151 : zx_m 151 = zt_151 := rfl
theorem dX8_tire_0 : decode cX8_tire 0 = .ok (.aload_n 0, 1) := by decide +kernel
theorem dX8_tire_1 : decode cX8_tire 1 = .ok (.iload_n 1, 1) := by decide +kernel
theorem dX8_tire_2 : decode cX8_tire 2 = .ok (.invokevirtual 119, 3) := by decide +kernel
theorem dX8_tire_5 : decode cX8_tire 5 = .ok (.ifCond .ne 9, 3) := by decide +kernel
theorem dX8_tire_8 : decode cX8_tire 8 = .ok (.aload_n 0, 1) := by decide +kernel
theorem dX8_tire_9 : decode cX8_tire 9 = .ok (.iconst (-1), 1) := by decide +kernel
theorem dX8_tire_10 : decode cX8_tire 10 = .ok (.invokevirtual 115, 3) := by decide +kernel
theorem dX8_tire_13 : decode cX8_tire 13 = .ok (.ireturn, 1) := by decide +kernel
theorem dX8_tire_14 : decode cX8_tire 14 = .ok (.iload_n 2, 1) := by decide +kernel
theorem dX8_tire_15 : decode cX8_tire 15 = .ok (.ifCond .lt 9, 3) := by decide +kernel
theorem dX8_tire_18 : decode cX8_tire 18 = .ok (.iload_n 2, 1) := by decide +kernel
theorem dX8_tire_19 : decode cX8_tire 19 = .ok (.bipush 99, 2) := by decide +kernel
theorem dX8_tire_21 : decode cX8_tire 21 = .ok (.if_icmp .le 10, 3) := by decide +kernel
theorem dX8_tire_24 : decode cX8_tire 24 = .ok (.aload_n 0, 1) := by decide +kernel
theorem dX8_tire_25 : decode cX8_tire 25 = .ok (.bipush (-6), 2) := by decide +kernel
theorem dX8_tire_27 : decode cX8_tire 27 = .ok (.invokevirtual 115, 3) := by decide +kernel
theorem dX8_tire_30 : decode cX8_tire 30 = .ok (.ireturn, 1) := by decide +kernel
theorem dX8_tire_31 : decode cX8_tire 31 = .ok (.aload_n 0, 1) := by decide +kernel
theorem dX8_tire_32 : decode cX8_tire 32 = .ok (.getfield 53, 3) := by decide +kernel
theorem dX8_tire_35 : decode cX8_tire 35 = .ok (.iload_n 1, 1) := by decide +kernel
theorem dX8_tire_36 : decode cX8_tire 36 = .ok (.iaload, 1) := by decide +kernel
theorem dX8_tire_37 : decode cX8_tire 37 = .ok (.istore_n 3, 1) := by decide +kernel
theorem dX8_tire_38 : decode cX8_tire 38 = .ok (.aload_n 0, 1) := by decide +kernel
theorem dX8_tire_39 : decode cX8_tire 39 = .ok (.getfield 53, 3) := by decide +kernel
theorem dX8_tire_42 : decode cX8_tire 42 = .ok (.iload_n 1, 1) := by decide +kernel
theorem dX8_tire_43 : decode cX8_tire 43 = .ok (.iload_n 2, 1) := by decide +kernel
theorem dX8_tire_44 : decode cX8_tire 44 = .ok (.iastore, 1) := by decide +kernel
theorem dX8_tire_45 : decode cX8_tire 45 = .ok (.iload_n 3, 1) := by decide +kernel
theorem dX8_tire_46 : decode cX8_tire 46 = .ok (.ireturn, 1) := by decide +kernel
theorem zc_151 {d : Nat} {h : List zx_C} {q : Int32} {w : Int32} {Q : Option zx_V → List zx_C → Prop} (hI : zx_I h)    (hq : ∀ (v : Int32) (h2 : List zx_C), zx_I h2 → (∀ i, i ∉ ([69, 64] : List Nat) → h2[i]? = h[i]?) → Q (some (.inl v)) h2) : zx_M (d + 1) 151 [.inr (.inr (1, 63)), .inl q, .inl w] h Q := by
  have el_m6 : ((-6) : Int32).toInt = -6 := by decide
  have el_m1 : ((-1) : Int32).toInt = -1 := by decide
  have el_99 : (99 : Int32).toInt = 99 := by decide
  obtain ⟨x1, c63_1, m_furlongs1, m_many1, m_bagged1, m_legs1, m_most1, m_nap1, m_on1, m_biscuits1, m_races1, m_worn1, m_here1, m_minutes1, m_seed1, m_fault1, m_base1, m_at1, m_end1, m_number1, m_wrongAt1, m_bestMany1, m_bestHere1, m_bestWorn1, m_bestMinutes1, m_turn1, m_ever1, m_made1, m_ruleHere1, m_ruleMinutes1, m_ruleEver1, m_ran1, m_isKept1, rfl, q0_1, q1_1, q2_1, q3_1, q4_1, q5_1, q6_1, q7_1, q8_1⟩ := zi_g hI 63 (by decide)
  obtain ⟨x2, c69_2, f69_2, rfl, l69_2⟩ := zi_g hI 69 (by decide)
  have fr0 : ∀ i, i ∉ ([69, 64] : List Nat) → h[i]? = h[i]? := fun _ _ => rfl
  refine zx_M_of (Nat.le_of_ble_eq_true rfl) zm_151 (L := [some (.inr (.inr (1, 63))), some (.inl q), some (.inl w), none]) rfl ?_
  refine zx_W_ins (pc' := 1) dX8_tire_0 rfl (fun _ => rfl) rfl ?_
  refine zx_W_ins (pc' := 2) dX8_tire_1 rfl (fun _ => rfl) rfl ?_
  refine zw_iv (k := 128) (pc' := 5) dX8_tire_2 rfl rfl rfl rfl c63_1 rfl rfl (zc_128 c63_1 (fun g3 _ => ?_) (fun g3 _ => ?_))
  · show zx_W _ _ _ _ _ _ _ [.inl 1] _ _
    refine zw_if_ne (tgt := 14) (pc' := 8) dX8_tire_5 rfl rfl (fun _ => ?_) (fun g => by first | exact absurd rfl g | exact absurd g (by decide))
    refine zx_W_ins (pc' := 15) dX8_tire_14 rfl (fun _ => rfl) rfl ?_
    refine zw_if_lt (tgt := 24) (pc' := 18) dX8_tire_15 rfl rfl (fun g5 => ?_) (fun g5 => ?_)
    · refine zx_W_ins (pc' := 25) dX8_tire_24 rfl (fun _ => rfl) rfl ?_
      refine zw_bi (v := (-6)) (pc' := 27) dX8_tire_25 rfl rfl ?_
      refine zw_iv (k := 125) (pc' := 30) dX8_tire_27 rfl rfl rfl rfl c63_1 rfl rfl (zc_125 hI (by omega) (fun v6 h7 hI8 fr9 hvv6 _ => ?_))
      show zx_W _ _ _ _ _ _ _ [.inl v6] _ _
      have fr10 : ∀ i, i ∉ ([69, 64] : List Nat) → h7[i]? = h[i]? := fun i hi => Eq.trans (fr9 i (fun z => hi (by first | exact absurd z List.not_mem_nil | (simp only [List.mem_cons, List.not_mem_nil, or_false] at z ⊢; omega)))) (fr0 i hi)
      have c11 : h7[63]? = some (.inl (8, [.inl m_furlongs1, .inl m_many1, .inl m_bagged1, .inl m_legs1, .inl m_most1, .inl m_nap1, .inl m_on1, .inl m_biscuits1, .inl m_races1, .inl m_worn1, .inl m_here1, .inl m_minutes1, .inl m_seed1, .inl m_fault1, .inr (.inr (1, 64)), .inr (.inr (1, 65)), .inr (.inr (1, 66)), .inr (.inr (1, 67)), .inr (.inr (1, 68)), .inr (.inr (1, 69)), .inr (.inr (1, 70)), .inr (.inr (1, 71)), .inr (.inr (1, 72)), .inr (.inr (1, 73)), .inr (.inr (1, 74)), .inr (.inr (1, 75)), .inr (.inr (1, 76)), .inr (.inr (1, 77)), .inr (.inr (1, 78)), .inl m_base1, .inl m_at1, .inl m_end1, .inl m_number1, .inl m_wrongAt1, .inr (.inr (1, 79)), .inr (.inr (1, 80)), .inr (.inr (1, 81)), .inr (.inr (1, 82)), .inr (.inr (1, 83)), .inr (.inr (1, 84)), .inl m_bestMany1, .inl m_bestHere1, .inl m_bestWorn1, .inl m_bestMinutes1, .inl m_turn1, .inl m_ever1, .inl m_made1, .inl m_ruleHere1, .inl m_ruleMinutes1, .inl m_ruleEver1, .inr (.inr (1, 85)), .inl m_ran1, .inl m_isKept1])) := by rw [fr9 63 (by decide)]; exact c63_1
      have c12 : h7[69]? = some (.inr (0, .inl f69_2)) := by rw [fr9 69 (by decide)]; exact c69_2
      obtain ⟨x13, c64_13, f64_13, rfl, l64_13⟩ := zi_g hI8 64 (by decide)
      refine zw_iret dX8_tire_30 rfl rfl ?_
      exact hq _ h7 hI8 fr10
    · refine zx_W_ins (pc' := 19) dX8_tire_18 rfl (fun _ => rfl) rfl ?_
      refine zw_bi (v := 99) (pc' := 21) dX8_tire_19 rfl rfl ?_
      refine zw_icmp_le (tgt := 31) (pc' := 24) dX8_tire_21 rfl rfl (fun g14 => ?_) (fun g14 => ?_)
      · refine zx_W_ins (pc' := 32) dX8_tire_31 rfl (fun _ => rfl) rfl ?_
        refine zw_gf (pc' := 35) dX8_tire_32 rfl rfl c63_1 rfl ?_
        refine zx_W_ins (pc' := 36) dX8_tire_35 rfl (fun _ => rfl) rfl ?_
        refine zw_ial (pc' := 37) dX8_tire_36 rfl c69_2 (zi_in (by have := l69_2; omega)) ?_
        refine zx_W_ins (pc' := 38) (L' := [some (.inr (.inr (1, 63))), some (.inl q), some (.inl w), some (.inl (f69_2.getD q.toNatClampNeg 0))]) dX8_tire_37 rfl (fun _ => rfl) rfl ?_
        refine zx_W_ins (pc' := 39) dX8_tire_38 rfl (fun _ => rfl) rfl ?_
        refine zw_gf (pc' := 42) dX8_tire_39 rfl rfl c63_1 rfl ?_
        refine zx_W_ins (pc' := 43) dX8_tire_42 rfl (fun _ => rfl) rfl ?_
        refine zx_W_ins (pc' := 44) dX8_tire_43 rfl (fun _ => rfl) rfl ?_
        refine zw_ias (pc' := 45) dX8_tire_44 rfl c69_2 (zi_in (by have := l69_2; omega)) ?_
        obtain ⟨h15, e16⟩ : ∃ z, z = h.set 69 (.inr (0, .inl (f69_2.set q.toNatClampNeg w))) := ⟨_, rfl⟩
        rw [← e16]
        have c17 : h15[63]? = some (.inl (8, [.inl m_furlongs1, .inl m_many1, .inl m_bagged1, .inl m_legs1, .inl m_most1, .inl m_nap1, .inl m_on1, .inl m_biscuits1, .inl m_races1, .inl m_worn1, .inl m_here1, .inl m_minutes1, .inl m_seed1, .inl m_fault1, .inr (.inr (1, 64)), .inr (.inr (1, 65)), .inr (.inr (1, 66)), .inr (.inr (1, 67)), .inr (.inr (1, 68)), .inr (.inr (1, 69)), .inr (.inr (1, 70)), .inr (.inr (1, 71)), .inr (.inr (1, 72)), .inr (.inr (1, 73)), .inr (.inr (1, 74)), .inr (.inr (1, 75)), .inr (.inr (1, 76)), .inr (.inr (1, 77)), .inr (.inr (1, 78)), .inl m_base1, .inl m_at1, .inl m_end1, .inl m_number1, .inl m_wrongAt1, .inr (.inr (1, 79)), .inr (.inr (1, 80)), .inr (.inr (1, 81)), .inr (.inr (1, 82)), .inr (.inr (1, 83)), .inr (.inr (1, 84)), .inl m_bestMany1, .inl m_bestHere1, .inl m_bestWorn1, .inl m_bestMinutes1, .inl m_turn1, .inl m_ever1, .inl m_made1, .inl m_ruleHere1, .inl m_ruleMinutes1, .inl m_ruleEver1, .inr (.inr (1, 85)), .inl m_ran1, .inl m_isKept1])) := by rw [e16, List.getElem?_set_ne (by first | decide | omega)]; exact c63_1
        have c18 : h15[69]? = some (.inr (0, .inl (f69_2.set q.toNatClampNeg w))) := by rw [e16, List.getElem?_set_self (List.getElem?_eq_some_iff.mp c69_2).1]
        have hI19 : zx_I h15 := by rw [e16]; exact zi_set hI (show zc_row 6 _ from ⟨_, rfl, by rw [List.length_set]; exact l69_2⟩) (by decide) (by decide)
        have l20 := (List.length_set (as := f69_2) (i := q.toNatClampNeg) (a := w)).trans l69_2
        have fr21 : ∀ i, i ∉ ([69, 64] : List Nat) → h15[i]? = h[i]? := fun i hi => Eq.trans (b := h[i]?) (by rw [e16, List.getElem?_set_ne (fun z => hi (by rw [← z]; decide))]) (fr0 i hi)
        refine zx_W_ins (pc' := 46) dX8_tire_45 rfl (fun _ => rfl) rfl ?_
        refine zw_iret dX8_tire_46 rfl rfl ?_
        exact hq _ h15 hI19 fr21
      · refine zx_W_ins (pc' := 25) dX8_tire_24 rfl (fun _ => rfl) rfl ?_
        refine zw_bi (v := (-6)) (pc' := 27) dX8_tire_25 rfl rfl ?_
        refine zw_iv (k := 125) (pc' := 30) dX8_tire_27 rfl rfl rfl rfl c63_1 rfl rfl (zc_125 hI (by omega) (fun v22 h23 hI24 fr25 hvv22 _ => ?_))
        show zx_W _ _ _ _ _ _ _ [.inl v22] _ _
        have fr26 : ∀ i, i ∉ ([69, 64] : List Nat) → h23[i]? = h[i]? := fun i hi => Eq.trans (fr25 i (fun z => hi (by first | exact absurd z List.not_mem_nil | (simp only [List.mem_cons, List.not_mem_nil, or_false] at z ⊢; omega)))) (fr0 i hi)
        have c27 : h23[63]? = some (.inl (8, [.inl m_furlongs1, .inl m_many1, .inl m_bagged1, .inl m_legs1, .inl m_most1, .inl m_nap1, .inl m_on1, .inl m_biscuits1, .inl m_races1, .inl m_worn1, .inl m_here1, .inl m_minutes1, .inl m_seed1, .inl m_fault1, .inr (.inr (1, 64)), .inr (.inr (1, 65)), .inr (.inr (1, 66)), .inr (.inr (1, 67)), .inr (.inr (1, 68)), .inr (.inr (1, 69)), .inr (.inr (1, 70)), .inr (.inr (1, 71)), .inr (.inr (1, 72)), .inr (.inr (1, 73)), .inr (.inr (1, 74)), .inr (.inr (1, 75)), .inr (.inr (1, 76)), .inr (.inr (1, 77)), .inr (.inr (1, 78)), .inl m_base1, .inl m_at1, .inl m_end1, .inl m_number1, .inl m_wrongAt1, .inr (.inr (1, 79)), .inr (.inr (1, 80)), .inr (.inr (1, 81)), .inr (.inr (1, 82)), .inr (.inr (1, 83)), .inr (.inr (1, 84)), .inl m_bestMany1, .inl m_bestHere1, .inl m_bestWorn1, .inl m_bestMinutes1, .inl m_turn1, .inl m_ever1, .inl m_made1, .inl m_ruleHere1, .inl m_ruleMinutes1, .inl m_ruleEver1, .inr (.inr (1, 85)), .inl m_ran1, .inl m_isKept1])) := by rw [fr25 63 (by decide)]; exact c63_1
        have c28 : h23[69]? = some (.inr (0, .inl f69_2)) := by rw [fr25 69 (by decide)]; exact c69_2
        obtain ⟨x29, c64_29, f64_29, rfl, l64_29⟩ := zi_g hI24 64 (by decide)
        refine zw_iret dX8_tire_30 rfl rfl ?_
        exact hq _ h23 hI24 fr26
  · show zx_W _ _ _ _ _ _ _ [.inl 0] _ _
    refine zw_if_ne (tgt := 14) (pc' := 8) dX8_tire_5 rfl rfl (fun g => by first | exact absurd rfl g | exact absurd g (by decide)) (fun _ => ?_)
    refine zx_W_ins (pc' := 9) dX8_tire_8 rfl (fun _ => rfl) rfl ?_
    refine zw_ic (v := (-1)) (pc' := 10) dX8_tire_9 rfl rfl ?_
    refine zw_iv (k := 125) (pc' := 13) dX8_tire_10 rfl rfl rfl rfl c63_1 rfl rfl (zc_125 hI (by omega) (fun v31 h32 hI33 fr34 hvv31 _ => ?_))
    show zx_W _ _ _ _ _ _ _ [.inl v31] _ _
    have fr35 : ∀ i, i ∉ ([69, 64] : List Nat) → h32[i]? = h[i]? := fun i hi => Eq.trans (fr34 i (fun z => hi (by first | exact absurd z List.not_mem_nil | (simp only [List.mem_cons, List.not_mem_nil, or_false] at z ⊢; omega)))) (fr0 i hi)
    have c36 : h32[63]? = some (.inl (8, [.inl m_furlongs1, .inl m_many1, .inl m_bagged1, .inl m_legs1, .inl m_most1, .inl m_nap1, .inl m_on1, .inl m_biscuits1, .inl m_races1, .inl m_worn1, .inl m_here1, .inl m_minutes1, .inl m_seed1, .inl m_fault1, .inr (.inr (1, 64)), .inr (.inr (1, 65)), .inr (.inr (1, 66)), .inr (.inr (1, 67)), .inr (.inr (1, 68)), .inr (.inr (1, 69)), .inr (.inr (1, 70)), .inr (.inr (1, 71)), .inr (.inr (1, 72)), .inr (.inr (1, 73)), .inr (.inr (1, 74)), .inr (.inr (1, 75)), .inr (.inr (1, 76)), .inr (.inr (1, 77)), .inr (.inr (1, 78)), .inl m_base1, .inl m_at1, .inl m_end1, .inl m_number1, .inl m_wrongAt1, .inr (.inr (1, 79)), .inr (.inr (1, 80)), .inr (.inr (1, 81)), .inr (.inr (1, 82)), .inr (.inr (1, 83)), .inr (.inr (1, 84)), .inl m_bestMany1, .inl m_bestHere1, .inl m_bestWorn1, .inl m_bestMinutes1, .inl m_turn1, .inl m_ever1, .inl m_made1, .inl m_ruleHere1, .inl m_ruleMinutes1, .inl m_ruleEver1, .inr (.inr (1, 85)), .inl m_ran1, .inl m_isKept1])) := by rw [fr34 63 (by decide)]; exact c63_1
    have c37 : h32[69]? = some (.inr (0, .inl f69_2)) := by rw [fr34 69 (by decide)]; exact c69_2
    obtain ⟨x38, c64_38, f64_38, rfl, l64_38⟩ := zi_g hI33 64 (by decide)
    refine zw_iret dX8_tire_13 rfl rfl ?_
    exact hq _ h32 hI33 fr35
def zt_152 : zx_MT := (8, yX8_bag, cX8_bag, 3, (some FieldType.int), 1, 0)
theorem zm_152 : zx_m 152 = zt_152 := rfl
theorem dX8_bag_0 : decode cX8_bag 0 = .ok (.iload_n 1, 1) := by decide +kernel
theorem dX8_bag_1 : decode cX8_bag 1 = .ok (.iconst (-1), 1) := by decide +kernel
theorem dX8_bag_2 : decode cX8_bag 2 = .ok (.if_icmp .eq 17, 3) := by decide +kernel
theorem dX8_bag_5 : decode cX8_bag 5 = .ok (.aload_n 0, 1) := by decide +kernel
theorem dX8_bag_6 : decode cX8_bag 6 = .ok (.iload_n 1, 1) := by decide +kernel
theorem dX8_bag_7 : decode cX8_bag 7 = .ok (.invokevirtual 119, 3) := by decide +kernel
theorem dX8_bag_10 : decode cX8_bag 10 = .ok (.ifCond .ne 9, 3) := by decide +kernel
theorem dX8_bag_13 : decode cX8_bag 13 = .ok (.aload_n 0, 1) := by decide +kernel
theorem dX8_bag_14 : decode cX8_bag 14 = .ok (.iconst (-1), 1) := by decide +kernel
theorem dX8_bag_15 : decode cX8_bag 15 = .ok (.invokevirtual 142, 3) := by decide +kernel
theorem dX8_bag_18 : decode cX8_bag 18 = .ok (.ireturn, 1) := by decide +kernel
theorem dX8_bag_19 : decode cX8_bag 19 = .ok (.aload_n 0, 1) := by decide +kernel
theorem dX8_bag_20 : decode cX8_bag 20 = .ok (.getfield 9, 3) := by decide +kernel
theorem dX8_bag_23 : decode cX8_bag 23 = .ok (.istore_n 2, 1) := by decide +kernel
theorem dX8_bag_24 : decode cX8_bag 24 = .ok (.aload_n 0, 1) := by decide +kernel
theorem dX8_bag_25 : decode cX8_bag 25 = .ok (.iload_n 1, 1) := by decide +kernel
theorem dX8_bag_26 : decode cX8_bag 26 = .ok (.putfield 9, 3) := by decide +kernel
theorem dX8_bag_29 : decode cX8_bag 29 = .ok (.iload_n 2, 1) := by decide +kernel
theorem dX8_bag_30 : decode cX8_bag 30 = .ok (.ireturn, 1) := by decide +kernel
theorem zc_152 {d : Nat} {h : List zx_C} {q : Int32} {Q : Option zx_V → List zx_C → Prop} (hI : zx_I h)    (hq : ∀ (v : Int32) (h2 : List zx_C), zx_I h2 → (∀ i, i ∉ ([63, 64] : List Nat) → h2[i]? = h[i]?) → Q (some (.inl v)) h2) : zx_M (d + 1) 152 [.inr (.inr (1, 63)), .inl q] h Q := by
  have el_m1 : ((-1) : Int32).toInt = -1 := by decide
  obtain ⟨x1, c63_1, m_furlongs1, m_many1, m_bagged1, m_legs1, m_most1, m_nap1, m_on1, m_biscuits1, m_races1, m_worn1, m_here1, m_minutes1, m_seed1, m_fault1, m_base1, m_at1, m_end1, m_number1, m_wrongAt1, m_bestMany1, m_bestHere1, m_bestWorn1, m_bestMinutes1, m_turn1, m_ever1, m_made1, m_ruleHere1, m_ruleMinutes1, m_ruleEver1, m_ran1, m_isKept1, rfl, q0_1, q1_1, q2_1, q3_1, q4_1, q5_1, q6_1, q7_1, q8_1⟩ := zi_g hI 63 (by decide)
  have fr0 : ∀ i, i ∉ ([63, 64] : List Nat) → h[i]? = h[i]? := fun _ _ => rfl
  refine zx_M_of (Nat.le_of_ble_eq_true rfl) zm_152 (L := [some (.inr (.inr (1, 63))), some (.inl q), none]) rfl ?_
  refine zx_W_ins (pc' := 1) dX8_bag_0 rfl (fun _ => rfl) rfl ?_
  refine zw_ic (v := (-1)) (pc' := 2) dX8_bag_1 rfl rfl ?_
  refine zw_icmp_eq (tgt := 19) (pc' := 5) dX8_bag_2 rfl rfl (fun g2 => ?_) (fun g2 => ?_)
  · have g2t : (q).toInt = ((-1) : Int32).toInt := congrArg Int32.toInt g2
    refine zx_W_ins (pc' := 20) dX8_bag_19 rfl (fun _ => rfl) rfl ?_
    refine zw_gf (pc' := 23) dX8_bag_20 rfl rfl c63_1 rfl ?_
    refine zx_W_ins (pc' := 24) (L' := [some (.inr (.inr (1, 63))), some (.inl q), some (.inl m_bagged1)]) dX8_bag_23 rfl (fun _ => rfl) rfl ?_
    refine zx_W_ins (pc' := 25) dX8_bag_24 rfl (fun _ => rfl) rfl ?_
    refine zx_W_ins (pc' := 26) dX8_bag_25 rfl (fun _ => rfl) rfl ?_
    refine zw_pf (pc' := 29) dX8_bag_26 rfl rfl c63_1 rfl (fs' := [.inl m_furlongs1, .inl m_many1, .inl q, .inl m_legs1, .inl m_most1, .inl m_nap1, .inl m_on1, .inl m_biscuits1, .inl m_races1, .inl m_worn1, .inl m_here1, .inl m_minutes1, .inl m_seed1, .inl m_fault1, .inr (.inr (1, 64)), .inr (.inr (1, 65)), .inr (.inr (1, 66)), .inr (.inr (1, 67)), .inr (.inr (1, 68)), .inr (.inr (1, 69)), .inr (.inr (1, 70)), .inr (.inr (1, 71)), .inr (.inr (1, 72)), .inr (.inr (1, 73)), .inr (.inr (1, 74)), .inr (.inr (1, 75)), .inr (.inr (1, 76)), .inr (.inr (1, 77)), .inr (.inr (1, 78)), .inl m_base1, .inl m_at1, .inl m_end1, .inl m_number1, .inl m_wrongAt1, .inr (.inr (1, 79)), .inr (.inr (1, 80)), .inr (.inr (1, 81)), .inr (.inr (1, 82)), .inr (.inr (1, 83)), .inr (.inr (1, 84)), .inl m_bestMany1, .inl m_bestHere1, .inl m_bestWorn1, .inl m_bestMinutes1, .inl m_turn1, .inl m_ever1, .inl m_made1, .inl m_ruleHere1, .inl m_ruleMinutes1, .inl m_ruleEver1, .inr (.inr (1, 85)), .inl m_ran1, .inl m_isKept1]) rfl ?_
    obtain ⟨h3, e4⟩ : ∃ z, z = h.set 63 (.inl (8, [.inl m_furlongs1, .inl m_many1, .inl q, .inl m_legs1, .inl m_most1, .inl m_nap1, .inl m_on1, .inl m_biscuits1, .inl m_races1, .inl m_worn1, .inl m_here1, .inl m_minutes1, .inl m_seed1, .inl m_fault1, .inr (.inr (1, 64)), .inr (.inr (1, 65)), .inr (.inr (1, 66)), .inr (.inr (1, 67)), .inr (.inr (1, 68)), .inr (.inr (1, 69)), .inr (.inr (1, 70)), .inr (.inr (1, 71)), .inr (.inr (1, 72)), .inr (.inr (1, 73)), .inr (.inr (1, 74)), .inr (.inr (1, 75)), .inr (.inr (1, 76)), .inr (.inr (1, 77)), .inr (.inr (1, 78)), .inl m_base1, .inl m_at1, .inl m_end1, .inl m_number1, .inl m_wrongAt1, .inr (.inr (1, 79)), .inr (.inr (1, 80)), .inr (.inr (1, 81)), .inr (.inr (1, 82)), .inr (.inr (1, 83)), .inr (.inr (1, 84)), .inl m_bestMany1, .inl m_bestHere1, .inl m_bestWorn1, .inl m_bestMinutes1, .inl m_turn1, .inl m_ever1, .inl m_made1, .inl m_ruleHere1, .inl m_ruleMinutes1, .inl m_ruleEver1, .inr (.inr (1, 85)), .inl m_ran1, .inl m_isKept1])) := ⟨_, rfl⟩
    rw [← e4]
    have c5 : h3[63]? = some (.inl (8, [.inl m_furlongs1, .inl m_many1, .inl q, .inl m_legs1, .inl m_most1, .inl m_nap1, .inl m_on1, .inl m_biscuits1, .inl m_races1, .inl m_worn1, .inl m_here1, .inl m_minutes1, .inl m_seed1, .inl m_fault1, .inr (.inr (1, 64)), .inr (.inr (1, 65)), .inr (.inr (1, 66)), .inr (.inr (1, 67)), .inr (.inr (1, 68)), .inr (.inr (1, 69)), .inr (.inr (1, 70)), .inr (.inr (1, 71)), .inr (.inr (1, 72)), .inr (.inr (1, 73)), .inr (.inr (1, 74)), .inr (.inr (1, 75)), .inr (.inr (1, 76)), .inr (.inr (1, 77)), .inr (.inr (1, 78)), .inl m_base1, .inl m_at1, .inl m_end1, .inl m_number1, .inl m_wrongAt1, .inr (.inr (1, 79)), .inr (.inr (1, 80)), .inr (.inr (1, 81)), .inr (.inr (1, 82)), .inr (.inr (1, 83)), .inr (.inr (1, 84)), .inl m_bestMany1, .inl m_bestHere1, .inl m_bestWorn1, .inl m_bestMinutes1, .inl m_turn1, .inl m_ever1, .inl m_made1, .inl m_ruleHere1, .inl m_ruleMinutes1, .inl m_ruleEver1, .inr (.inr (1, 85)), .inl m_ran1, .inl m_isKept1])) := by rw [e4, List.getElem?_set_self (List.getElem?_eq_some_iff.mp c63_1).1]
    have hI6 : zx_I h3 := by rw [e4]; exact zi_set hI (show zc_ref _ from ⟨_, _, _, _, _, _, _, _, _, _, _, _, _, _, _, _, _, _, _, _, _, _, _, _, _, _, _, _, _, _, _, rfl, by omega, by omega, by omega, by omega, by omega, by omega, by omega, by omega, by assumption⟩) (by decide) (by decide)
    have fr7 : ∀ i, i ∉ ([63, 64] : List Nat) → h3[i]? = h[i]? := fun i hi => Eq.trans (b := h[i]?) (by rw [e4, List.getElem?_set_ne (fun z => hi (by rw [← z]; decide))]) (fr0 i hi)
    refine zx_W_ins (pc' := 30) dX8_bag_29 rfl (fun _ => rfl) rfl ?_
    refine zw_iret dX8_bag_30 rfl rfl ?_
    exact hq _ h3 hI6 fr7
  · have g2t : ¬ (q).toInt = ((-1) : Int32).toInt := fun z => g2 (Int32.toInt_inj.mp z)
    refine zx_W_ins (pc' := 6) dX8_bag_5 rfl (fun _ => rfl) rfl ?_
    refine zx_W_ins (pc' := 7) dX8_bag_6 rfl (fun _ => rfl) rfl ?_
    refine zw_iv (k := 128) (pc' := 10) dX8_bag_7 rfl rfl rfl rfl c63_1 rfl rfl (zc_128 c63_1 (fun g8 _ => ?_) (fun g8 _ => ?_))
    · show zx_W _ _ _ _ _ _ _ [.inl 1] _ _
      refine zw_if_ne (tgt := 19) (pc' := 13) dX8_bag_10 rfl rfl (fun _ => ?_) (fun g => by first | exact absurd rfl g | exact absurd g (by decide))
      refine zx_W_ins (pc' := 20) dX8_bag_19 rfl (fun _ => rfl) rfl ?_
      refine zw_gf (pc' := 23) dX8_bag_20 rfl rfl c63_1 rfl ?_
      refine zx_W_ins (pc' := 24) (L' := [some (.inr (.inr (1, 63))), some (.inl q), some (.inl m_bagged1)]) dX8_bag_23 rfl (fun _ => rfl) rfl ?_
      refine zx_W_ins (pc' := 25) dX8_bag_24 rfl (fun _ => rfl) rfl ?_
      refine zx_W_ins (pc' := 26) dX8_bag_25 rfl (fun _ => rfl) rfl ?_
      refine zw_pf (pc' := 29) dX8_bag_26 rfl rfl c63_1 rfl (fs' := [.inl m_furlongs1, .inl m_many1, .inl q, .inl m_legs1, .inl m_most1, .inl m_nap1, .inl m_on1, .inl m_biscuits1, .inl m_races1, .inl m_worn1, .inl m_here1, .inl m_minutes1, .inl m_seed1, .inl m_fault1, .inr (.inr (1, 64)), .inr (.inr (1, 65)), .inr (.inr (1, 66)), .inr (.inr (1, 67)), .inr (.inr (1, 68)), .inr (.inr (1, 69)), .inr (.inr (1, 70)), .inr (.inr (1, 71)), .inr (.inr (1, 72)), .inr (.inr (1, 73)), .inr (.inr (1, 74)), .inr (.inr (1, 75)), .inr (.inr (1, 76)), .inr (.inr (1, 77)), .inr (.inr (1, 78)), .inl m_base1, .inl m_at1, .inl m_end1, .inl m_number1, .inl m_wrongAt1, .inr (.inr (1, 79)), .inr (.inr (1, 80)), .inr (.inr (1, 81)), .inr (.inr (1, 82)), .inr (.inr (1, 83)), .inr (.inr (1, 84)), .inl m_bestMany1, .inl m_bestHere1, .inl m_bestWorn1, .inl m_bestMinutes1, .inl m_turn1, .inl m_ever1, .inl m_made1, .inl m_ruleHere1, .inl m_ruleMinutes1, .inl m_ruleEver1, .inr (.inr (1, 85)), .inl m_ran1, .inl m_isKept1]) rfl ?_
      obtain ⟨h10, e11⟩ : ∃ z, z = h.set 63 (.inl (8, [.inl m_furlongs1, .inl m_many1, .inl q, .inl m_legs1, .inl m_most1, .inl m_nap1, .inl m_on1, .inl m_biscuits1, .inl m_races1, .inl m_worn1, .inl m_here1, .inl m_minutes1, .inl m_seed1, .inl m_fault1, .inr (.inr (1, 64)), .inr (.inr (1, 65)), .inr (.inr (1, 66)), .inr (.inr (1, 67)), .inr (.inr (1, 68)), .inr (.inr (1, 69)), .inr (.inr (1, 70)), .inr (.inr (1, 71)), .inr (.inr (1, 72)), .inr (.inr (1, 73)), .inr (.inr (1, 74)), .inr (.inr (1, 75)), .inr (.inr (1, 76)), .inr (.inr (1, 77)), .inr (.inr (1, 78)), .inl m_base1, .inl m_at1, .inl m_end1, .inl m_number1, .inl m_wrongAt1, .inr (.inr (1, 79)), .inr (.inr (1, 80)), .inr (.inr (1, 81)), .inr (.inr (1, 82)), .inr (.inr (1, 83)), .inr (.inr (1, 84)), .inl m_bestMany1, .inl m_bestHere1, .inl m_bestWorn1, .inl m_bestMinutes1, .inl m_turn1, .inl m_ever1, .inl m_made1, .inl m_ruleHere1, .inl m_ruleMinutes1, .inl m_ruleEver1, .inr (.inr (1, 85)), .inl m_ran1, .inl m_isKept1])) := ⟨_, rfl⟩
      rw [← e11]
      have c12 : h10[63]? = some (.inl (8, [.inl m_furlongs1, .inl m_many1, .inl q, .inl m_legs1, .inl m_most1, .inl m_nap1, .inl m_on1, .inl m_biscuits1, .inl m_races1, .inl m_worn1, .inl m_here1, .inl m_minutes1, .inl m_seed1, .inl m_fault1, .inr (.inr (1, 64)), .inr (.inr (1, 65)), .inr (.inr (1, 66)), .inr (.inr (1, 67)), .inr (.inr (1, 68)), .inr (.inr (1, 69)), .inr (.inr (1, 70)), .inr (.inr (1, 71)), .inr (.inr (1, 72)), .inr (.inr (1, 73)), .inr (.inr (1, 74)), .inr (.inr (1, 75)), .inr (.inr (1, 76)), .inr (.inr (1, 77)), .inr (.inr (1, 78)), .inl m_base1, .inl m_at1, .inl m_end1, .inl m_number1, .inl m_wrongAt1, .inr (.inr (1, 79)), .inr (.inr (1, 80)), .inr (.inr (1, 81)), .inr (.inr (1, 82)), .inr (.inr (1, 83)), .inr (.inr (1, 84)), .inl m_bestMany1, .inl m_bestHere1, .inl m_bestWorn1, .inl m_bestMinutes1, .inl m_turn1, .inl m_ever1, .inl m_made1, .inl m_ruleHere1, .inl m_ruleMinutes1, .inl m_ruleEver1, .inr (.inr (1, 85)), .inl m_ran1, .inl m_isKept1])) := by rw [e11, List.getElem?_set_self (List.getElem?_eq_some_iff.mp c63_1).1]
      have hI13 : zx_I h10 := by rw [e11]; exact zi_set hI (show zc_ref _ from ⟨_, _, _, _, _, _, _, _, _, _, _, _, _, _, _, _, _, _, _, _, _, _, _, _, _, _, _, _, _, _, _, rfl, by omega, by omega, by omega, by omega, by omega, by omega, by omega, by omega, by assumption⟩) (by decide) (by decide)
      have fr14 : ∀ i, i ∉ ([63, 64] : List Nat) → h10[i]? = h[i]? := fun i hi => Eq.trans (b := h[i]?) (by rw [e11, List.getElem?_set_ne (fun z => hi (by rw [← z]; decide))]) (fr0 i hi)
      refine zx_W_ins (pc' := 30) dX8_bag_29 rfl (fun _ => rfl) rfl ?_
      refine zw_iret dX8_bag_30 rfl rfl ?_
      exact hq _ h10 hI13 fr14
    · show zx_W _ _ _ _ _ _ _ [.inl 0] _ _
      refine zw_if_ne (tgt := 19) (pc' := 13) dX8_bag_10 rfl rfl (fun g => by first | exact absurd rfl g | exact absurd g (by decide)) (fun _ => ?_)
      refine zx_W_ins (pc' := 14) dX8_bag_13 rfl (fun _ => rfl) rfl ?_
      refine zw_ic (v := (-1)) (pc' := 15) dX8_bag_14 rfl rfl ?_
      refine zw_iv (k := 126) (pc' := 18) dX8_bag_15 rfl rfl rfl rfl c63_1 rfl rfl (zc_126 hI (by omega) (fun v16 h17 hI18 fr19 _ => ?_))
      show zx_W _ _ _ _ _ _ _ [.inl v16] _ _
      have fr20 : ∀ i, i ∉ ([63, 64] : List Nat) → h17[i]? = h[i]? := fun i hi => Eq.trans (fr19 i (fun z => hi (by first | exact absurd z List.not_mem_nil | (simp only [List.mem_cons, List.not_mem_nil, or_false] at z ⊢; omega)))) (fr0 i hi)
      have c21 : h17[63]? = some (.inl (8, [.inl m_furlongs1, .inl m_many1, .inl m_bagged1, .inl m_legs1, .inl m_most1, .inl m_nap1, .inl m_on1, .inl m_biscuits1, .inl m_races1, .inl m_worn1, .inl m_here1, .inl m_minutes1, .inl m_seed1, .inl m_fault1, .inr (.inr (1, 64)), .inr (.inr (1, 65)), .inr (.inr (1, 66)), .inr (.inr (1, 67)), .inr (.inr (1, 68)), .inr (.inr (1, 69)), .inr (.inr (1, 70)), .inr (.inr (1, 71)), .inr (.inr (1, 72)), .inr (.inr (1, 73)), .inr (.inr (1, 74)), .inr (.inr (1, 75)), .inr (.inr (1, 76)), .inr (.inr (1, 77)), .inr (.inr (1, 78)), .inl m_base1, .inl m_at1, .inl m_end1, .inl m_number1, .inl m_wrongAt1, .inr (.inr (1, 79)), .inr (.inr (1, 80)), .inr (.inr (1, 81)), .inr (.inr (1, 82)), .inr (.inr (1, 83)), .inr (.inr (1, 84)), .inl m_bestMany1, .inl m_bestHere1, .inl m_bestWorn1, .inl m_bestMinutes1, .inl m_turn1, .inl m_ever1, .inl m_made1, .inl m_ruleHere1, .inl m_ruleMinutes1, .inl m_ruleEver1, .inr (.inr (1, 85)), .inl m_ran1, .inl m_isKept1])) := by rw [fr19 63 (by decide)]; exact c63_1
      obtain ⟨x22, c64_22, f64_22, rfl, l64_22⟩ := zi_g hI18 64 (by decide)
      refine zw_iret dX8_bag_18 rfl rfl ?_
      exact hq _ h17 hI18 fr20
def zt_144 : zx_MT := (8, yX8_furlongOf, cX8_furlongOf, 3, (some FieldType.int), 2, 0)
theorem zm_144 : zx_m 144 = zt_144 := rfl
theorem dX8_furlongOf_0 : decode cX8_furlongOf 0 = .ok (.aload_n 0, 1) := by decide +kernel
theorem dX8_furlongOf_1 : decode cX8_furlongOf 1 = .ok (.iload_n 1, 1) := by decide +kernel
theorem dX8_furlongOf_2 : decode cX8_furlongOf 2 = .ok (.invokevirtual 139, 3) := by decide +kernel
theorem dX8_furlongOf_5 : decode cX8_furlongOf 5 = .ok (.ifCond .eq 12, 3) := by decide +kernel
theorem dX8_furlongOf_8 : decode cX8_furlongOf 8 = .ok (.iload_n 2, 1) := by decide +kernel
theorem dX8_furlongOf_9 : decode cX8_furlongOf 9 = .ok (.ifCond .lt 8, 3) := by decide +kernel
theorem dX8_furlongOf_12 : decode cX8_furlongOf 12 = .ok (.iload_n 2, 1) := by decide +kernel
theorem dX8_furlongOf_13 : decode cX8_furlongOf 13 = .ok (.iconst 1, 1) := by decide +kernel
theorem dX8_furlongOf_14 : decode cX8_furlongOf 14 = .ok (.if_icmp .le 10, 3) := by decide +kernel
theorem dX8_furlongOf_17 : decode cX8_furlongOf 17 = .ok (.aload_n 0, 1) := by decide +kernel
theorem dX8_furlongOf_18 : decode cX8_furlongOf 18 = .ok (.bipush (-5), 2) := by decide +kernel
theorem dX8_furlongOf_20 : decode cX8_furlongOf 20 = .ok (.invokevirtual 142, 3) := by decide +kernel
theorem dX8_furlongOf_23 : decode cX8_furlongOf 23 = .ok (.ireturn, 1) := by decide +kernel
theorem dX8_furlongOf_24 : decode cX8_furlongOf 24 = .ok (.iload_n 2, 1) := by decide +kernel
theorem dX8_furlongOf_25 : decode cX8_furlongOf 25 = .ok (.ifCond .ne 12, 3) := by decide +kernel
theorem dX8_furlongOf_28 : decode cX8_furlongOf 28 = .ok (.aload_n 0, 1) := by decide +kernel
theorem dX8_furlongOf_29 : decode cX8_furlongOf 29 = .ok (.getfield 41, 3) := by decide +kernel
theorem dX8_furlongOf_32 : decode cX8_furlongOf 32 = .ok (.iload_n 1, 1) := by decide +kernel
theorem dX8_furlongOf_33 : decode cX8_furlongOf 33 = .ok (.iaload, 1) := by decide +kernel
theorem dX8_furlongOf_34 : decode cX8_furlongOf 34 = .ok (.goto 9, 3) := by decide +kernel
theorem dX8_furlongOf_37 : decode cX8_furlongOf 37 = .ok (.aload_n 0, 1) := by decide +kernel
theorem dX8_furlongOf_38 : decode cX8_furlongOf 38 = .ok (.getfield 44, 3) := by decide +kernel
theorem dX8_furlongOf_41 : decode cX8_furlongOf 41 = .ok (.iload_n 1, 1) := by decide +kernel
theorem dX8_furlongOf_42 : decode cX8_furlongOf 42 = .ok (.iaload, 1) := by decide +kernel
theorem dX8_furlongOf_43 : decode cX8_furlongOf 43 = .ok (.ireturn, 1) := by decide +kernel
theorem zc_144 {d : Nat} {h : List zx_C} {q : Int32} {w : Int32} {Q : Option zx_V → List zx_C → Prop} (hI : zx_I h)    (hq : ∀ (v : Int32) (h2 : List zx_C), zx_I h2 → (∀ i, i ∉ ([64] : List Nat) → h2[i]? = h[i]?) → Q (some (.inl v)) h2) : zx_M (d + 1) 144 [.inr (.inr (1, 63)), .inl q, .inl w] h Q := by
  have el_m5 : ((-5) : Int32).toInt = -5 := by decide
  have el_0 : (0 : Int32).toInt = 0 := by decide
  have el_1 : (1 : Int32).toInt = 1 := by decide
  obtain ⟨x1, c63_1, m_furlongs1, m_many1, m_bagged1, m_legs1, m_most1, m_nap1, m_on1, m_biscuits1, m_races1, m_worn1, m_here1, m_minutes1, m_seed1, m_fault1, m_base1, m_at1, m_end1, m_number1, m_wrongAt1, m_bestMany1, m_bestHere1, m_bestWorn1, m_bestMinutes1, m_turn1, m_ever1, m_made1, m_ruleHere1, m_ruleMinutes1, m_ruleEver1, m_ran1, m_isKept1, rfl, q0_1, q1_1, q2_1, q3_1, q4_1, q5_1, q6_1, q7_1, q8_1⟩ := zi_g hI 63 (by decide)
  obtain ⟨x2, c65_2, f65_2, rfl, l65_2⟩ := zi_g hI 65 (by decide)
  obtain ⟨x3, c66_3, f66_3, rfl, l66_3⟩ := zi_g hI 66 (by decide)
  have fr0 : ∀ i, i ∉ ([64] : List Nat) → h[i]? = h[i]? := fun _ _ => rfl
  refine zx_M_of (Nat.le_of_ble_eq_true rfl) zm_144 (L := [some (.inr (.inr (1, 63))), some (.inl q), some (.inl w)]) rfl ?_
  refine zx_W_ins (pc' := 1) dX8_furlongOf_0 rfl (fun _ => rfl) rfl ?_
  refine zx_W_ins (pc' := 2) dX8_furlongOf_1 rfl (fun _ => rfl) rfl ?_
  refine zw_iv (k := 129) (pc' := 5) dX8_furlongOf_2 rfl rfl rfl rfl c63_1 rfl rfl (zc_129 c63_1 (fun g4 _ => ?_) (fun g4 _ => ?_))
  · show zx_W _ _ _ _ _ _ _ [.inl 1] _ _
    refine zw_if_eq (tgt := 17) (pc' := 8) dX8_furlongOf_5 rfl rfl (fun g => by first | exact absurd rfl g | exact absurd g (by decide)) (fun _ => ?_)
    refine zx_W_ins (pc' := 9) dX8_furlongOf_8 rfl (fun _ => rfl) rfl ?_
    refine zw_if_lt (tgt := 17) (pc' := 12) dX8_furlongOf_9 rfl rfl (fun g6 => ?_) (fun g6 => ?_)
    · refine zx_W_ins (pc' := 18) dX8_furlongOf_17 rfl (fun _ => rfl) rfl ?_
      refine zw_bi (v := (-5)) (pc' := 20) dX8_furlongOf_18 rfl rfl ?_
      refine zw_iv (k := 126) (pc' := 23) dX8_furlongOf_20 rfl rfl rfl rfl c63_1 rfl rfl (zc_126 hI (by omega) (fun v7 h8 hI9 fr10 _ => ?_))
      show zx_W _ _ _ _ _ _ _ [.inl v7] _ _
      have fr11 : ∀ i, i ∉ ([64] : List Nat) → h8[i]? = h[i]? := fun i hi => Eq.trans (fr10 i (fun z => hi (by first | exact absurd z List.not_mem_nil | (simp only [List.mem_cons, List.not_mem_nil, or_false] at z ⊢; omega)))) (fr0 i hi)
      have c12 : h8[63]? = some (.inl (8, [.inl m_furlongs1, .inl m_many1, .inl m_bagged1, .inl m_legs1, .inl m_most1, .inl m_nap1, .inl m_on1, .inl m_biscuits1, .inl m_races1, .inl m_worn1, .inl m_here1, .inl m_minutes1, .inl m_seed1, .inl m_fault1, .inr (.inr (1, 64)), .inr (.inr (1, 65)), .inr (.inr (1, 66)), .inr (.inr (1, 67)), .inr (.inr (1, 68)), .inr (.inr (1, 69)), .inr (.inr (1, 70)), .inr (.inr (1, 71)), .inr (.inr (1, 72)), .inr (.inr (1, 73)), .inr (.inr (1, 74)), .inr (.inr (1, 75)), .inr (.inr (1, 76)), .inr (.inr (1, 77)), .inr (.inr (1, 78)), .inl m_base1, .inl m_at1, .inl m_end1, .inl m_number1, .inl m_wrongAt1, .inr (.inr (1, 79)), .inr (.inr (1, 80)), .inr (.inr (1, 81)), .inr (.inr (1, 82)), .inr (.inr (1, 83)), .inr (.inr (1, 84)), .inl m_bestMany1, .inl m_bestHere1, .inl m_bestWorn1, .inl m_bestMinutes1, .inl m_turn1, .inl m_ever1, .inl m_made1, .inl m_ruleHere1, .inl m_ruleMinutes1, .inl m_ruleEver1, .inr (.inr (1, 85)), .inl m_ran1, .inl m_isKept1])) := by rw [fr10 63 (by decide)]; exact c63_1
      have c13 : h8[65]? = some (.inr (0, .inl f65_2)) := by rw [fr10 65 (by decide)]; exact c65_2
      have c14 : h8[66]? = some (.inr (0, .inl f66_3)) := by rw [fr10 66 (by decide)]; exact c66_3
      obtain ⟨x15, c64_15, f64_15, rfl, l64_15⟩ := zi_g hI9 64 (by decide)
      refine zw_iret dX8_furlongOf_23 rfl rfl ?_
      exact hq _ h8 hI9 fr11
    · refine zx_W_ins (pc' := 13) dX8_furlongOf_12 rfl (fun _ => rfl) rfl ?_
      refine zw_ic (v := 1) (pc' := 14) dX8_furlongOf_13 rfl rfl ?_
      refine zw_icmp_le (tgt := 24) (pc' := 17) dX8_furlongOf_14 rfl rfl (fun g16 => ?_) (fun g16 => ?_)
      · refine zx_W_ins (pc' := 25) dX8_furlongOf_24 rfl (fun _ => rfl) rfl ?_
        refine zw_if_ne (tgt := 37) (pc' := 28) dX8_furlongOf_25 rfl rfl (fun g17 => ?_) (fun g17 => ?_)
        · have g17t : ¬ (w).toInt = (0 : Int32).toInt := fun z => g17 (Int32.toInt_inj.mp z)
          refine zx_W_ins (pc' := 38) dX8_furlongOf_37 rfl (fun _ => rfl) rfl ?_
          refine zw_gf (pc' := 41) dX8_furlongOf_38 rfl rfl c63_1 rfl ?_
          refine zx_W_ins (pc' := 42) dX8_furlongOf_41 rfl (fun _ => rfl) rfl ?_
          refine zw_ial (pc' := 43) dX8_furlongOf_42 rfl c66_3 (zi_in (by have := l66_3; omega)) ?_
          refine zw_iret dX8_furlongOf_43 rfl rfl ?_
          exact hq _ h hI fr0
        · have g17t : (w).toInt = (0 : Int32).toInt := congrArg Int32.toInt g17
          refine zx_W_ins (pc' := 29) dX8_furlongOf_28 rfl (fun _ => rfl) rfl ?_
          refine zw_gf (pc' := 32) dX8_furlongOf_29 rfl rfl c63_1 rfl ?_
          refine zx_W_ins (pc' := 33) dX8_furlongOf_32 rfl (fun _ => rfl) rfl ?_
          refine zw_ial (pc' := 34) dX8_furlongOf_33 rfl c65_2 (zi_in (by have := l65_2; omega)) ?_
          refine zw_goto (tgt := 43) dX8_furlongOf_34 rfl ?_
          refine zw_iret dX8_furlongOf_43 rfl rfl ?_
          exact hq _ h hI fr0
      · refine zx_W_ins (pc' := 18) dX8_furlongOf_17 rfl (fun _ => rfl) rfl ?_
        refine zw_bi (v := (-5)) (pc' := 20) dX8_furlongOf_18 rfl rfl ?_
        refine zw_iv (k := 126) (pc' := 23) dX8_furlongOf_20 rfl rfl rfl rfl c63_1 rfl rfl (zc_126 hI (by omega) (fun v18 h19 hI20 fr21 _ => ?_))
        show zx_W _ _ _ _ _ _ _ [.inl v18] _ _
        have fr22 : ∀ i, i ∉ ([64] : List Nat) → h19[i]? = h[i]? := fun i hi => Eq.trans (fr21 i (fun z => hi (by first | exact absurd z List.not_mem_nil | (simp only [List.mem_cons, List.not_mem_nil, or_false] at z ⊢; omega)))) (fr0 i hi)
        have c23 : h19[63]? = some (.inl (8, [.inl m_furlongs1, .inl m_many1, .inl m_bagged1, .inl m_legs1, .inl m_most1, .inl m_nap1, .inl m_on1, .inl m_biscuits1, .inl m_races1, .inl m_worn1, .inl m_here1, .inl m_minutes1, .inl m_seed1, .inl m_fault1, .inr (.inr (1, 64)), .inr (.inr (1, 65)), .inr (.inr (1, 66)), .inr (.inr (1, 67)), .inr (.inr (1, 68)), .inr (.inr (1, 69)), .inr (.inr (1, 70)), .inr (.inr (1, 71)), .inr (.inr (1, 72)), .inr (.inr (1, 73)), .inr (.inr (1, 74)), .inr (.inr (1, 75)), .inr (.inr (1, 76)), .inr (.inr (1, 77)), .inr (.inr (1, 78)), .inl m_base1, .inl m_at1, .inl m_end1, .inl m_number1, .inl m_wrongAt1, .inr (.inr (1, 79)), .inr (.inr (1, 80)), .inr (.inr (1, 81)), .inr (.inr (1, 82)), .inr (.inr (1, 83)), .inr (.inr (1, 84)), .inl m_bestMany1, .inl m_bestHere1, .inl m_bestWorn1, .inl m_bestMinutes1, .inl m_turn1, .inl m_ever1, .inl m_made1, .inl m_ruleHere1, .inl m_ruleMinutes1, .inl m_ruleEver1, .inr (.inr (1, 85)), .inl m_ran1, .inl m_isKept1])) := by rw [fr21 63 (by decide)]; exact c63_1
        have c24 : h19[65]? = some (.inr (0, .inl f65_2)) := by rw [fr21 65 (by decide)]; exact c65_2
        have c25 : h19[66]? = some (.inr (0, .inl f66_3)) := by rw [fr21 66 (by decide)]; exact c66_3
        obtain ⟨x26, c64_26, f64_26, rfl, l64_26⟩ := zi_g hI20 64 (by decide)
        refine zw_iret dX8_furlongOf_23 rfl rfl ?_
        exact hq _ h19 hI20 fr22
  · show zx_W _ _ _ _ _ _ _ [.inl 0] _ _
    refine zw_if_eq (tgt := 17) (pc' := 8) dX8_furlongOf_5 rfl rfl (fun _ => ?_) (fun g => by first | exact absurd rfl g | exact absurd g (by decide))
    refine zx_W_ins (pc' := 18) dX8_furlongOf_17 rfl (fun _ => rfl) rfl ?_
    refine zw_bi (v := (-5)) (pc' := 20) dX8_furlongOf_18 rfl rfl ?_
    refine zw_iv (k := 126) (pc' := 23) dX8_furlongOf_20 rfl rfl rfl rfl c63_1 rfl rfl (zc_126 hI (by omega) (fun v28 h29 hI30 fr31 _ => ?_))
    show zx_W _ _ _ _ _ _ _ [.inl v28] _ _
    have fr32 : ∀ i, i ∉ ([64] : List Nat) → h29[i]? = h[i]? := fun i hi => Eq.trans (fr31 i (fun z => hi (by first | exact absurd z List.not_mem_nil | (simp only [List.mem_cons, List.not_mem_nil, or_false] at z ⊢; omega)))) (fr0 i hi)
    have c33 : h29[63]? = some (.inl (8, [.inl m_furlongs1, .inl m_many1, .inl m_bagged1, .inl m_legs1, .inl m_most1, .inl m_nap1, .inl m_on1, .inl m_biscuits1, .inl m_races1, .inl m_worn1, .inl m_here1, .inl m_minutes1, .inl m_seed1, .inl m_fault1, .inr (.inr (1, 64)), .inr (.inr (1, 65)), .inr (.inr (1, 66)), .inr (.inr (1, 67)), .inr (.inr (1, 68)), .inr (.inr (1, 69)), .inr (.inr (1, 70)), .inr (.inr (1, 71)), .inr (.inr (1, 72)), .inr (.inr (1, 73)), .inr (.inr (1, 74)), .inr (.inr (1, 75)), .inr (.inr (1, 76)), .inr (.inr (1, 77)), .inr (.inr (1, 78)), .inl m_base1, .inl m_at1, .inl m_end1, .inl m_number1, .inl m_wrongAt1, .inr (.inr (1, 79)), .inr (.inr (1, 80)), .inr (.inr (1, 81)), .inr (.inr (1, 82)), .inr (.inr (1, 83)), .inr (.inr (1, 84)), .inl m_bestMany1, .inl m_bestHere1, .inl m_bestWorn1, .inl m_bestMinutes1, .inl m_turn1, .inl m_ever1, .inl m_made1, .inl m_ruleHere1, .inl m_ruleMinutes1, .inl m_ruleEver1, .inr (.inr (1, 85)), .inl m_ran1, .inl m_isKept1])) := by rw [fr31 63 (by decide)]; exact c63_1
    have c34 : h29[65]? = some (.inr (0, .inl f65_2)) := by rw [fr31 65 (by decide)]; exact c65_2
    have c35 : h29[66]? = some (.inr (0, .inl f66_3)) := by rw [fr31 66 (by decide)]; exact c66_3
    obtain ⟨x36, c64_36, f64_36, rfl, l64_36⟩ := zi_g hI30 64 (by decide)
    refine zw_iret dX8_furlongOf_23 rfl rfl ?_
    exact hq _ h29 hI30 fr32
def zt_78 : zx_MT := (7, yX7_personOf, cX7_personOf, 3, (some FieldType.int), 2, 0)
theorem zm_78 : zx_m 78 = zt_78 := rfl
theorem dX7_personOf_0 : decode cX7_personOf 0 = .ok (.aload_n 0, 1) := by decide +kernel
theorem dX7_personOf_1 : decode cX7_personOf 1 = .ok (.getfield 23, 3) := by decide +kernel
theorem dX7_personOf_4 : decode cX7_personOf 4 = .ok (.getfield 30, 3) := by decide +kernel
theorem dX7_personOf_7 : decode cX7_personOf 7 = .ok (.iload_n 1, 1) := by decide +kernel
theorem dX7_personOf_8 : decode cX7_personOf 8 = .ok (.invokevirtual 118, 3) := by decide +kernel
theorem dX7_personOf_11 : decode cX7_personOf 11 = .ok (.ifCond .ne 9, 3) := by decide +kernel
theorem dX7_personOf_14 : decode cX7_personOf 14 = .ok (.aload_n 0, 1) := by decide +kernel
theorem dX7_personOf_15 : decode cX7_personOf 15 = .ok (.iconst 5, 1) := by decide +kernel
theorem dX7_personOf_16 : decode cX7_personOf 16 = .ok (.invokevirtual 82, 3) := by decide +kernel
theorem dX7_personOf_19 : decode cX7_personOf 19 = .ok (.ireturn, 1) := by decide +kernel
theorem dX7_personOf_20 : decode cX7_personOf 20 = .ok (.iload_n 2, 1) := by decide +kernel
theorem dX7_personOf_21 : decode cX7_personOf 21 = .ok (.tableswitch 84 0 3 #[31, 44, 57, 67], 31) := by decide +kernel
theorem dX7_personOf_52 : decode cX7_personOf 52 = .ok (.aload_n 0, 1) := by decide +kernel
theorem dX7_personOf_53 : decode cX7_personOf 53 = .ok (.getfield 23, 3) := by decide +kernel
theorem dX7_personOf_56 : decode cX7_personOf 56 = .ok (.getfield 30, 3) := by decide +kernel
theorem dX7_personOf_59 : decode cX7_personOf 59 = .ok (.getfield 127, 3) := by decide +kernel
theorem dX7_personOf_62 : decode cX7_personOf 62 = .ok (.iload_n 1, 1) := by decide +kernel
theorem dX7_personOf_63 : decode cX7_personOf 63 = .ok (.iaload, 1) := by decide +kernel
theorem dX7_personOf_64 : decode cX7_personOf 64 = .ok (.ireturn, 1) := by decide +kernel
theorem dX7_personOf_65 : decode cX7_personOf 65 = .ok (.aload_n 0, 1) := by decide +kernel
theorem dX7_personOf_66 : decode cX7_personOf 66 = .ok (.getfield 23, 3) := by decide +kernel
theorem dX7_personOf_69 : decode cX7_personOf 69 = .ok (.getfield 30, 3) := by decide +kernel
theorem dX7_personOf_72 : decode cX7_personOf 72 = .ok (.getfield 171, 3) := by decide +kernel
theorem dX7_personOf_75 : decode cX7_personOf 75 = .ok (.iload_n 1, 1) := by decide +kernel
theorem dX7_personOf_76 : decode cX7_personOf 76 = .ok (.iaload, 1) := by decide +kernel
theorem dX7_personOf_77 : decode cX7_personOf 77 = .ok (.ireturn, 1) := by decide +kernel
theorem dX7_personOf_78 : decode cX7_personOf 78 = .ok (.aload_n 0, 1) := by decide +kernel
theorem dX7_personOf_79 : decode cX7_personOf 79 = .ok (.getfield 23, 3) := by decide +kernel
theorem dX7_personOf_82 : decode cX7_personOf 82 = .ok (.getfield 143, 3) := by decide +kernel
theorem dX7_personOf_85 : decode cX7_personOf 85 = .ok (.iload_n 1, 1) := by decide +kernel
theorem dX7_personOf_86 : decode cX7_personOf 86 = .ok (.iaload, 1) := by decide +kernel
theorem dX7_personOf_87 : decode cX7_personOf 87 = .ok (.ireturn, 1) := by decide +kernel
theorem dX7_personOf_88 : decode cX7_personOf 88 = .ok (.aload_n 0, 1) := by decide +kernel
theorem dX7_personOf_89 : decode cX7_personOf 89 = .ok (.getfield 23, 3) := by decide +kernel
theorem dX7_personOf_92 : decode cX7_personOf 92 = .ok (.getfield 174, 3) := by decide +kernel
theorem dX7_personOf_95 : decode cX7_personOf 95 = .ok (.iload_n 1, 1) := by decide +kernel
theorem dX7_personOf_96 : decode cX7_personOf 96 = .ok (.if_icmp .ne 7, 3) := by decide +kernel
theorem dX7_personOf_99 : decode cX7_personOf 99 = .ok (.iconst 1, 1) := by decide +kernel
theorem dX7_personOf_100 : decode cX7_personOf 100 = .ok (.goto 4, 3) := by decide +kernel
theorem dX7_personOf_103 : decode cX7_personOf 103 = .ok (.iconst 0, 1) := by decide +kernel
theorem dX7_personOf_104 : decode cX7_personOf 104 = .ok (.ireturn, 1) := by decide +kernel
theorem dX7_personOf_105 : decode cX7_personOf 105 = .ok (.aload_n 0, 1) := by decide +kernel
theorem dX7_personOf_106 : decode cX7_personOf 106 = .ok (.iconst 5, 1) := by decide +kernel
theorem dX7_personOf_107 : decode cX7_personOf 107 = .ok (.invokevirtual 82, 3) := by decide +kernel
theorem dX7_personOf_110 : decode cX7_personOf 110 = .ok (.ireturn, 1) := by decide +kernel
theorem zc_78 {d : Nat} {h : List zx_C} {q : Int32} {w : Int32} {Q : Option zx_V → List zx_C → Prop} (hI : zx_I h)    (hq : ∀ (v : Int32) (h2 : List zx_C), zx_I h2 → (∀ i, i ∉ ([46] : List Nat) → h2[i]? = h[i]?) → Q (some (.inl v)) h2) : zx_M (d + 1) 78 [.inr (.inr (1, 0)), .inl q, .inl w] h Q := by
  have el_0 : (0 : Int32).toInt = 0 := by decide
  have el_1 : (1 : Int32).toInt = 1 := by decide
  have el_5 : (5 : Int32).toInt = 5 := by decide
  obtain ⟨x1, c0_1, it1, lf1, rfl, hit1⟩ := zi_g hI 0 (by decide)
  obtain ⟨x2, c2_2, bg2, mo2, le2, na2, on2, bi2, ra2, wo2, he2, mi2, se2, rfl, hh2, hk2⟩ := zi_g hI 2 (by decide)
  obtain ⟨x3, c3_3, fu3, pe3, rfl, hf3, hg3, hp3, hq3⟩ := zi_g hI 3 (by decide)
  obtain ⟨x4, c6_4, f6_4, rfl, l6_4, b6_4⟩ := zi_g hI 6 (by decide)
  obtain ⟨x5, c7_5, f7_5, rfl, l7_5⟩ := zi_g hI 7 (by decide)
  obtain ⟨x6, c8_6, f8_6, rfl, l8_6⟩ := zi_g hI 8 (by decide)
  have fr0 : ∀ i, i ∉ ([46] : List Nat) → h[i]? = h[i]? := fun _ _ => rfl
  refine zx_M_of (Nat.le_of_ble_eq_true rfl) zm_78 (L := [some (.inr (.inr (1, 0))), some (.inl q), some (.inl w)]) rfl ?_
  refine zx_W_ins (pc' := 1) dX7_personOf_0 rfl (fun _ => rfl) rfl ?_
  refine zw_gf (pc' := 4) dX7_personOf_1 rfl rfl c0_1 rfl ?_
  refine zw_gf (pc' := 7) dX7_personOf_4 rfl rfl c2_2 rfl ?_
  refine zx_W_ins (pc' := 8) dX7_personOf_7 rfl (fun _ => rfl) rfl ?_
  refine zw_iv (k := 65) (pc' := 11) dX7_personOf_8 rfl rfl rfl rfl c3_3 rfl rfl (zc_65 c3_3 (fun g7 _ => ?_) (fun g7 _ => ?_))
  · show zx_W _ _ _ _ _ _ _ [.inl 1] _ _
    refine zw_if_ne (tgt := 20) (pc' := 14) dX7_personOf_11 rfl rfl (fun _ => ?_) (fun g => by first | exact absurd rfl g | exact absurd g (by decide))
    refine zx_W_ins (pc' := 21) dX7_personOf_20 rfl (fun _ => rfl) rfl ?_
    refine zw_tsc (tgd := 105) dX7_personOf_21 rfl [52, 65, 78, 88] (by decide) (by decide) (fun g9 => ?_) (zl_cons (fun g9 => ?_) (zl_cons (fun g9 => ?_) (zl_cons (fun g9 => ?_) (zl_cons (fun g9 => ?_) (zl_nil)))))
    · refine zx_W_ins (pc' := 106) dX7_personOf_105 rfl (fun _ => rfl) rfl ?_
      refine zw_ic (v := 5) (pc' := 107) dX7_personOf_106 rfl rfl ?_
      refine zw_iv (k := 109) (pc' := 110) dX7_personOf_107 rfl rfl rfl rfl c0_1 rfl rfl (zc_109 hI (by omega) (fun v10 h11 hI12 fr13 hvv10 _ => ?_))
      show zx_W _ _ _ _ _ _ _ [.inl v10] _ _
      have fr14 : ∀ i, i ∉ ([46] : List Nat) → h11[i]? = h[i]? := fun i hi => Eq.trans (fr13 i (fun z => hi (by first | exact absurd z List.not_mem_nil | (simp only [List.mem_cons, List.not_mem_nil, or_false] at z ⊢; omega)))) (fr0 i hi)
      have c15 : h11[0]? = some (.inl (7, [.inr (.inr (1, 1)), .inr (.inr (1, 2)), .inr (.inr (1, 9)), .inr (.inr (1, 16)), .inr (.inr (1, 18)), .inr (.inr (1, 21)), .inr (.inr (1, 35)), .inr (.inr (1, 44)), .inr (.inr (1, 46)), .inl it1, .inl lf1])) := by rw [fr13 0 (by decide)]; exact c0_1
      have c16 : h11[2]? = some (.inl (5, [.inr (.inr (1, 3)), .inr (.inr (1, 8)), .inl bg2, .inl mo2, .inl le2, .inl na2, .inl on2, .inl bi2, .inl ra2, .inl wo2, .inl he2, .inl mi2, .inl se2])) := by rw [fr13 2 (by decide)]; exact c2_2
      have c17 : h11[3]? = some (.inl (6, [.inr (.inr (1, 4)), .inr (.inr (1, 5)), .inr (.inr (1, 6)), .inr (.inr (1, 7)), .inl fu3, .inl pe3])) := by rw [fr13 3 (by decide)]; exact c3_3
      have c18 : h11[6]? = some (.inr (0, .inl f6_4)) := by rw [fr13 6 (by decide)]; exact c6_4
      have c19 : h11[7]? = some (.inr (0, .inl f7_5)) := by rw [fr13 7 (by decide)]; exact c7_5
      have c20 : h11[8]? = some (.inr (0, .inl f8_6)) := by rw [fr13 8 (by decide)]; exact c8_6
      obtain ⟨x21, c46_21, f46_21, rfl, l46_21⟩ := zi_g hI12 46 (by decide)
      refine zw_iret dX7_personOf_110 rfl rfl ?_
      exact hq _ h11 hI12 fr14
    · refine zx_W_ins (pc' := 53) dX7_personOf_52 rfl (fun _ => rfl) rfl ?_
      refine zw_gf (pc' := 56) dX7_personOf_53 rfl rfl c0_1 rfl ?_
      refine zw_gf (pc' := 59) dX7_personOf_56 rfl rfl c2_2 rfl ?_
      refine zw_gf (pc' := 62) dX7_personOf_59 rfl rfl c3_3 rfl ?_
      refine zx_W_ins (pc' := 63) dX7_personOf_62 rfl (fun _ => rfl) rfl ?_
      refine zw_ial (pc' := 64) dX7_personOf_63 rfl c6_4 (zi_in (by have := l6_4; omega)) ?_
      have bb22 := b6_4 q.toNatClampNeg (by have := (zi_in (x := q) (n := 6) (by omega)).2; omega)
      refine zw_iret dX7_personOf_64 rfl rfl ?_
      exact hq _ h hI fr0
    · refine zx_W_ins (pc' := 66) dX7_personOf_65 rfl (fun _ => rfl) rfl ?_
      refine zw_gf (pc' := 69) dX7_personOf_66 rfl rfl c0_1 rfl ?_
      refine zw_gf (pc' := 72) dX7_personOf_69 rfl rfl c2_2 rfl ?_
      refine zw_gf (pc' := 75) dX7_personOf_72 rfl rfl c3_3 rfl ?_
      refine zx_W_ins (pc' := 76) dX7_personOf_75 rfl (fun _ => rfl) rfl ?_
      refine zw_ial (pc' := 77) dX7_personOf_76 rfl c7_5 (zi_in (by have := l7_5; omega)) ?_
      refine zw_iret dX7_personOf_77 rfl rfl ?_
      exact hq _ h hI fr0
    · refine zx_W_ins (pc' := 79) dX7_personOf_78 rfl (fun _ => rfl) rfl ?_
      refine zw_gf (pc' := 82) dX7_personOf_79 rfl rfl c0_1 rfl ?_
      refine zw_gf (pc' := 85) dX7_personOf_82 rfl rfl c2_2 rfl ?_
      refine zx_W_ins (pc' := 86) dX7_personOf_85 rfl (fun _ => rfl) rfl ?_
      refine zw_ial (pc' := 87) dX7_personOf_86 rfl c8_6 (zi_in (by have := l8_6; omega)) ?_
      refine zw_iret dX7_personOf_87 rfl rfl ?_
      exact hq _ h hI fr0
    · refine zx_W_ins (pc' := 89) dX7_personOf_88 rfl (fun _ => rfl) rfl ?_
      refine zw_gf (pc' := 92) dX7_personOf_89 rfl rfl c0_1 rfl ?_
      refine zw_gf (pc' := 95) dX7_personOf_92 rfl rfl c2_2 rfl ?_
      refine zx_W_ins (pc' := 96) dX7_personOf_95 rfl (fun _ => rfl) rfl ?_
      refine zw_icmp_ne (tgt := 103) (pc' := 99) dX7_personOf_96 rfl rfl (fun g23 => ?_) (fun g23 => ?_)
      · have g23t : ¬ (bg2).toInt = (q : Int32).toInt := fun z => g23 (Int32.toInt_inj.mp z)
        refine zw_ic (v := 0) (pc' := 104) dX7_personOf_103 rfl rfl ?_
        refine zw_iret dX7_personOf_104 rfl rfl ?_
        exact hq _ h hI fr0
      · have g23t : (bg2).toInt = (q : Int32).toInt := congrArg Int32.toInt g23
        refine zw_ic (v := 1) (pc' := 100) dX7_personOf_99 rfl rfl ?_
        refine zw_goto (tgt := 104) dX7_personOf_100 rfl ?_
        refine zw_iret dX7_personOf_104 rfl rfl ?_
        exact hq _ h hI fr0
  · show zx_W _ _ _ _ _ _ _ [.inl 0] _ _
    refine zw_if_ne (tgt := 20) (pc' := 14) dX7_personOf_11 rfl rfl (fun g => by first | exact absurd rfl g | exact absurd g (by decide)) (fun _ => ?_)
    refine zx_W_ins (pc' := 15) dX7_personOf_14 rfl (fun _ => rfl) rfl ?_
    refine zw_ic (v := 5) (pc' := 16) dX7_personOf_15 rfl rfl ?_
    refine zw_iv (k := 109) (pc' := 19) dX7_personOf_16 rfl rfl rfl rfl c0_1 rfl rfl (zc_109 hI (by omega) (fun v25 h26 hI27 fr28 hvv25 _ => ?_))
    show zx_W _ _ _ _ _ _ _ [.inl v25] _ _
    have fr29 : ∀ i, i ∉ ([46] : List Nat) → h26[i]? = h[i]? := fun i hi => Eq.trans (fr28 i (fun z => hi (by first | exact absurd z List.not_mem_nil | (simp only [List.mem_cons, List.not_mem_nil, or_false] at z ⊢; omega)))) (fr0 i hi)
    have c30 : h26[0]? = some (.inl (7, [.inr (.inr (1, 1)), .inr (.inr (1, 2)), .inr (.inr (1, 9)), .inr (.inr (1, 16)), .inr (.inr (1, 18)), .inr (.inr (1, 21)), .inr (.inr (1, 35)), .inr (.inr (1, 44)), .inr (.inr (1, 46)), .inl it1, .inl lf1])) := by rw [fr28 0 (by decide)]; exact c0_1
    have c31 : h26[2]? = some (.inl (5, [.inr (.inr (1, 3)), .inr (.inr (1, 8)), .inl bg2, .inl mo2, .inl le2, .inl na2, .inl on2, .inl bi2, .inl ra2, .inl wo2, .inl he2, .inl mi2, .inl se2])) := by rw [fr28 2 (by decide)]; exact c2_2
    have c32 : h26[3]? = some (.inl (6, [.inr (.inr (1, 4)), .inr (.inr (1, 5)), .inr (.inr (1, 6)), .inr (.inr (1, 7)), .inl fu3, .inl pe3])) := by rw [fr28 3 (by decide)]; exact c3_3
    have c33 : h26[6]? = some (.inr (0, .inl f6_4)) := by rw [fr28 6 (by decide)]; exact c6_4
    have c34 : h26[7]? = some (.inr (0, .inl f7_5)) := by rw [fr28 7 (by decide)]; exact c7_5
    have c35 : h26[8]? = some (.inr (0, .inl f8_6)) := by rw [fr28 8 (by decide)]; exact c8_6
    obtain ⟨x36, c46_36, f46_36, rfl, l46_36⟩ := zi_g hI27 46 (by decide)
    refine zw_iret dX7_personOf_19 rfl rfl ?_
    exact hq _ h26 hI27 fr29
def zt_145 : zx_MT := (8, yX8_personOf, cX8_personOf, 3, (some FieldType.int), 2, 0)
theorem zm_145 : zx_m 145 = zt_145 := rfl
theorem dX8_personOf_0 : decode cX8_personOf 0 = .ok (.aload_n 0, 1) := by decide +kernel
theorem dX8_personOf_1 : decode cX8_personOf 1 = .ok (.iload_n 1, 1) := by decide +kernel
theorem dX8_personOf_2 : decode cX8_personOf 2 = .ok (.invokevirtual 119, 3) := by decide +kernel
theorem dX8_personOf_5 : decode cX8_personOf 5 = .ok (.ifCond .ne 10, 3) := by decide +kernel
theorem dX8_personOf_8 : decode cX8_personOf 8 = .ok (.aload_n 0, 1) := by decide +kernel
theorem dX8_personOf_9 : decode cX8_personOf 9 = .ok (.bipush (-5), 2) := by decide +kernel
theorem dX8_personOf_11 : decode cX8_personOf 11 = .ok (.invokevirtual 115, 3) := by decide +kernel
theorem dX8_personOf_14 : decode cX8_personOf 14 = .ok (.ireturn, 1) := by decide +kernel
theorem dX8_personOf_15 : decode cX8_personOf 15 = .ok (.iload_n 2, 1) := by decide +kernel
theorem dX8_personOf_16 : decode cX8_personOf 16 = .ok (.tableswitch 67 0 3 #[32, 39, 46, 53], 32) := by decide +kernel
theorem dX8_personOf_48 : decode cX8_personOf 48 = .ok (.aload_n 0, 1) := by decide +kernel
theorem dX8_personOf_49 : decode cX8_personOf 49 = .ok (.getfield 47, 3) := by decide +kernel
theorem dX8_personOf_52 : decode cX8_personOf 52 = .ok (.iload_n 1, 1) := by decide +kernel
theorem dX8_personOf_53 : decode cX8_personOf 53 = .ok (.iaload, 1) := by decide +kernel
theorem dX8_personOf_54 : decode cX8_personOf 54 = .ok (.ireturn, 1) := by decide +kernel
theorem dX8_personOf_55 : decode cX8_personOf 55 = .ok (.aload_n 0, 1) := by decide +kernel
theorem dX8_personOf_56 : decode cX8_personOf 56 = .ok (.getfield 50, 3) := by decide +kernel
theorem dX8_personOf_59 : decode cX8_personOf 59 = .ok (.iload_n 1, 1) := by decide +kernel
theorem dX8_personOf_60 : decode cX8_personOf 60 = .ok (.iaload, 1) := by decide +kernel
theorem dX8_personOf_61 : decode cX8_personOf 61 = .ok (.ireturn, 1) := by decide +kernel
theorem dX8_personOf_62 : decode cX8_personOf 62 = .ok (.aload_n 0, 1) := by decide +kernel
theorem dX8_personOf_63 : decode cX8_personOf 63 = .ok (.getfield 53, 3) := by decide +kernel
theorem dX8_personOf_66 : decode cX8_personOf 66 = .ok (.iload_n 1, 1) := by decide +kernel
theorem dX8_personOf_67 : decode cX8_personOf 67 = .ok (.iaload, 1) := by decide +kernel
theorem dX8_personOf_68 : decode cX8_personOf 68 = .ok (.ireturn, 1) := by decide +kernel
theorem dX8_personOf_69 : decode cX8_personOf 69 = .ok (.aload_n 0, 1) := by decide +kernel
theorem dX8_personOf_70 : decode cX8_personOf 70 = .ok (.getfield 9, 3) := by decide +kernel
theorem dX8_personOf_73 : decode cX8_personOf 73 = .ok (.iload_n 1, 1) := by decide +kernel
theorem dX8_personOf_74 : decode cX8_personOf 74 = .ok (.if_icmp .ne 7, 3) := by decide +kernel
theorem dX8_personOf_77 : decode cX8_personOf 77 = .ok (.iconst 1, 1) := by decide +kernel
theorem dX8_personOf_78 : decode cX8_personOf 78 = .ok (.goto 4, 3) := by decide +kernel
theorem dX8_personOf_81 : decode cX8_personOf 81 = .ok (.iconst 0, 1) := by decide +kernel
theorem dX8_personOf_82 : decode cX8_personOf 82 = .ok (.ireturn, 1) := by decide +kernel
theorem dX8_personOf_83 : decode cX8_personOf 83 = .ok (.aload_n 0, 1) := by decide +kernel
theorem dX8_personOf_84 : decode cX8_personOf 84 = .ok (.bipush (-5), 2) := by decide +kernel
theorem dX8_personOf_86 : decode cX8_personOf 86 = .ok (.invokevirtual 115, 3) := by decide +kernel
theorem dX8_personOf_89 : decode cX8_personOf 89 = .ok (.ireturn, 1) := by decide +kernel
theorem zc_145 {d : Nat} {h : List zx_C} {q : Int32} {w : Int32} {Q : Option zx_V → List zx_C → Prop} (hI : zx_I h)    (hq : ∀ (v : Int32) (h2 : List zx_C), zx_I h2 → (∀ i, i ∉ ([64] : List Nat) → h2[i]? = h[i]?) → Q (some (.inl v)) h2) : zx_M (d + 1) 145 [.inr (.inr (1, 63)), .inl q, .inl w] h Q := by
  have el_m5 : ((-5) : Int32).toInt = -5 := by decide
  have el_0 : (0 : Int32).toInt = 0 := by decide
  have el_1 : (1 : Int32).toInt = 1 := by decide
  obtain ⟨x1, c63_1, m_furlongs1, m_many1, m_bagged1, m_legs1, m_most1, m_nap1, m_on1, m_biscuits1, m_races1, m_worn1, m_here1, m_minutes1, m_seed1, m_fault1, m_base1, m_at1, m_end1, m_number1, m_wrongAt1, m_bestMany1, m_bestHere1, m_bestWorn1, m_bestMinutes1, m_turn1, m_ever1, m_made1, m_ruleHere1, m_ruleMinutes1, m_ruleEver1, m_ran1, m_isKept1, rfl, q0_1, q1_1, q2_1, q3_1, q4_1, q5_1, q6_1, q7_1, q8_1⟩ := zi_g hI 63 (by decide)
  obtain ⟨x2, c67_2, f67_2, rfl, l67_2, b67_2⟩ := zi_g hI 67 (by decide)
  obtain ⟨x3, c68_3, f68_3, rfl, l68_3⟩ := zi_g hI 68 (by decide)
  obtain ⟨x4, c69_4, f69_4, rfl, l69_4⟩ := zi_g hI 69 (by decide)
  have fr0 : ∀ i, i ∉ ([64] : List Nat) → h[i]? = h[i]? := fun _ _ => rfl
  refine zx_M_of (Nat.le_of_ble_eq_true rfl) zm_145 (L := [some (.inr (.inr (1, 63))), some (.inl q), some (.inl w)]) rfl ?_
  refine zx_W_ins (pc' := 1) dX8_personOf_0 rfl (fun _ => rfl) rfl ?_
  refine zx_W_ins (pc' := 2) dX8_personOf_1 rfl (fun _ => rfl) rfl ?_
  refine zw_iv (k := 128) (pc' := 5) dX8_personOf_2 rfl rfl rfl rfl c63_1 rfl rfl (zc_128 c63_1 (fun g5 _ => ?_) (fun g5 _ => ?_))
  · show zx_W _ _ _ _ _ _ _ [.inl 1] _ _
    refine zw_if_ne (tgt := 15) (pc' := 8) dX8_personOf_5 rfl rfl (fun _ => ?_) (fun g => by first | exact absurd rfl g | exact absurd g (by decide))
    refine zx_W_ins (pc' := 16) dX8_personOf_15 rfl (fun _ => rfl) rfl ?_
    refine zw_tsc (tgd := 83) dX8_personOf_16 rfl [48, 55, 62, 69] (by decide) (by decide) (fun g7 => ?_) (zl_cons (fun g7 => ?_) (zl_cons (fun g7 => ?_) (zl_cons (fun g7 => ?_) (zl_cons (fun g7 => ?_) (zl_nil)))))
    · refine zx_W_ins (pc' := 84) dX8_personOf_83 rfl (fun _ => rfl) rfl ?_
      refine zw_bi (v := (-5)) (pc' := 86) dX8_personOf_84 rfl rfl ?_
      refine zw_iv (k := 125) (pc' := 89) dX8_personOf_86 rfl rfl rfl rfl c63_1 rfl rfl (zc_125 hI (by omega) (fun v8 h9 hI10 fr11 hvv8 _ => ?_))
      show zx_W _ _ _ _ _ _ _ [.inl v8] _ _
      have fr12 : ∀ i, i ∉ ([64] : List Nat) → h9[i]? = h[i]? := fun i hi => Eq.trans (fr11 i (fun z => hi (by first | exact absurd z List.not_mem_nil | (simp only [List.mem_cons, List.not_mem_nil, or_false] at z ⊢; omega)))) (fr0 i hi)
      have c13 : h9[63]? = some (.inl (8, [.inl m_furlongs1, .inl m_many1, .inl m_bagged1, .inl m_legs1, .inl m_most1, .inl m_nap1, .inl m_on1, .inl m_biscuits1, .inl m_races1, .inl m_worn1, .inl m_here1, .inl m_minutes1, .inl m_seed1, .inl m_fault1, .inr (.inr (1, 64)), .inr (.inr (1, 65)), .inr (.inr (1, 66)), .inr (.inr (1, 67)), .inr (.inr (1, 68)), .inr (.inr (1, 69)), .inr (.inr (1, 70)), .inr (.inr (1, 71)), .inr (.inr (1, 72)), .inr (.inr (1, 73)), .inr (.inr (1, 74)), .inr (.inr (1, 75)), .inr (.inr (1, 76)), .inr (.inr (1, 77)), .inr (.inr (1, 78)), .inl m_base1, .inl m_at1, .inl m_end1, .inl m_number1, .inl m_wrongAt1, .inr (.inr (1, 79)), .inr (.inr (1, 80)), .inr (.inr (1, 81)), .inr (.inr (1, 82)), .inr (.inr (1, 83)), .inr (.inr (1, 84)), .inl m_bestMany1, .inl m_bestHere1, .inl m_bestWorn1, .inl m_bestMinutes1, .inl m_turn1, .inl m_ever1, .inl m_made1, .inl m_ruleHere1, .inl m_ruleMinutes1, .inl m_ruleEver1, .inr (.inr (1, 85)), .inl m_ran1, .inl m_isKept1])) := by rw [fr11 63 (by decide)]; exact c63_1
      have c14 : h9[67]? = some (.inr (0, .inl f67_2)) := by rw [fr11 67 (by decide)]; exact c67_2
      have c15 : h9[68]? = some (.inr (0, .inl f68_3)) := by rw [fr11 68 (by decide)]; exact c68_3
      have c16 : h9[69]? = some (.inr (0, .inl f69_4)) := by rw [fr11 69 (by decide)]; exact c69_4
      obtain ⟨x17, c64_17, f64_17, rfl, l64_17⟩ := zi_g hI10 64 (by decide)
      refine zw_iret dX8_personOf_89 rfl rfl ?_
      exact hq _ h9 hI10 fr12
    · refine zx_W_ins (pc' := 49) dX8_personOf_48 rfl (fun _ => rfl) rfl ?_
      refine zw_gf (pc' := 52) dX8_personOf_49 rfl rfl c63_1 rfl ?_
      refine zx_W_ins (pc' := 53) dX8_personOf_52 rfl (fun _ => rfl) rfl ?_
      refine zw_ial (pc' := 54) dX8_personOf_53 rfl c67_2 (zi_in (by have := l67_2; omega)) ?_
      have bb18 := b67_2 q.toNatClampNeg (by have := (zi_in (x := q) (n := 6) (by omega)).2; omega)
      refine zw_iret dX8_personOf_54 rfl rfl ?_
      exact hq _ h hI fr0
    · refine zx_W_ins (pc' := 56) dX8_personOf_55 rfl (fun _ => rfl) rfl ?_
      refine zw_gf (pc' := 59) dX8_personOf_56 rfl rfl c63_1 rfl ?_
      refine zx_W_ins (pc' := 60) dX8_personOf_59 rfl (fun _ => rfl) rfl ?_
      refine zw_ial (pc' := 61) dX8_personOf_60 rfl c68_3 (zi_in (by have := l68_3; omega)) ?_
      refine zw_iret dX8_personOf_61 rfl rfl ?_
      exact hq _ h hI fr0
    · refine zx_W_ins (pc' := 63) dX8_personOf_62 rfl (fun _ => rfl) rfl ?_
      refine zw_gf (pc' := 66) dX8_personOf_63 rfl rfl c63_1 rfl ?_
      refine zx_W_ins (pc' := 67) dX8_personOf_66 rfl (fun _ => rfl) rfl ?_
      refine zw_ial (pc' := 68) dX8_personOf_67 rfl c69_4 (zi_in (by have := l69_4; omega)) ?_
      refine zw_iret dX8_personOf_68 rfl rfl ?_
      exact hq _ h hI fr0
    · refine zx_W_ins (pc' := 70) dX8_personOf_69 rfl (fun _ => rfl) rfl ?_
      refine zw_gf (pc' := 73) dX8_personOf_70 rfl rfl c63_1 rfl ?_
      refine zx_W_ins (pc' := 74) dX8_personOf_73 rfl (fun _ => rfl) rfl ?_
      refine zw_icmp_ne (tgt := 81) (pc' := 77) dX8_personOf_74 rfl rfl (fun g19 => ?_) (fun g19 => ?_)
      · have g19t : ¬ (m_bagged1).toInt = (q : Int32).toInt := fun z => g19 (Int32.toInt_inj.mp z)
        refine zw_ic (v := 0) (pc' := 82) dX8_personOf_81 rfl rfl ?_
        refine zw_iret dX8_personOf_82 rfl rfl ?_
        exact hq _ h hI fr0
      · have g19t : (m_bagged1).toInt = (q : Int32).toInt := congrArg Int32.toInt g19
        refine zw_ic (v := 1) (pc' := 78) dX8_personOf_77 rfl rfl ?_
        refine zw_goto (tgt := 82) dX8_personOf_78 rfl ?_
        refine zw_iret dX8_personOf_82 rfl rfl ?_
        exact hq _ h hI fr0
  · show zx_W _ _ _ _ _ _ _ [.inl 0] _ _
    refine zw_if_ne (tgt := 15) (pc' := 8) dX8_personOf_5 rfl rfl (fun g => by first | exact absurd rfl g | exact absurd g (by decide)) (fun _ => ?_)
    refine zx_W_ins (pc' := 9) dX8_personOf_8 rfl (fun _ => rfl) rfl ?_
    refine zw_bi (v := (-5)) (pc' := 11) dX8_personOf_9 rfl rfl ?_
    refine zw_iv (k := 125) (pc' := 14) dX8_personOf_11 rfl rfl rfl rfl c63_1 rfl rfl (zc_125 hI (by omega) (fun v21 h22 hI23 fr24 hvv21 _ => ?_))
    show zx_W _ _ _ _ _ _ _ [.inl v21] _ _
    have fr25 : ∀ i, i ∉ ([64] : List Nat) → h22[i]? = h[i]? := fun i hi => Eq.trans (fr24 i (fun z => hi (by first | exact absurd z List.not_mem_nil | (simp only [List.mem_cons, List.not_mem_nil, or_false] at z ⊢; omega)))) (fr0 i hi)
    have c26 : h22[63]? = some (.inl (8, [.inl m_furlongs1, .inl m_many1, .inl m_bagged1, .inl m_legs1, .inl m_most1, .inl m_nap1, .inl m_on1, .inl m_biscuits1, .inl m_races1, .inl m_worn1, .inl m_here1, .inl m_minutes1, .inl m_seed1, .inl m_fault1, .inr (.inr (1, 64)), .inr (.inr (1, 65)), .inr (.inr (1, 66)), .inr (.inr (1, 67)), .inr (.inr (1, 68)), .inr (.inr (1, 69)), .inr (.inr (1, 70)), .inr (.inr (1, 71)), .inr (.inr (1, 72)), .inr (.inr (1, 73)), .inr (.inr (1, 74)), .inr (.inr (1, 75)), .inr (.inr (1, 76)), .inr (.inr (1, 77)), .inr (.inr (1, 78)), .inl m_base1, .inl m_at1, .inl m_end1, .inl m_number1, .inl m_wrongAt1, .inr (.inr (1, 79)), .inr (.inr (1, 80)), .inr (.inr (1, 81)), .inr (.inr (1, 82)), .inr (.inr (1, 83)), .inr (.inr (1, 84)), .inl m_bestMany1, .inl m_bestHere1, .inl m_bestWorn1, .inl m_bestMinutes1, .inl m_turn1, .inl m_ever1, .inl m_made1, .inl m_ruleHere1, .inl m_ruleMinutes1, .inl m_ruleEver1, .inr (.inr (1, 85)), .inl m_ran1, .inl m_isKept1])) := by rw [fr24 63 (by decide)]; exact c63_1
    have c27 : h22[67]? = some (.inr (0, .inl f67_2)) := by rw [fr24 67 (by decide)]; exact c67_2
    have c28 : h22[68]? = some (.inr (0, .inl f68_3)) := by rw [fr24 68 (by decide)]; exact c68_3
    have c29 : h22[69]? = some (.inr (0, .inl f69_4)) := by rw [fr24 69 (by decide)]; exact c69_4
    obtain ⟨x30, c64_30, f64_30, rfl, l64_30⟩ := zi_g hI23 64 (by decide)
    refine zw_iret dX8_personOf_14 rfl rfl ?_
    exact hq _ h22 hI23 fr25
