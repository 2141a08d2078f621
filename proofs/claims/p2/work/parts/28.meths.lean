/-! part 28: persons, the status, the trace, a day: laid by wip/p2/meths.py -/
theorem zc_brow_set {f : List Int32} {n i : Nat} {lo hi : Int} {x : Int32} (l : f.length = n) (b : ∀ j, j < n → lo ≤ (f.getD j 0).toInt ∧ (f.getD j 0).toInt ≤ hi) (hx : lo ≤ x.toInt ∧ x.toInt ≤ hi) : zc_brow n lo hi (.inr (0, .inl (f.set i x))) := by
  refine ⟨_, rfl, by rw [List.length_set]; exact l, fun j hj => ?_⟩
  by_cases e : i < f.length
  · rw [zx_setf e]
    split
    · exact hx
    · exact b j hj
  · rw [List.set_eq_of_length_le (by omega)]
    exact b j hj
def zt_44 : zx_MT := (5, yX5_addPerson, cX5_addPerson, 3, (some FieldType.int), 2, 0)
theorem zm_44 : zx_m 44 = zt_44 := rfl
theorem dX5_addPerson_0 : decode cX5_addPerson 0 = .ok (.aload_n 0, 1) := by decide +kernel
theorem dX5_addPerson_1 : decode cX5_addPerson 1 = .ok (.getfield 49, 3) := by decide +kernel
theorem dX5_addPerson_4 : decode cX5_addPerson 4 = .ok (.getfield 59, 3) := by decide +kernel
theorem dX5_addPerson_7 : decode cX5_addPerson 7 = .ok (.aload_n 0, 1) := by decide +kernel
theorem dX5_addPerson_8 : decode cX5_addPerson 8 = .ok (.getfield 49, 3) := by decide +kernel
theorem dX5_addPerson_11 : decode cX5_addPerson 11 = .ok (.getfield 64, 3) := by decide +kernel
theorem dX5_addPerson_14 : decode cX5_addPerson 14 = .ok (.iload_n 1, 1) := by decide +kernel
theorem dX5_addPerson_15 : decode cX5_addPerson 15 = .ok (.iastore, 1) := by decide +kernel
theorem dX5_addPerson_16 : decode cX5_addPerson 16 = .ok (.aload_n 0, 1) := by decide +kernel
theorem dX5_addPerson_17 : decode cX5_addPerson 17 = .ok (.getfield 49, 3) := by decide +kernel
theorem dX5_addPerson_20 : decode cX5_addPerson 20 = .ok (.getfield 67, 3) := by decide +kernel
theorem dX5_addPerson_23 : decode cX5_addPerson 23 = .ok (.aload_n 0, 1) := by decide +kernel
theorem dX5_addPerson_24 : decode cX5_addPerson 24 = .ok (.getfield 49, 3) := by decide +kernel
theorem dX5_addPerson_27 : decode cX5_addPerson 27 = .ok (.getfield 64, 3) := by decide +kernel
theorem dX5_addPerson_30 : decode cX5_addPerson 30 = .ok (.iload_n 2, 1) := by decide +kernel
theorem dX5_addPerson_31 : decode cX5_addPerson 31 = .ok (.iastore, 1) := by decide +kernel
theorem dX5_addPerson_32 : decode cX5_addPerson 32 = .ok (.aload_n 0, 1) := by decide +kernel
theorem dX5_addPerson_33 : decode cX5_addPerson 33 = .ok (.getfield 9, 3) := by decide +kernel
theorem dX5_addPerson_36 : decode cX5_addPerson 36 = .ok (.aload_n 0, 1) := by decide +kernel
theorem dX5_addPerson_37 : decode cX5_addPerson 37 = .ok (.getfield 49, 3) := by decide +kernel
theorem dX5_addPerson_40 : decode cX5_addPerson 40 = .ok (.getfield 64, 3) := by decide +kernel
theorem dX5_addPerson_43 : decode cX5_addPerson 43 = .ok (.iconst 0, 1) := by decide +kernel
theorem dX5_addPerson_44 : decode cX5_addPerson 44 = .ok (.iastore, 1) := by decide +kernel
theorem dX5_addPerson_45 : decode cX5_addPerson 45 = .ok (.aload_n 0, 1) := by decide +kernel
theorem dX5_addPerson_46 : decode cX5_addPerson 46 = .ok (.getfield 49, 3) := by decide +kernel
theorem dX5_addPerson_49 : decode cX5_addPerson 49 = .ok (.dup, 1) := by decide +kernel
theorem dX5_addPerson_50 : decode cX5_addPerson 50 = .ok (.getfield 64, 3) := by decide +kernel
theorem dX5_addPerson_53 : decode cX5_addPerson 53 = .ok (.dup_x1, 1) := by decide +kernel
theorem dX5_addPerson_54 : decode cX5_addPerson 54 = .ok (.iconst 1, 1) := by decide +kernel
theorem dX5_addPerson_55 : decode cX5_addPerson 55 = .ok (.iadd, 1) := by decide +kernel
theorem dX5_addPerson_56 : decode cX5_addPerson 56 = .ok (.putfield 64, 3) := by decide +kernel
theorem dX5_addPerson_59 : decode cX5_addPerson 59 = .ok (.ireturn, 1) := by decide +kernel
theorem zc_addP_2 {d : Nat} {h : List zx_C} {w : Int32} {q : Int32} {Q : Option zx_V → List zx_C → Prop} (hI : zx_I h) {fu pe : Int32} (hy : h[3]? = some (.inl (6, [.inr (.inr (1, 4)), .inr (.inr (1, 5)), .inr (.inr (1, 6)), .inr (.inr (1, 7)), .inl fu, .inl pe]))) (hw : 0 ≤ pe.toInt ∧ pe.toInt < 6 ∧ 0 ≤ fu.toInt ∧ fu.toInt ≤ 24 ∧ 0 ≤ w.toInt ∧ w.toInt ≤ 6) (hq : ∀ (v : Int32) (h2 : List zx_C), zx_I h2 → (∀ i, i ∉ ([3, 6, 7, 8] : List Nat) → h2[i]? = h[i]?) → Q (some (.inl v)) h2) : zx_M (d) 44 [.inr (.inr (1, 2)), .inl w, .inl q] h Q := by
  have el_0 : (0 : Int32).toInt = 0 := by decide
  have el_1 : (1 : Int32).toInt = 1 := by decide
  obtain ⟨x1, c2_1, bg1, mo1, le1, na1, on1, bi1, ra1, wo1, he1, mi1, se1, rfl, hh1, hk1⟩ := zi_g hI 2 (by decide)
  obtain ⟨x2, c6_2, f6_2, rfl, l6_2, b6_2⟩ := zi_g hI 6 (by decide)
  obtain ⟨x3, c7_3, f7_3, rfl, l7_3⟩ := zi_g hI 7 (by decide)
  obtain ⟨x4, c8_4, f8_4, rfl, l8_4⟩ := zi_g hI 8 (by decide)
  have fr0 : ∀ i, i ∉ ([3, 6, 7, 8] : List Nat) → h[i]? = h[i]? := fun _ _ => rfl
  have e1 : (1 : Int32).toInt = 1 := rfl
  have ef := fb_addI (x := pe) (y := 1) (by omega) (by omega)
  refine zx_M_of (Nat.le_of_ble_eq_true rfl) zm_44 (L := [some (.inr (.inr (1, 2))), some (.inl w), some (.inl q)]) rfl ?_
  refine zx_W_ins (pc' := 1) dX5_addPerson_0 rfl (fun _ => rfl) rfl ?_
  refine zw_gf (pc' := 4) dX5_addPerson_1 rfl rfl c2_1 rfl ?_
  refine zw_gf (pc' := 7) dX5_addPerson_4 rfl rfl hy rfl ?_
  refine zx_W_ins (pc' := 8) dX5_addPerson_7 rfl (fun _ => rfl) rfl ?_
  refine zw_gf (pc' := 11) dX5_addPerson_8 rfl rfl c2_1 rfl ?_
  refine zw_gf (pc' := 14) dX5_addPerson_11 rfl rfl hy rfl ?_
  refine zx_W_ins (pc' := 15) dX5_addPerson_14 rfl (fun _ => rfl) rfl ?_
  refine zw_ias (pc' := 16) dX5_addPerson_15 rfl c6_2 (zi_in (by have := l6_2; omega)) ?_
  obtain ⟨h5, e6⟩ : ∃ z, z = h.set 6 (.inr (0, .inl (f6_2.set pe.toNatClampNeg w))) := ⟨_, rfl⟩
  rw [← e6]
  have c7 : h5[2]? = some (.inl (5, [.inr (.inr (1, 3)), .inr (.inr (1, 8)), .inl bg1, .inl mo1, .inl le1, .inl na1, .inl on1, .inl bi1, .inl ra1, .inl wo1, .inl he1, .inl mi1, .inl se1])) := by rw [e6, List.getElem?_set_ne (by first | decide | omega)]; exact c2_1
  have c8 : h5[6]? = some (.inr (0, .inl (f6_2.set pe.toNatClampNeg w))) := by rw [e6, List.getElem?_set_self (List.getElem?_eq_some_iff.mp c6_2).1]
  have c9 : h5[7]? = some (.inr (0, .inl f7_3)) := by rw [e6, List.getElem?_set_ne (by first | decide | omega)]; exact c7_3
  have c10 : h5[8]? = some (.inr (0, .inl f8_4)) := by rw [e6, List.getElem?_set_ne (by first | decide | omega)]; exact c8_4
  have c11 : h5[3]? = some (.inl (6, [.inr (.inr (1, 4)), .inr (.inr (1, 5)), .inr (.inr (1, 6)), .inr (.inr (1, 7)), .inl fu, .inl pe])) := by rw [e6, List.getElem?_set_ne (by first | decide | omega)]; exact hy
  have hI12 : zx_I h5 := by rw [e6]; exact zi_set hI (zc_brow_set l6_2 b6_2 (by omega)) (by decide) (by decide)
  have l13 := (List.length_set (as := f6_2) (i := pe.toNatClampNeg) (a := w)).trans l6_2
  have fr14 : ∀ i, i ∉ ([3, 6, 7, 8] : List Nat) → h5[i]? = h[i]? := fun i hi => Eq.trans (b := h[i]?) (by rw [e6, List.getElem?_set_ne (fun z => hi (by rw [← z]; decide))]) (fr0 i hi)
  refine zx_W_ins (pc' := 17) dX5_addPerson_16 rfl (fun _ => rfl) rfl ?_
  refine zw_gf (pc' := 20) dX5_addPerson_17 rfl rfl c7 rfl ?_
  refine zw_gf (pc' := 23) dX5_addPerson_20 rfl rfl c11 rfl ?_
  refine zx_W_ins (pc' := 24) dX5_addPerson_23 rfl (fun _ => rfl) rfl ?_
  refine zw_gf (pc' := 27) dX5_addPerson_24 rfl rfl c7 rfl ?_
  refine zw_gf (pc' := 30) dX5_addPerson_27 rfl rfl c11 rfl ?_
  refine zx_W_ins (pc' := 31) dX5_addPerson_30 rfl (fun _ => rfl) rfl ?_
  refine zw_ias (pc' := 32) dX5_addPerson_31 rfl c9 (zi_in (by have := l7_3; omega)) ?_
  obtain ⟨h15, e16⟩ : ∃ z, z = h5.set 7 (.inr (0, .inl (f7_3.set pe.toNatClampNeg q))) := ⟨_, rfl⟩
  rw [← e16]
  have c17 : h15[2]? = some (.inl (5, [.inr (.inr (1, 3)), .inr (.inr (1, 8)), .inl bg1, .inl mo1, .inl le1, .inl na1, .inl on1, .inl bi1, .inl ra1, .inl wo1, .inl he1, .inl mi1, .inl se1])) := by rw [e16, List.getElem?_set_ne (by first | decide | omega)]; exact c7
  have c18 : h15[6]? = some (.inr (0, .inl (f6_2.set pe.toNatClampNeg w))) := by rw [e16, List.getElem?_set_ne (by first | decide | omega)]; exact c8
  have c19 : h15[7]? = some (.inr (0, .inl (f7_3.set pe.toNatClampNeg q))) := by rw [e16, List.getElem?_set_self (List.getElem?_eq_some_iff.mp c9).1]
  have c20 : h15[8]? = some (.inr (0, .inl f8_4)) := by rw [e16, List.getElem?_set_ne (by first | decide | omega)]; exact c10
  have c21 : h15[3]? = some (.inl (6, [.inr (.inr (1, 4)), .inr (.inr (1, 5)), .inr (.inr (1, 6)), .inr (.inr (1, 7)), .inl fu, .inl pe])) := by rw [e16, List.getElem?_set_ne (by first | decide | omega)]; exact c11
  have hI22 : zx_I h15 := by rw [e16]; exact zi_set hI12 (show zc_row 6 _ from ⟨_, rfl, by rw [List.length_set]; exact l7_3⟩) (by decide) (by decide)
  have l23 := (List.length_set (as := f7_3) (i := pe.toNatClampNeg) (a := q)).trans l7_3
  have fr24 : ∀ i, i ∉ ([3, 6, 7, 8] : List Nat) → h15[i]? = h[i]? := fun i hi => Eq.trans (b := h5[i]?) (by rw [e16, List.getElem?_set_ne (fun z => hi (by rw [← z]; decide))]) (fr14 i hi)
  refine zx_W_ins (pc' := 33) dX5_addPerson_32 rfl (fun _ => rfl) rfl ?_
  refine zw_gf (pc' := 36) dX5_addPerson_33 rfl rfl c17 rfl ?_
  refine zx_W_ins (pc' := 37) dX5_addPerson_36 rfl (fun _ => rfl) rfl ?_
  refine zw_gf (pc' := 40) dX5_addPerson_37 rfl rfl c17 rfl ?_
  refine zw_gf (pc' := 43) dX5_addPerson_40 rfl rfl c21 rfl ?_
  refine zw_ic (v := 0) (pc' := 44) dX5_addPerson_43 rfl rfl ?_
  refine zw_ias (pc' := 45) dX5_addPerson_44 rfl c20 (zi_in (by have := l8_4; omega)) ?_
  obtain ⟨h25, e26⟩ : ∃ z, z = h15.set 8 (.inr (0, .inl (f8_4.set pe.toNatClampNeg 0))) := ⟨_, rfl⟩
  rw [← e26]
  have c27 : h25[2]? = some (.inl (5, [.inr (.inr (1, 3)), .inr (.inr (1, 8)), .inl bg1, .inl mo1, .inl le1, .inl na1, .inl on1, .inl bi1, .inl ra1, .inl wo1, .inl he1, .inl mi1, .inl se1])) := by rw [e26, List.getElem?_set_ne (by first | decide | omega)]; exact c17
  have c28 : h25[6]? = some (.inr (0, .inl (f6_2.set pe.toNatClampNeg w))) := by rw [e26, List.getElem?_set_ne (by first | decide | omega)]; exact c18
  have c29 : h25[7]? = some (.inr (0, .inl (f7_3.set pe.toNatClampNeg q))) := by rw [e26, List.getElem?_set_ne (by first | decide | omega)]; exact c19
  have c30 : h25[8]? = some (.inr (0, .inl (f8_4.set pe.toNatClampNeg 0))) := by rw [e26, List.getElem?_set_self (List.getElem?_eq_some_iff.mp c20).1]
  have c31 : h25[3]? = some (.inl (6, [.inr (.inr (1, 4)), .inr (.inr (1, 5)), .inr (.inr (1, 6)), .inr (.inr (1, 7)), .inl fu, .inl pe])) := by rw [e26, List.getElem?_set_ne (by first | decide | omega)]; exact c21
  have hI32 : zx_I h25 := by rw [e26]; exact zi_set hI22 (show zc_row 6 _ from ⟨_, rfl, by rw [List.length_set]; exact l8_4⟩) (by decide) (by decide)
  have l33 := (List.length_set (as := f8_4) (i := pe.toNatClampNeg) (a := 0)).trans l8_4
  have fr34 : ∀ i, i ∉ ([3, 6, 7, 8] : List Nat) → h25[i]? = h[i]? := fun i hi => Eq.trans (b := h15[i]?) (by rw [e26, List.getElem?_set_ne (fun z => hi (by rw [← z]; decide))]) (fr24 i hi)
  refine zx_W_ins (pc' := 46) dX5_addPerson_45 rfl (fun _ => rfl) rfl ?_
  refine zw_gf (pc' := 49) dX5_addPerson_46 rfl rfl c27 rfl ?_
  refine zx_W_ins (pc' := 50) dX5_addPerson_49 rfl (fun _ => rfl) rfl ?_
  refine zw_gf (pc' := 53) dX5_addPerson_50 rfl rfl c31 rfl ?_
  refine zx_W_ins (pc' := 54) dX5_addPerson_53 rfl (fun _ => rfl) rfl ?_
  refine zw_ic (v := 1) (pc' := 55) dX5_addPerson_54 rfl rfl ?_
  refine zx_W_ins (pc' := 56) dX5_addPerson_55 rfl (fun _ => rfl) rfl ?_
  refine zw_pf (pc' := 59) dX5_addPerson_56 rfl rfl c31 rfl (fs' := [.inr (.inr (1, 4)), .inr (.inr (1, 5)), .inr (.inr (1, 6)), .inr (.inr (1, 7)), .inl fu, .inl (pe + 1)]) rfl ?_
  obtain ⟨h35, e36⟩ : ∃ z, z = h25.set 3 (.inl (6, [.inr (.inr (1, 4)), .inr (.inr (1, 5)), .inr (.inr (1, 6)), .inr (.inr (1, 7)), .inl fu, .inl (pe + 1)])) := ⟨_, rfl⟩
  rw [← e36]
  have c37 : h35[2]? = some (.inl (5, [.inr (.inr (1, 3)), .inr (.inr (1, 8)), .inl bg1, .inl mo1, .inl le1, .inl na1, .inl on1, .inl bi1, .inl ra1, .inl wo1, .inl he1, .inl mi1, .inl se1])) := by rw [e36, List.getElem?_set_ne (by first | decide | omega)]; exact c27
  have c38 : h35[6]? = some (.inr (0, .inl (f6_2.set pe.toNatClampNeg w))) := by rw [e36, List.getElem?_set_ne (by first | decide | omega)]; exact c28
  have c39 : h35[7]? = some (.inr (0, .inl (f7_3.set pe.toNatClampNeg q))) := by rw [e36, List.getElem?_set_ne (by first | decide | omega)]; exact c29
  have c40 : h35[8]? = some (.inr (0, .inl (f8_4.set pe.toNatClampNeg 0))) := by rw [e36, List.getElem?_set_ne (by first | decide | omega)]; exact c30
  have c41 : h35[3]? = some (.inl (6, [.inr (.inr (1, 4)), .inr (.inr (1, 5)), .inr (.inr (1, 6)), .inr (.inr (1, 7)), .inl fu, .inl (pe + 1)])) := by rw [e36, List.getElem?_set_self (List.getElem?_eq_some_iff.mp c31).1]
  have hI42 : zx_I h35 := by rw [e36]; exact zi_set hI32 (show zc_way 3 _ from ⟨_, _, rfl, by omega, by omega, by omega, by omega⟩) (by decide) (by decide)
  have fr43 : ∀ i, i ∉ ([3, 6, 7, 8] : List Nat) → h35[i]? = h[i]? := fun i hi => Eq.trans (b := h25[i]?) (by rw [e36, List.getElem?_set_ne (fun z => hi (by rw [← z]; decide))]) (fr34 i hi)
  refine zw_iret dX5_addPerson_59 rfl rfl ?_
  exact hq _ h35 hI42 fr43
def zt_76 : zx_MT := (7, yX7_person, cX7_person, 3, (some FieldType.int), 2, 0)
theorem zm_76 : zx_m 76 = zt_76 := rfl
theorem dX7_person_0 : decode cX7_person 0 = .ok (.iload_n 1, 1) := by decide +kernel
theorem dX7_person_1 : decode cX7_person 1 = .ok (.invokestatic 124, 3) := by decide +kernel
theorem dX7_person_4 : decode cX7_person 4 = .ok (.ifCond .ne 9, 3) := by decide +kernel
theorem dX7_person_7 : decode cX7_person 7 = .ok (.aload_n 0, 1) := by decide +kernel
theorem dX7_person_8 : decode cX7_person 8 = .ok (.iconst 1, 1) := by decide +kernel
theorem dX7_person_9 : decode cX7_person 9 = .ok (.invokevirtual 82, 3) := by decide +kernel
theorem dX7_person_12 : decode cX7_person 12 = .ok (.ireturn, 1) := by decide +kernel
theorem dX7_person_13 : decode cX7_person 13 = .ok (.iload_n 2, 1) := by decide +kernel
theorem dX7_person_14 : decode cX7_person 14 = .ok (.ifCond .lt 9, 3) := by decide +kernel
theorem dX7_person_17 : decode cX7_person 17 = .ok (.iload_n 2, 1) := by decide +kernel
theorem dX7_person_18 : decode cX7_person 18 = .ok (.bipush 9, 2) := by decide +kernel
theorem dX7_person_20 : decode cX7_person 20 = .ok (.if_icmp .le 10, 3) := by decide +kernel
theorem dX7_person_23 : decode cX7_person 23 = .ok (.aload_n 0, 1) := by decide +kernel
theorem dX7_person_24 : decode cX7_person 24 = .ok (.bipush 6, 2) := by decide +kernel
theorem dX7_person_26 : decode cX7_person 26 = .ok (.invokevirtual 82, 3) := by decide +kernel
theorem dX7_person_29 : decode cX7_person 29 = .ok (.ireturn, 1) := by decide +kernel
theorem dX7_person_30 : decode cX7_person 30 = .ok (.aload_n 0, 1) := by decide +kernel
theorem dX7_person_31 : decode cX7_person 31 = .ok (.getfield 23, 3) := by decide +kernel
theorem dX7_person_34 : decode cX7_person 34 = .ok (.getfield 30, 3) := by decide +kernel
theorem dX7_person_37 : decode cX7_person 37 = .ok (.getfield 153, 3) := by decide +kernel
theorem dX7_person_40 : decode cX7_person 40 = .ok (.bipush 6, 2) := by decide +kernel
theorem dX7_person_42 : decode cX7_person 42 = .ok (.if_icmp .lt 10, 3) := by decide +kernel
theorem dX7_person_45 : decode cX7_person 45 = .ok (.aload_n 0, 1) := by decide +kernel
theorem dX7_person_46 : decode cX7_person 46 = .ok (.bipush 7, 2) := by decide +kernel
theorem dX7_person_48 : decode cX7_person 48 = .ok (.invokevirtual 82, 3) := by decide +kernel
theorem dX7_person_51 : decode cX7_person 51 = .ok (.ireturn, 1) := by decide +kernel
theorem dX7_person_52 : decode cX7_person 52 = .ok (.aload_n 0, 1) := by decide +kernel
theorem dX7_person_53 : decode cX7_person 53 = .ok (.getfield 23, 3) := by decide +kernel
theorem dX7_person_56 : decode cX7_person 56 = .ok (.iload_n 1, 1) := by decide +kernel
theorem dX7_person_57 : decode cX7_person 57 = .ok (.iload_n 2, 1) := by decide +kernel
theorem dX7_person_58 : decode cX7_person 58 = .ok (.invokevirtual 156, 3) := by decide +kernel
theorem dX7_person_61 : decode cX7_person 61 = .ok (.ireturn, 1) := by decide +kernel
theorem zc_76 {d : Nat} {h : List zx_C} {w : Int32} {q : Int32} {Q : Option zx_V → List zx_C → Prop} (hI : zx_I h)    (hq : ∀ (v : Int32) (h2 : List zx_C), zx_I h2 → (∀ i, i ∉ ([3, 6, 7, 8, 46] : List Nat) → h2[i]? = h[i]?) → Q (some (.inl v)) h2) : zx_M (d + 1) 76 [.inr (.inr (1, 0)), .inl w, .inl q] h Q := by
  have el_1 : (1 : Int32).toInt = 1 := by decide
  have el_6 : (6 : Int32).toInt = 6 := by decide
  have el_7 : (7 : Int32).toInt = 7 := by decide
  have el_9 : (9 : Int32).toInt = 9 := by decide
  obtain ⟨x1, c0_1, it1, lf1, rfl, hit1⟩ := zi_g hI 0 (by decide)
  obtain ⟨x2, c2_2, bg2, mo2, le2, na2, on2, bi2, ra2, wo2, he2, mi2, se2, rfl, hh2, hk2⟩ := zi_g hI 2 (by decide)
  obtain ⟨x3, c3_3, fu3, pe3, rfl, hf3, hg3, hp3, hq3⟩ := zi_g hI 3 (by decide)
  have fr0 : ∀ i, i ∉ ([3, 6, 7, 8, 46] : List Nat) → h[i]? = h[i]? := fun _ _ => rfl
  refine zx_M_of (Nat.le_of_ble_eq_true rfl) zm_76 (L := [some (.inr (.inr (1, 0))), some (.inl w), some (.inl q)]) rfl ?_
  refine zx_W_ins (pc' := 1) dX7_person_0 rfl (fun _ => rfl) rfl ?_
  refine zw_is (k := 115) (pc' := 4) dX7_person_1 rfl rfl rfl rfl rfl (zc_115 (fun g4 _ => ?_) (fun g4 _ => ?_))
  · show zx_W _ _ _ _ _ _ _ [.inl 1] _ _
    refine zw_if_ne (tgt := 13) (pc' := 7) dX7_person_4 rfl rfl (fun _ => ?_) (fun g => by first | exact absurd rfl g | exact absurd g (by decide))
    refine zx_W_ins (pc' := 14) dX7_person_13 rfl (fun _ => rfl) rfl ?_
    refine zw_if_lt (tgt := 23) (pc' := 17) dX7_person_14 rfl rfl (fun g6 => ?_) (fun g6 => ?_)
    · refine zx_W_ins (pc' := 24) dX7_person_23 rfl (fun _ => rfl) rfl ?_
      refine zw_bi (v := 6) (pc' := 26) dX7_person_24 rfl rfl ?_
      refine zw_iv (k := 109) (pc' := 29) dX7_person_26 rfl rfl rfl rfl c0_1 rfl rfl (zc_109 hI (by omega) (fun v7 h8 hI9 fr10 hvv7 _ => ?_))
      show zx_W _ _ _ _ _ _ _ [.inl v7] _ _
      have fr11 : ∀ i, i ∉ ([3, 6, 7, 8, 46] : List Nat) → h8[i]? = h[i]? := fun i hi => Eq.trans (fr10 i (fun z => hi (by first | exact absurd z List.not_mem_nil | (simp only [List.mem_cons, List.not_mem_nil, or_false] at z ⊢; omega)))) (fr0 i hi)
      have c12 : h8[0]? = some (.inl (7, [.inr (.inr (1, 1)), .inr (.inr (1, 2)), .inr (.inr (1, 9)), .inr (.inr (1, 16)), .inr (.inr (1, 18)), .inr (.inr (1, 21)), .inr (.inr (1, 35)), .inr (.inr (1, 44)), .inr (.inr (1, 46)), .inl it1, .inl lf1])) := by rw [fr10 0 (by decide)]; exact c0_1
      have c13 : h8[2]? = some (.inl (5, [.inr (.inr (1, 3)), .inr (.inr (1, 8)), .inl bg2, .inl mo2, .inl le2, .inl na2, .inl on2, .inl bi2, .inl ra2, .inl wo2, .inl he2, .inl mi2, .inl se2])) := by rw [fr10 2 (by decide)]; exact c2_2
      have c14 : h8[3]? = some (.inl (6, [.inr (.inr (1, 4)), .inr (.inr (1, 5)), .inr (.inr (1, 6)), .inr (.inr (1, 7)), .inl fu3, .inl pe3])) := by rw [fr10 3 (by decide)]; exact c3_3
      obtain ⟨x15, c46_15, f46_15, rfl, l46_15⟩ := zi_g hI9 46 (by decide)
      refine zw_iret dX7_person_29 rfl rfl ?_
      exact hq _ h8 hI9 fr11
    · refine zx_W_ins (pc' := 18) dX7_person_17 rfl (fun _ => rfl) rfl ?_
      refine zw_bi (v := 9) (pc' := 20) dX7_person_18 rfl rfl ?_
      refine zw_icmp_le (tgt := 30) (pc' := 23) dX7_person_20 rfl rfl (fun g16 => ?_) (fun g16 => ?_)
      · refine zx_W_ins (pc' := 31) dX7_person_30 rfl (fun _ => rfl) rfl ?_
        refine zw_gf (pc' := 34) dX7_person_31 rfl rfl c0_1 rfl ?_
        refine zw_gf (pc' := 37) dX7_person_34 rfl rfl c2_2 rfl ?_
        refine zw_gf (pc' := 40) dX7_person_37 rfl rfl c3_3 rfl ?_
        refine zw_bi (v := 6) (pc' := 42) dX7_person_40 rfl rfl ?_
        refine zw_icmp_lt (tgt := 52) (pc' := 45) dX7_person_42 rfl rfl (fun g17 => ?_) (fun g17 => ?_)
        · refine zx_W_ins (pc' := 53) dX7_person_52 rfl (fun _ => rfl) rfl ?_
          refine zw_gf (pc' := 56) dX7_person_53 rfl rfl c0_1 rfl ?_
          refine zx_W_ins (pc' := 57) dX7_person_56 rfl (fun _ => rfl) rfl ?_
          refine zx_W_ins (pc' := 58) dX7_person_57 rfl (fun _ => rfl) rfl ?_
          refine zw_iv (k := 44) (pc' := 61) dX7_person_58 rfl rfl rfl rfl c2_2 rfl rfl (zc_addP_2 hI c3_3 (by omega) (fun v18 h19 hI20 fr21 _ => ?_))
          show zx_W _ _ _ _ _ _ _ [.inl v18] _ _
          have fr22 : ∀ i, i ∉ ([3, 6, 7, 8, 46] : List Nat) → h19[i]? = h[i]? := fun i hi => Eq.trans (fr21 i (fun z => hi (by first | exact absurd z List.not_mem_nil | (simp only [List.mem_cons, List.not_mem_nil, or_false] at z ⊢; omega)))) (fr0 i hi)
          have c23 : h19[0]? = some (.inl (7, [.inr (.inr (1, 1)), .inr (.inr (1, 2)), .inr (.inr (1, 9)), .inr (.inr (1, 16)), .inr (.inr (1, 18)), .inr (.inr (1, 21)), .inr (.inr (1, 35)), .inr (.inr (1, 44)), .inr (.inr (1, 46)), .inl it1, .inl lf1])) := by rw [fr21 0 (by decide)]; exact c0_1
          have c24 : h19[2]? = some (.inl (5, [.inr (.inr (1, 3)), .inr (.inr (1, 8)), .inl bg2, .inl mo2, .inl le2, .inl na2, .inl on2, .inl bi2, .inl ra2, .inl wo2, .inl he2, .inl mi2, .inl se2])) := by rw [fr21 2 (by decide)]; exact c2_2
          obtain ⟨x25, c3_25, fu25, pe25, rfl, hf25, hg25, hp25, hq25⟩ := zi_g hI20 3 (by decide)
          obtain ⟨x26, c6_26, f6_26, rfl, l6_26, b6_26⟩ := zi_g hI20 6 (by decide)
          obtain ⟨x27, c7_27, f7_27, rfl, l7_27⟩ := zi_g hI20 7 (by decide)
          obtain ⟨x28, c8_28, f8_28, rfl, l8_28⟩ := zi_g hI20 8 (by decide)
          refine zw_iret dX7_person_61 rfl rfl ?_
          exact hq _ h19 hI20 fr22
        · refine zx_W_ins (pc' := 46) dX7_person_45 rfl (fun _ => rfl) rfl ?_
          refine zw_bi (v := 7) (pc' := 48) dX7_person_46 rfl rfl ?_
          refine zw_iv (k := 109) (pc' := 51) dX7_person_48 rfl rfl rfl rfl c0_1 rfl rfl (zc_109 hI (by omega) (fun v29 h30 hI31 fr32 hvv29 _ => ?_))
          show zx_W _ _ _ _ _ _ _ [.inl v29] _ _
          have fr33 : ∀ i, i ∉ ([3, 6, 7, 8, 46] : List Nat) → h30[i]? = h[i]? := fun i hi => Eq.trans (fr32 i (fun z => hi (by first | exact absurd z List.not_mem_nil | (simp only [List.mem_cons, List.not_mem_nil, or_false] at z ⊢; omega)))) (fr0 i hi)
          have c34 : h30[0]? = some (.inl (7, [.inr (.inr (1, 1)), .inr (.inr (1, 2)), .inr (.inr (1, 9)), .inr (.inr (1, 16)), .inr (.inr (1, 18)), .inr (.inr (1, 21)), .inr (.inr (1, 35)), .inr (.inr (1, 44)), .inr (.inr (1, 46)), .inl it1, .inl lf1])) := by rw [fr32 0 (by decide)]; exact c0_1
          have c35 : h30[2]? = some (.inl (5, [.inr (.inr (1, 3)), .inr (.inr (1, 8)), .inl bg2, .inl mo2, .inl le2, .inl na2, .inl on2, .inl bi2, .inl ra2, .inl wo2, .inl he2, .inl mi2, .inl se2])) := by rw [fr32 2 (by decide)]; exact c2_2
          have c36 : h30[3]? = some (.inl (6, [.inr (.inr (1, 4)), .inr (.inr (1, 5)), .inr (.inr (1, 6)), .inr (.inr (1, 7)), .inl fu3, .inl pe3])) := by rw [fr32 3 (by decide)]; exact c3_3
          obtain ⟨x37, c46_37, f46_37, rfl, l46_37⟩ := zi_g hI31 46 (by decide)
          refine zw_iret dX7_person_51 rfl rfl ?_
          exact hq _ h30 hI31 fr33
      · refine zx_W_ins (pc' := 24) dX7_person_23 rfl (fun _ => rfl) rfl ?_
        refine zw_bi (v := 6) (pc' := 26) dX7_person_24 rfl rfl ?_
        refine zw_iv (k := 109) (pc' := 29) dX7_person_26 rfl rfl rfl rfl c0_1 rfl rfl (zc_109 hI (by omega) (fun v38 h39 hI40 fr41 hvv38 _ => ?_))
        show zx_W _ _ _ _ _ _ _ [.inl v38] _ _
        have fr42 : ∀ i, i ∉ ([3, 6, 7, 8, 46] : List Nat) → h39[i]? = h[i]? := fun i hi => Eq.trans (fr41 i (fun z => hi (by first | exact absurd z List.not_mem_nil | (simp only [List.mem_cons, List.not_mem_nil, or_false] at z ⊢; omega)))) (fr0 i hi)
        have c43 : h39[0]? = some (.inl (7, [.inr (.inr (1, 1)), .inr (.inr (1, 2)), .inr (.inr (1, 9)), .inr (.inr (1, 16)), .inr (.inr (1, 18)), .inr (.inr (1, 21)), .inr (.inr (1, 35)), .inr (.inr (1, 44)), .inr (.inr (1, 46)), .inl it1, .inl lf1])) := by rw [fr41 0 (by decide)]; exact c0_1
        have c44 : h39[2]? = some (.inl (5, [.inr (.inr (1, 3)), .inr (.inr (1, 8)), .inl bg2, .inl mo2, .inl le2, .inl na2, .inl on2, .inl bi2, .inl ra2, .inl wo2, .inl he2, .inl mi2, .inl se2])) := by rw [fr41 2 (by decide)]; exact c2_2
        have c45 : h39[3]? = some (.inl (6, [.inr (.inr (1, 4)), .inr (.inr (1, 5)), .inr (.inr (1, 6)), .inr (.inr (1, 7)), .inl fu3, .inl pe3])) := by rw [fr41 3 (by decide)]; exact c3_3
        obtain ⟨x46, c46_46, f46_46, rfl, l46_46⟩ := zi_g hI40 46 (by decide)
        refine zw_iret dX7_person_29 rfl rfl ?_
        exact hq _ h39 hI40 fr42
  · show zx_W _ _ _ _ _ _ _ [.inl 0] _ _
    refine zw_if_ne (tgt := 13) (pc' := 7) dX7_person_4 rfl rfl (fun g => by first | exact absurd rfl g | exact absurd g (by decide)) (fun _ => ?_)
    refine zx_W_ins (pc' := 8) dX7_person_7 rfl (fun _ => rfl) rfl ?_
    refine zw_ic (v := 1) (pc' := 9) dX7_person_8 rfl rfl ?_
    refine zw_iv (k := 109) (pc' := 12) dX7_person_9 rfl rfl rfl rfl c0_1 rfl rfl (zc_109 hI (by omega) (fun v48 h49 hI50 fr51 hvv48 _ => ?_))
    show zx_W _ _ _ _ _ _ _ [.inl v48] _ _
    have fr52 : ∀ i, i ∉ ([3, 6, 7, 8, 46] : List Nat) → h49[i]? = h[i]? := fun i hi => Eq.trans (fr51 i (fun z => hi (by first | exact absurd z List.not_mem_nil | (simp only [List.mem_cons, List.not_mem_nil, or_false] at z ⊢; omega)))) (fr0 i hi)
    have c53 : h49[0]? = some (.inl (7, [.inr (.inr (1, 1)), .inr (.inr (1, 2)), .inr (.inr (1, 9)), .inr (.inr (1, 16)), .inr (.inr (1, 18)), .inr (.inr (1, 21)), .inr (.inr (1, 35)), .inr (.inr (1, 44)), .inr (.inr (1, 46)), .inl it1, .inl lf1])) := by rw [fr51 0 (by decide)]; exact c0_1
    have c54 : h49[2]? = some (.inl (5, [.inr (.inr (1, 3)), .inr (.inr (1, 8)), .inl bg2, .inl mo2, .inl le2, .inl na2, .inl on2, .inl bi2, .inl ra2, .inl wo2, .inl he2, .inl mi2, .inl se2])) := by rw [fr51 2 (by decide)]; exact c2_2
    have c55 : h49[3]? = some (.inl (6, [.inr (.inr (1, 4)), .inr (.inr (1, 5)), .inr (.inr (1, 6)), .inr (.inr (1, 7)), .inl fu3, .inl pe3])) := by rw [fr51 3 (by decide)]; exact c3_3
    obtain ⟨x56, c46_56, f46_56, rfl, l46_56⟩ := zi_g hI50 46 (by decide)
    refine zw_iret dX7_person_12 rfl rfl ?_
    exact hq _ h49 hI50 fr52
def zt_141 : zx_MT := (8, yX8_addsPerson, cX8_addsPerson, 3, (some FieldType.int), 2, 0)
theorem zm_141 : zx_m 141 = zt_141 := rfl
theorem dX8_addsPerson_0 : decode cX8_addsPerson 0 = .ok (.aload_n 0, 1) := by decide +kernel
theorem dX8_addsPerson_1 : decode cX8_addsPerson 1 = .ok (.getfield 47, 3) := by decide +kernel
theorem dX8_addsPerson_4 : decode cX8_addsPerson 4 = .ok (.aload_n 0, 1) := by decide +kernel
theorem dX8_addsPerson_5 : decode cX8_addsPerson 5 = .ok (.getfield 105, 3) := by decide +kernel
theorem dX8_addsPerson_8 : decode cX8_addsPerson 8 = .ok (.iload_n 1, 1) := by decide +kernel
theorem dX8_addsPerson_9 : decode cX8_addsPerson 9 = .ok (.iastore, 1) := by decide +kernel
theorem dX8_addsPerson_10 : decode cX8_addsPerson 10 = .ok (.aload_n 0, 1) := by decide +kernel
theorem dX8_addsPerson_11 : decode cX8_addsPerson 11 = .ok (.getfield 50, 3) := by decide +kernel
theorem dX8_addsPerson_14 : decode cX8_addsPerson 14 = .ok (.aload_n 0, 1) := by decide +kernel
theorem dX8_addsPerson_15 : decode cX8_addsPerson 15 = .ok (.getfield 105, 3) := by decide +kernel
theorem dX8_addsPerson_18 : decode cX8_addsPerson 18 = .ok (.iload_n 2, 1) := by decide +kernel
theorem dX8_addsPerson_19 : decode cX8_addsPerson 19 = .ok (.iastore, 1) := by decide +kernel
theorem dX8_addsPerson_20 : decode cX8_addsPerson 20 = .ok (.aload_n 0, 1) := by decide +kernel
theorem dX8_addsPerson_21 : decode cX8_addsPerson 21 = .ok (.getfield 53, 3) := by decide +kernel
theorem dX8_addsPerson_24 : decode cX8_addsPerson 24 = .ok (.aload_n 0, 1) := by decide +kernel
theorem dX8_addsPerson_25 : decode cX8_addsPerson 25 = .ok (.getfield 105, 3) := by decide +kernel
theorem dX8_addsPerson_28 : decode cX8_addsPerson 28 = .ok (.iconst 0, 1) := by decide +kernel
theorem dX8_addsPerson_29 : decode cX8_addsPerson 29 = .ok (.iastore, 1) := by decide +kernel
theorem dX8_addsPerson_30 : decode cX8_addsPerson 30 = .ok (.aload_n 0, 1) := by decide +kernel
theorem dX8_addsPerson_31 : decode cX8_addsPerson 31 = .ok (.dup, 1) := by decide +kernel
theorem dX8_addsPerson_32 : decode cX8_addsPerson 32 = .ok (.getfield 105, 3) := by decide +kernel
theorem dX8_addsPerson_35 : decode cX8_addsPerson 35 = .ok (.dup_x1, 1) := by decide +kernel
theorem dX8_addsPerson_36 : decode cX8_addsPerson 36 = .ok (.iconst 1, 1) := by decide +kernel
theorem dX8_addsPerson_37 : decode cX8_addsPerson 37 = .ok (.iadd, 1) := by decide +kernel
theorem dX8_addsPerson_38 : decode cX8_addsPerson 38 = .ok (.putfield 105, 3) := by decide +kernel
theorem dX8_addsPerson_41 : decode cX8_addsPerson 41 = .ok (.ireturn, 1) := by decide +kernel
theorem zc_141 {d : Nat} {h : List zx_C} {w : Int32} {q : Int32} {Q : Option zx_V → List zx_C → Prop} (hI : zx_I h) {m_furlongs : Int32} {m_many : Int32} {m_bagged : Int32} {m_legs : Int32} {m_most : Int32} {m_nap : Int32} {m_on : Int32} {m_biscuits : Int32} {m_races : Int32} {m_worn : Int32} {m_here : Int32} {m_minutes : Int32} {m_seed : Int32} {m_fault : Int32} {m_base : Int32} {m_at : Int32} {m_end : Int32} {m_number : Int32} {m_wrongAt : Int32} {m_bestMany : Int32} {m_bestHere : Int32} {m_bestWorn : Int32} {m_bestMinutes : Int32} {m_turn : Int32} {m_ever : Int32} {m_made : Int32} {m_ruleHere : Int32} {m_ruleMinutes : Int32} {m_ruleEver : Int32} {m_ran : Int32} {m_isKept : Int32} (hy : h[63]? = some (.inl (8, [.inl m_furlongs, .inl m_many, .inl m_bagged, .inl m_legs, .inl m_most, .inl m_nap, .inl m_on, .inl m_biscuits, .inl m_races, .inl m_worn, .inl m_here, .inl m_minutes, .inl m_seed, .inl m_fault, .inr (.inr (1, 64)), .inr (.inr (1, 65)), .inr (.inr (1, 66)), .inr (.inr (1, 67)), .inr (.inr (1, 68)), .inr (.inr (1, 69)), .inr (.inr (1, 70)), .inr (.inr (1, 71)), .inr (.inr (1, 72)), .inr (.inr (1, 73)), .inr (.inr (1, 74)), .inr (.inr (1, 75)), .inr (.inr (1, 76)), .inr (.inr (1, 77)), .inr (.inr (1, 78)), .inl m_base, .inl m_at, .inl m_end, .inl m_number, .inl m_wrongAt, .inr (.inr (1, 79)), .inr (.inr (1, 80)), .inr (.inr (1, 81)), .inr (.inr (1, 82)), .inr (.inr (1, 83)), .inr (.inr (1, 84)), .inl m_bestMany, .inl m_bestHere, .inl m_bestWorn, .inl m_bestMinutes, .inl m_turn, .inl m_ever, .inl m_made, .inl m_ruleHere, .inl m_ruleMinutes, .inl m_ruleEver, .inr (.inr (1, 85)), .inl m_ran, .inl m_isKept]))) (hw : 0 ≤ m_furlongs.toInt ∧ m_furlongs.toInt ≤ 24 ∧ 0 ≤ m_many.toInt ∧ m_many.toInt ≤ 6 ∧ 0 ≤ m_here.toInt ∧ m_here.toInt ≤ 24 ∧ 0 ≤ m_ran.toInt ∧ m_ran.toInt ≤ 1000) (hk : m_isKept = 0 ∨ m_isKept = 1) (hl : m_many.toInt < 6 ∧ 0 ≤ w.toInt ∧ w.toInt ≤ 6) (hq : ∀ (v : Int32) (h2 : List zx_C), zx_I h2 → (∀ i, i ∉ ([63, 67, 68, 69] : List Nat) → h2[i]? = h[i]?) → Q (some (.inl v)) h2) : zx_M (d) 141 [.inr (.inr (1, 63)), .inl w, .inl q] h Q := by
  have el_0 : (0 : Int32).toInt = 0 := by decide
  have el_1 : (1 : Int32).toInt = 1 := by decide
  obtain ⟨x1, c67_1, f67_1, rfl, l67_1, b67_1⟩ := zi_g hI 67 (by decide)
  obtain ⟨x2, c68_2, f68_2, rfl, l68_2⟩ := zi_g hI 68 (by decide)
  obtain ⟨x3, c69_3, f69_3, rfl, l69_3⟩ := zi_g hI 69 (by decide)
  have fr0 : ∀ i, i ∉ ([63, 67, 68, 69] : List Nat) → h[i]? = h[i]? := fun _ _ => rfl
  have e1 : (1 : Int32).toInt = 1 := rfl
  have ef := fb_addI (x := m_many) (y := 1) (by omega) (by omega)
  refine zx_M_of (Nat.le_of_ble_eq_true rfl) zm_141 (L := [some (.inr (.inr (1, 63))), some (.inl w), some (.inl q)]) rfl ?_
  refine zx_W_ins (pc' := 1) dX8_addsPerson_0 rfl (fun _ => rfl) rfl ?_
  refine zw_gf (pc' := 4) dX8_addsPerson_1 rfl rfl hy rfl ?_
  refine zx_W_ins (pc' := 5) dX8_addsPerson_4 rfl (fun _ => rfl) rfl ?_
  refine zw_gf (pc' := 8) dX8_addsPerson_5 rfl rfl hy rfl ?_
  refine zx_W_ins (pc' := 9) dX8_addsPerson_8 rfl (fun _ => rfl) rfl ?_
  refine zw_ias (pc' := 10) dX8_addsPerson_9 rfl c67_1 (zi_in (by have := l67_1; omega)) ?_
  obtain ⟨h4, e5⟩ : ∃ z, z = h.set 67 (.inr (0, .inl (f67_1.set m_many.toNatClampNeg w))) := ⟨_, rfl⟩
  rw [← e5]
  have c6 : h4[67]? = some (.inr (0, .inl (f67_1.set m_many.toNatClampNeg w))) := by rw [e5, List.getElem?_set_self (List.getElem?_eq_some_iff.mp c67_1).1]
  have c7 : h4[68]? = some (.inr (0, .inl f68_2)) := by rw [e5, List.getElem?_set_ne (by first | decide | omega)]; exact c68_2
  have c8 : h4[69]? = some (.inr (0, .inl f69_3)) := by rw [e5, List.getElem?_set_ne (by first | decide | omega)]; exact c69_3
  have c9 : h4[63]? = some (.inl (8, [.inl m_furlongs, .inl m_many, .inl m_bagged, .inl m_legs, .inl m_most, .inl m_nap, .inl m_on, .inl m_biscuits, .inl m_races, .inl m_worn, .inl m_here, .inl m_minutes, .inl m_seed, .inl m_fault, .inr (.inr (1, 64)), .inr (.inr (1, 65)), .inr (.inr (1, 66)), .inr (.inr (1, 67)), .inr (.inr (1, 68)), .inr (.inr (1, 69)), .inr (.inr (1, 70)), .inr (.inr (1, 71)), .inr (.inr (1, 72)), .inr (.inr (1, 73)), .inr (.inr (1, 74)), .inr (.inr (1, 75)), .inr (.inr (1, 76)), .inr (.inr (1, 77)), .inr (.inr (1, 78)), .inl m_base, .inl m_at, .inl m_end, .inl m_number, .inl m_wrongAt, .inr (.inr (1, 79)), .inr (.inr (1, 80)), .inr (.inr (1, 81)), .inr (.inr (1, 82)), .inr (.inr (1, 83)), .inr (.inr (1, 84)), .inl m_bestMany, .inl m_bestHere, .inl m_bestWorn, .inl m_bestMinutes, .inl m_turn, .inl m_ever, .inl m_made, .inl m_ruleHere, .inl m_ruleMinutes, .inl m_ruleEver, .inr (.inr (1, 85)), .inl m_ran, .inl m_isKept])) := by rw [e5, List.getElem?_set_ne (by first | decide | omega)]; exact hy
  have hI10 : zx_I h4 := by rw [e5]; exact zi_set hI (zc_brow_set l67_1 b67_1 (by omega)) (by decide) (by decide)
  have l11 := (List.length_set (as := f67_1) (i := m_many.toNatClampNeg) (a := w)).trans l67_1
  have fr12 : ∀ i, i ∉ ([63, 67, 68, 69] : List Nat) → h4[i]? = h[i]? := fun i hi => Eq.trans (b := h[i]?) (by rw [e5, List.getElem?_set_ne (fun z => hi (by rw [← z]; decide))]) (fr0 i hi)
  refine zx_W_ins (pc' := 11) dX8_addsPerson_10 rfl (fun _ => rfl) rfl ?_
  refine zw_gf (pc' := 14) dX8_addsPerson_11 rfl rfl c9 rfl ?_
  refine zx_W_ins (pc' := 15) dX8_addsPerson_14 rfl (fun _ => rfl) rfl ?_
  refine zw_gf (pc' := 18) dX8_addsPerson_15 rfl rfl c9 rfl ?_
  refine zx_W_ins (pc' := 19) dX8_addsPerson_18 rfl (fun _ => rfl) rfl ?_
  refine zw_ias (pc' := 20) dX8_addsPerson_19 rfl c7 (zi_in (by have := l68_2; omega)) ?_
  obtain ⟨h13, e14⟩ : ∃ z, z = h4.set 68 (.inr (0, .inl (f68_2.set m_many.toNatClampNeg q))) := ⟨_, rfl⟩
  rw [← e14]
  have c15 : h13[67]? = some (.inr (0, .inl (f67_1.set m_many.toNatClampNeg w))) := by rw [e14, List.getElem?_set_ne (by first | decide | omega)]; exact c6
  have c16 : h13[68]? = some (.inr (0, .inl (f68_2.set m_many.toNatClampNeg q))) := by rw [e14, List.getElem?_set_self (List.getElem?_eq_some_iff.mp c7).1]
  have c17 : h13[69]? = some (.inr (0, .inl f69_3)) := by rw [e14, List.getElem?_set_ne (by first | decide | omega)]; exact c8
  have c18 : h13[63]? = some (.inl (8, [.inl m_furlongs, .inl m_many, .inl m_bagged, .inl m_legs, .inl m_most, .inl m_nap, .inl m_on, .inl m_biscuits, .inl m_races, .inl m_worn, .inl m_here, .inl m_minutes, .inl m_seed, .inl m_fault, .inr (.inr (1, 64)), .inr (.inr (1, 65)), .inr (.inr (1, 66)), .inr (.inr (1, 67)), .inr (.inr (1, 68)), .inr (.inr (1, 69)), .inr (.inr (1, 70)), .inr (.inr (1, 71)), .inr (.inr (1, 72)), .inr (.inr (1, 73)), .inr (.inr (1, 74)), .inr (.inr (1, 75)), .inr (.inr (1, 76)), .inr (.inr (1, 77)), .inr (.inr (1, 78)), .inl m_base, .inl m_at, .inl m_end, .inl m_number, .inl m_wrongAt, .inr (.inr (1, 79)), .inr (.inr (1, 80)), .inr (.inr (1, 81)), .inr (.inr (1, 82)), .inr (.inr (1, 83)), .inr (.inr (1, 84)), .inl m_bestMany, .inl m_bestHere, .inl m_bestWorn, .inl m_bestMinutes, .inl m_turn, .inl m_ever, .inl m_made, .inl m_ruleHere, .inl m_ruleMinutes, .inl m_ruleEver, .inr (.inr (1, 85)), .inl m_ran, .inl m_isKept])) := by rw [e14, List.getElem?_set_ne (by first | decide | omega)]; exact c9
  have hI19 : zx_I h13 := by rw [e14]; exact zi_set hI10 (show zc_row 6 _ from ⟨_, rfl, by rw [List.length_set]; exact l68_2⟩) (by decide) (by decide)
  have l20 := (List.length_set (as := f68_2) (i := m_many.toNatClampNeg) (a := q)).trans l68_2
  have fr21 : ∀ i, i ∉ ([63, 67, 68, 69] : List Nat) → h13[i]? = h[i]? := fun i hi => Eq.trans (b := h4[i]?) (by rw [e14, List.getElem?_set_ne (fun z => hi (by rw [← z]; decide))]) (fr12 i hi)
  refine zx_W_ins (pc' := 21) dX8_addsPerson_20 rfl (fun _ => rfl) rfl ?_
  refine zw_gf (pc' := 24) dX8_addsPerson_21 rfl rfl c18 rfl ?_
  refine zx_W_ins (pc' := 25) dX8_addsPerson_24 rfl (fun _ => rfl) rfl ?_
  refine zw_gf (pc' := 28) dX8_addsPerson_25 rfl rfl c18 rfl ?_
  refine zw_ic (v := 0) (pc' := 29) dX8_addsPerson_28 rfl rfl ?_
  refine zw_ias (pc' := 30) dX8_addsPerson_29 rfl c17 (zi_in (by have := l69_3; omega)) ?_
  obtain ⟨h22, e23⟩ : ∃ z, z = h13.set 69 (.inr (0, .inl (f69_3.set m_many.toNatClampNeg 0))) := ⟨_, rfl⟩
  rw [← e23]
  have c24 : h22[67]? = some (.inr (0, .inl (f67_1.set m_many.toNatClampNeg w))) := by rw [e23, List.getElem?_set_ne (by first | decide | omega)]; exact c15
  have c25 : h22[68]? = some (.inr (0, .inl (f68_2.set m_many.toNatClampNeg q))) := by rw [e23, List.getElem?_set_ne (by first | decide | omega)]; exact c16
  have c26 : h22[69]? = some (.inr (0, .inl (f69_3.set m_many.toNatClampNeg 0))) := by rw [e23, List.getElem?_set_self (List.getElem?_eq_some_iff.mp c17).1]
  have c27 : h22[63]? = some (.inl (8, [.inl m_furlongs, .inl m_many, .inl m_bagged, .inl m_legs, .inl m_most, .inl m_nap, .inl m_on, .inl m_biscuits, .inl m_races, .inl m_worn, .inl m_here, .inl m_minutes, .inl m_seed, .inl m_fault, .inr (.inr (1, 64)), .inr (.inr (1, 65)), .inr (.inr (1, 66)), .inr (.inr (1, 67)), .inr (.inr (1, 68)), .inr (.inr (1, 69)), .inr (.inr (1, 70)), .inr (.inr (1, 71)), .inr (.inr (1, 72)), .inr (.inr (1, 73)), .inr (.inr (1, 74)), .inr (.inr (1, 75)), .inr (.inr (1, 76)), .inr (.inr (1, 77)), .inr (.inr (1, 78)), .inl m_base, .inl m_at, .inl m_end, .inl m_number, .inl m_wrongAt, .inr (.inr (1, 79)), .inr (.inr (1, 80)), .inr (.inr (1, 81)), .inr (.inr (1, 82)), .inr (.inr (1, 83)), .inr (.inr (1, 84)), .inl m_bestMany, .inl m_bestHere, .inl m_bestWorn, .inl m_bestMinutes, .inl m_turn, .inl m_ever, .inl m_made, .inl m_ruleHere, .inl m_ruleMinutes, .inl m_ruleEver, .inr (.inr (1, 85)), .inl m_ran, .inl m_isKept])) := by rw [e23, List.getElem?_set_ne (by first | decide | omega)]; exact c18
  have hI28 : zx_I h22 := by rw [e23]; exact zi_set hI19 (show zc_row 6 _ from ⟨_, rfl, by rw [List.length_set]; exact l69_3⟩) (by decide) (by decide)
  have l29 := (List.length_set (as := f69_3) (i := m_many.toNatClampNeg) (a := 0)).trans l69_3
  have fr30 : ∀ i, i ∉ ([63, 67, 68, 69] : List Nat) → h22[i]? = h[i]? := fun i hi => Eq.trans (b := h13[i]?) (by rw [e23, List.getElem?_set_ne (fun z => hi (by rw [← z]; decide))]) (fr21 i hi)
  refine zx_W_ins (pc' := 31) dX8_addsPerson_30 rfl (fun _ => rfl) rfl ?_
  refine zx_W_ins (pc' := 32) dX8_addsPerson_31 rfl (fun _ => rfl) rfl ?_
  refine zw_gf (pc' := 35) dX8_addsPerson_32 rfl rfl c27 rfl ?_
  refine zx_W_ins (pc' := 36) dX8_addsPerson_35 rfl (fun _ => rfl) rfl ?_
  refine zw_ic (v := 1) (pc' := 37) dX8_addsPerson_36 rfl rfl ?_
  refine zx_W_ins (pc' := 38) dX8_addsPerson_37 rfl (fun _ => rfl) rfl ?_
  refine zw_pf (pc' := 41) dX8_addsPerson_38 rfl rfl c27 rfl (fs' := [.inl m_furlongs, .inl (m_many + 1), .inl m_bagged, .inl m_legs, .inl m_most, .inl m_nap, .inl m_on, .inl m_biscuits, .inl m_races, .inl m_worn, .inl m_here, .inl m_minutes, .inl m_seed, .inl m_fault, .inr (.inr (1, 64)), .inr (.inr (1, 65)), .inr (.inr (1, 66)), .inr (.inr (1, 67)), .inr (.inr (1, 68)), .inr (.inr (1, 69)), .inr (.inr (1, 70)), .inr (.inr (1, 71)), .inr (.inr (1, 72)), .inr (.inr (1, 73)), .inr (.inr (1, 74)), .inr (.inr (1, 75)), .inr (.inr (1, 76)), .inr (.inr (1, 77)), .inr (.inr (1, 78)), .inl m_base, .inl m_at, .inl m_end, .inl m_number, .inl m_wrongAt, .inr (.inr (1, 79)), .inr (.inr (1, 80)), .inr (.inr (1, 81)), .inr (.inr (1, 82)), .inr (.inr (1, 83)), .inr (.inr (1, 84)), .inl m_bestMany, .inl m_bestHere, .inl m_bestWorn, .inl m_bestMinutes, .inl m_turn, .inl m_ever, .inl m_made, .inl m_ruleHere, .inl m_ruleMinutes, .inl m_ruleEver, .inr (.inr (1, 85)), .inl m_ran, .inl m_isKept]) rfl ?_
  obtain ⟨h31, e32⟩ : ∃ z, z = h22.set 63 (.inl (8, [.inl m_furlongs, .inl (m_many + 1), .inl m_bagged, .inl m_legs, .inl m_most, .inl m_nap, .inl m_on, .inl m_biscuits, .inl m_races, .inl m_worn, .inl m_here, .inl m_minutes, .inl m_seed, .inl m_fault, .inr (.inr (1, 64)), .inr (.inr (1, 65)), .inr (.inr (1, 66)), .inr (.inr (1, 67)), .inr (.inr (1, 68)), .inr (.inr (1, 69)), .inr (.inr (1, 70)), .inr (.inr (1, 71)), .inr (.inr (1, 72)), .inr (.inr (1, 73)), .inr (.inr (1, 74)), .inr (.inr (1, 75)), .inr (.inr (1, 76)), .inr (.inr (1, 77)), .inr (.inr (1, 78)), .inl m_base, .inl m_at, .inl m_end, .inl m_number, .inl m_wrongAt, .inr (.inr (1, 79)), .inr (.inr (1, 80)), .inr (.inr (1, 81)), .inr (.inr (1, 82)), .inr (.inr (1, 83)), .inr (.inr (1, 84)), .inl m_bestMany, .inl m_bestHere, .inl m_bestWorn, .inl m_bestMinutes, .inl m_turn, .inl m_ever, .inl m_made, .inl m_ruleHere, .inl m_ruleMinutes, .inl m_ruleEver, .inr (.inr (1, 85)), .inl m_ran, .inl m_isKept])) := ⟨_, rfl⟩
  rw [← e32]
  have c33 : h31[67]? = some (.inr (0, .inl (f67_1.set m_many.toNatClampNeg w))) := by rw [e32, List.getElem?_set_ne (by first | decide | omega)]; exact c24
  have c34 : h31[68]? = some (.inr (0, .inl (f68_2.set m_many.toNatClampNeg q))) := by rw [e32, List.getElem?_set_ne (by first | decide | omega)]; exact c25
  have c35 : h31[69]? = some (.inr (0, .inl (f69_3.set m_many.toNatClampNeg 0))) := by rw [e32, List.getElem?_set_ne (by first | decide | omega)]; exact c26
  have c36 : h31[63]? = some (.inl (8, [.inl m_furlongs, .inl (m_many + 1), .inl m_bagged, .inl m_legs, .inl m_most, .inl m_nap, .inl m_on, .inl m_biscuits, .inl m_races, .inl m_worn, .inl m_here, .inl m_minutes, .inl m_seed, .inl m_fault, .inr (.inr (1, 64)), .inr (.inr (1, 65)), .inr (.inr (1, 66)), .inr (.inr (1, 67)), .inr (.inr (1, 68)), .inr (.inr (1, 69)), .inr (.inr (1, 70)), .inr (.inr (1, 71)), .inr (.inr (1, 72)), .inr (.inr (1, 73)), .inr (.inr (1, 74)), .inr (.inr (1, 75)), .inr (.inr (1, 76)), .inr (.inr (1, 77)), .inr (.inr (1, 78)), .inl m_base, .inl m_at, .inl m_end, .inl m_number, .inl m_wrongAt, .inr (.inr (1, 79)), .inr (.inr (1, 80)), .inr (.inr (1, 81)), .inr (.inr (1, 82)), .inr (.inr (1, 83)), .inr (.inr (1, 84)), .inl m_bestMany, .inl m_bestHere, .inl m_bestWorn, .inl m_bestMinutes, .inl m_turn, .inl m_ever, .inl m_made, .inl m_ruleHere, .inl m_ruleMinutes, .inl m_ruleEver, .inr (.inr (1, 85)), .inl m_ran, .inl m_isKept])) := by rw [e32, List.getElem?_set_self (List.getElem?_eq_some_iff.mp c27).1]
  have hI37 : zx_I h31 := by rw [e32]; exact zi_set hI28 (show zc_ref _ from ⟨_, _, _, _, _, _, _, _, _, _, _, _, _, _, _, _, _, _, _, _, _, _, _, _, _, _, _, _, _, _, _, rfl, by omega, by omega, by omega, by omega, by omega, by omega, by omega, by omega, by assumption⟩) (by decide) (by decide)
  have fr38 : ∀ i, i ∉ ([63, 67, 68, 69] : List Nat) → h31[i]? = h[i]? := fun i hi => Eq.trans (b := h22[i]?) (by rw [e32, List.getElem?_set_ne (fun z => hi (by rw [← z]; decide))]) (fr30 i hi)
  refine zw_iret dX8_addsPerson_41 rfl rfl ?_
  exact hq _ h31 hI37 fr38
def zt_143 : zx_MT := (8, yX8_person, cX8_person, 3, (some FieldType.int), 2, 0)
theorem zm_143 : zx_m 143 = zt_143 := rfl
theorem dX8_person_0 : decode cX8_person 0 = .ok (.iload_n 1, 1) := by decide +kernel
theorem dX8_person_1 : decode cX8_person 1 = .ok (.ifCond .lt 9, 3) := by decide +kernel
theorem dX8_person_4 : decode cX8_person 4 = .ok (.iload_n 1, 1) := by decide +kernel
theorem dX8_person_5 : decode cX8_person 5 = .ok (.bipush 6, 2) := by decide +kernel
theorem dX8_person_7 : decode cX8_person 7 = .ok (.if_icmp .le 9, 3) := by decide +kernel
theorem dX8_person_10 : decode cX8_person 10 = .ok (.aload_n 0, 1) := by decide +kernel
theorem dX8_person_11 : decode cX8_person 11 = .ok (.iconst (-1), 1) := by decide +kernel
theorem dX8_person_12 : decode cX8_person 12 = .ok (.invokevirtual 115, 3) := by decide +kernel
theorem dX8_person_15 : decode cX8_person 15 = .ok (.ireturn, 1) := by decide +kernel
theorem dX8_person_16 : decode cX8_person 16 = .ok (.iload_n 2, 1) := by decide +kernel
theorem dX8_person_17 : decode cX8_person 17 = .ok (.ifCond .lt 9, 3) := by decide +kernel
theorem dX8_person_20 : decode cX8_person 20 = .ok (.iload_n 2, 1) := by decide +kernel
theorem dX8_person_21 : decode cX8_person 21 = .ok (.bipush 9, 2) := by decide +kernel
theorem dX8_person_23 : decode cX8_person 23 = .ok (.if_icmp .le 10, 3) := by decide +kernel
theorem dX8_person_26 : decode cX8_person 26 = .ok (.aload_n 0, 1) := by decide +kernel
theorem dX8_person_27 : decode cX8_person 27 = .ok (.bipush (-6), 2) := by decide +kernel
theorem dX8_person_29 : decode cX8_person 29 = .ok (.invokevirtual 115, 3) := by decide +kernel
theorem dX8_person_32 : decode cX8_person 32 = .ok (.ireturn, 1) := by decide +kernel
theorem dX8_person_33 : decode cX8_person 33 = .ok (.aload_n 0, 1) := by decide +kernel
theorem dX8_person_34 : decode cX8_person 34 = .ok (.getfield 105, 3) := by decide +kernel
theorem dX8_person_37 : decode cX8_person 37 = .ok (.bipush 6, 2) := by decide +kernel
theorem dX8_person_39 : decode cX8_person 39 = .ok (.if_icmp .ne 12, 3) := by decide +kernel
theorem dX8_person_42 : decode cX8_person 42 = .ok (.aload_n 0, 1) := by decide +kernel
theorem dX8_person_43 : decode cX8_person 43 = .ok (.bipush (-7), 2) := by decide +kernel
theorem dX8_person_45 : decode cX8_person 45 = .ok (.invokevirtual 115, 3) := by decide +kernel
theorem dX8_person_48 : decode cX8_person 48 = .ok (.goto 9, 3) := by decide +kernel
theorem dX8_person_51 : decode cX8_person 51 = .ok (.aload_n 0, 1) := by decide +kernel
theorem dX8_person_52 : decode cX8_person 52 = .ok (.iload_n 1, 1) := by decide +kernel
theorem dX8_person_53 : decode cX8_person 53 = .ok (.iload_n 2, 1) := by decide +kernel
theorem dX8_person_54 : decode cX8_person 54 = .ok (.invokevirtual 136, 3) := by decide +kernel
theorem dX8_person_57 : decode cX8_person 57 = .ok (.ireturn, 1) := by decide +kernel
theorem zc_143 {d : Nat} {h : List zx_C} {w : Int32} {q : Int32} {Q : Option zx_V → List zx_C → Prop} (hI : zx_I h)    (hq : ∀ (v : Int32) (h2 : List zx_C), zx_I h2 → (∀ i, i ∉ ([63, 64, 67, 68, 69] : List Nat) → h2[i]? = h[i]?) → Q (some (.inl v)) h2) : zx_M (d + 1) 143 [.inr (.inr (1, 63)), .inl w, .inl q] h Q := by
  have el_m7 : ((-7) : Int32).toInt = -7 := by decide
  have el_m6 : ((-6) : Int32).toInt = -6 := by decide
  have el_m1 : ((-1) : Int32).toInt = -1 := by decide
  have el_6 : (6 : Int32).toInt = 6 := by decide
  have el_9 : (9 : Int32).toInt = 9 := by decide
  obtain ⟨x1, c63_1, m_furlongs1, m_many1, m_bagged1, m_legs1, m_most1, m_nap1, m_on1, m_biscuits1, m_races1, m_worn1, m_here1, m_minutes1, m_seed1, m_fault1, m_base1, m_at1, m_end1, m_number1, m_wrongAt1, m_bestMany1, m_bestHere1, m_bestWorn1, m_bestMinutes1, m_turn1, m_ever1, m_made1, m_ruleHere1, m_ruleMinutes1, m_ruleEver1, m_ran1, m_isKept1, rfl, q0_1, q1_1, q2_1, q3_1, q4_1, q5_1, q6_1, q7_1, q8_1⟩ := zi_g hI 63 (by decide)
  have fr0 : ∀ i, i ∉ ([63, 64, 67, 68, 69] : List Nat) → h[i]? = h[i]? := fun _ _ => rfl
  refine zx_M_of (Nat.le_of_ble_eq_true rfl) zm_143 (L := [some (.inr (.inr (1, 63))), some (.inl w), some (.inl q)]) rfl ?_
  refine zx_W_ins (pc' := 1) dX8_person_0 rfl (fun _ => rfl) rfl ?_
  refine zw_if_lt (tgt := 10) (pc' := 4) dX8_person_1 rfl rfl (fun g2 => ?_) (fun g2 => ?_)
  · refine zx_W_ins (pc' := 11) dX8_person_10 rfl (fun _ => rfl) rfl ?_
    refine zw_ic (v := (-1)) (pc' := 12) dX8_person_11 rfl rfl ?_
    refine zw_iv (k := 125) (pc' := 15) dX8_person_12 rfl rfl rfl rfl c63_1 rfl rfl (zc_125 hI (by omega) (fun v3 h4 hI5 fr6 hvv3 _ => ?_))
    show zx_W _ _ _ _ _ _ _ [.inl v3] _ _
    have fr7 : ∀ i, i ∉ ([63, 64, 67, 68, 69] : List Nat) → h4[i]? = h[i]? := fun i hi => Eq.trans (fr6 i (fun z => hi (by first | exact absurd z List.not_mem_nil | (simp only [List.mem_cons, List.not_mem_nil, or_false] at z ⊢; omega)))) (fr0 i hi)
    have c8 : h4[63]? = some (.inl (8, [.inl m_furlongs1, .inl m_many1, .inl m_bagged1, .inl m_legs1, .inl m_most1, .inl m_nap1, .inl m_on1, .inl m_biscuits1, .inl m_races1, .inl m_worn1, .inl m_here1, .inl m_minutes1, .inl m_seed1, .inl m_fault1, .inr (.inr (1, 64)), .inr (.inr (1, 65)), .inr (.inr (1, 66)), .inr (.inr (1, 67)), .inr (.inr (1, 68)), .inr (.inr (1, 69)), .inr (.inr (1, 70)), .inr (.inr (1, 71)), .inr (.inr (1, 72)), .inr (.inr (1, 73)), .inr (.inr (1, 74)), .inr (.inr (1, 75)), .inr (.inr (1, 76)), .inr (.inr (1, 77)), .inr (.inr (1, 78)), .inl m_base1, .inl m_at1, .inl m_end1, .inl m_number1, .inl m_wrongAt1, .inr (.inr (1, 79)), .inr (.inr (1, 80)), .inr (.inr (1, 81)), .inr (.inr (1, 82)), .inr (.inr (1, 83)), .inr (.inr (1, 84)), .inl m_bestMany1, .inl m_bestHere1, .inl m_bestWorn1, .inl m_bestMinutes1, .inl m_turn1, .inl m_ever1, .inl m_made1, .inl m_ruleHere1, .inl m_ruleMinutes1, .inl m_ruleEver1, .inr (.inr (1, 85)), .inl m_ran1, .inl m_isKept1])) := by rw [fr6 63 (by decide)]; exact c63_1
    obtain ⟨x9, c64_9, f64_9, rfl, l64_9⟩ := zi_g hI5 64 (by decide)
    refine zw_iret dX8_person_15 rfl rfl ?_
    exact hq _ h4 hI5 fr7
  · refine zx_W_ins (pc' := 5) dX8_person_4 rfl (fun _ => rfl) rfl ?_
    refine zw_bi (v := 6) (pc' := 7) dX8_person_5 rfl rfl ?_
    refine zw_icmp_le (tgt := 16) (pc' := 10) dX8_person_7 rfl rfl (fun g10 => ?_) (fun g10 => ?_)
    · refine zx_W_ins (pc' := 17) dX8_person_16 rfl (fun _ => rfl) rfl ?_
      refine zw_if_lt (tgt := 26) (pc' := 20) dX8_person_17 rfl rfl (fun g11 => ?_) (fun g11 => ?_)
      · refine zx_W_ins (pc' := 27) dX8_person_26 rfl (fun _ => rfl) rfl ?_
        refine zw_bi (v := (-6)) (pc' := 29) dX8_person_27 rfl rfl ?_
        refine zw_iv (k := 125) (pc' := 32) dX8_person_29 rfl rfl rfl rfl c63_1 rfl rfl (zc_125 hI (by omega) (fun v12 h13 hI14 fr15 hvv12 _ => ?_))
        show zx_W _ _ _ _ _ _ _ [.inl v12] _ _
        have fr16 : ∀ i, i ∉ ([63, 64, 67, 68, 69] : List Nat) → h13[i]? = h[i]? := fun i hi => Eq.trans (fr15 i (fun z => hi (by first | exact absurd z List.not_mem_nil | (simp only [List.mem_cons, List.not_mem_nil, or_false] at z ⊢; omega)))) (fr0 i hi)
        have c17 : h13[63]? = some (.inl (8, [.inl m_furlongs1, .inl m_many1, .inl m_bagged1, .inl m_legs1, .inl m_most1, .inl m_nap1, .inl m_on1, .inl m_biscuits1, .inl m_races1, .inl m_worn1, .inl m_here1, .inl m_minutes1, .inl m_seed1, .inl m_fault1, .inr (.inr (1, 64)), .inr (.inr (1, 65)), .inr (.inr (1, 66)), .inr (.inr (1, 67)), .inr (.inr (1, 68)), .inr (.inr (1, 69)), .inr (.inr (1, 70)), .inr (.inr (1, 71)), .inr (.inr (1, 72)), .inr (.inr (1, 73)), .inr (.inr (1, 74)), .inr (.inr (1, 75)), .inr (.inr (1, 76)), .inr (.inr (1, 77)), .inr (.inr (1, 78)), .inl m_base1, .inl m_at1, .inl m_end1, .inl m_number1, .inl m_wrongAt1, .inr (.inr (1, 79)), .inr (.inr (1, 80)), .inr (.inr (1, 81)), .inr (.inr (1, 82)), .inr (.inr (1, 83)), .inr (.inr (1, 84)), .inl m_bestMany1, .inl m_bestHere1, .inl m_bestWorn1, .inl m_bestMinutes1, .inl m_turn1, .inl m_ever1, .inl m_made1, .inl m_ruleHere1, .inl m_ruleMinutes1, .inl m_ruleEver1, .inr (.inr (1, 85)), .inl m_ran1, .inl m_isKept1])) := by rw [fr15 63 (by decide)]; exact c63_1
        obtain ⟨x18, c64_18, f64_18, rfl, l64_18⟩ := zi_g hI14 64 (by decide)
        refine zw_iret dX8_person_32 rfl rfl ?_
        exact hq _ h13 hI14 fr16
      · refine zx_W_ins (pc' := 21) dX8_person_20 rfl (fun _ => rfl) rfl ?_
        refine zw_bi (v := 9) (pc' := 23) dX8_person_21 rfl rfl ?_
        refine zw_icmp_le (tgt := 33) (pc' := 26) dX8_person_23 rfl rfl (fun g19 => ?_) (fun g19 => ?_)
        · refine zx_W_ins (pc' := 34) dX8_person_33 rfl (fun _ => rfl) rfl ?_
          refine zw_gf (pc' := 37) dX8_person_34 rfl rfl c63_1 rfl ?_
          refine zw_bi (v := 6) (pc' := 39) dX8_person_37 rfl rfl ?_
          refine zw_icmp_ne (tgt := 51) (pc' := 42) dX8_person_39 rfl rfl (fun g20 => ?_) (fun g20 => ?_)
          · have g20t : ¬ (m_many1).toInt = (6 : Int32).toInt := fun z => g20 (Int32.toInt_inj.mp z)
            refine zx_W_ins (pc' := 52) dX8_person_51 rfl (fun _ => rfl) rfl ?_
            refine zx_W_ins (pc' := 53) dX8_person_52 rfl (fun _ => rfl) rfl ?_
            refine zx_W_ins (pc' := 54) dX8_person_53 rfl (fun _ => rfl) rfl ?_
            refine zw_iv (k := 141) (pc' := 57) dX8_person_54 rfl rfl rfl rfl c63_1 rfl rfl (zc_141 hI c63_1 (by omega) (by assumption) (by omega) (fun v21 h22 hI23 fr24 _ => ?_))
            show zx_W _ _ _ _ _ _ _ [.inl v21] _ _
            have fr25 : ∀ i, i ∉ ([63, 64, 67, 68, 69] : List Nat) → h22[i]? = h[i]? := fun i hi => Eq.trans (fr24 i (fun z => hi (by first | exact absurd z List.not_mem_nil | (simp only [List.mem_cons, List.not_mem_nil, or_false] at z ⊢; omega)))) (fr0 i hi)
            obtain ⟨x26, c63_26, m_furlongs26, m_many26, m_bagged26, m_legs26, m_most26, m_nap26, m_on26, m_biscuits26, m_races26, m_worn26, m_here26, m_minutes26, m_seed26, m_fault26, m_base26, m_at26, m_end26, m_number26, m_wrongAt26, m_bestMany26, m_bestHere26, m_bestWorn26, m_bestMinutes26, m_turn26, m_ever26, m_made26, m_ruleHere26, m_ruleMinutes26, m_ruleEver26, m_ran26, m_isKept26, rfl, q0_26, q1_26, q2_26, q3_26, q4_26, q5_26, q6_26, q7_26, q8_26⟩ := zi_g hI23 63 (by decide)
            obtain ⟨x27, c67_27, f67_27, rfl, l67_27, b67_27⟩ := zi_g hI23 67 (by decide)
            obtain ⟨x28, c68_28, f68_28, rfl, l68_28⟩ := zi_g hI23 68 (by decide)
            obtain ⟨x29, c69_29, f69_29, rfl, l69_29⟩ := zi_g hI23 69 (by decide)
            refine zw_iret dX8_person_57 rfl rfl ?_
            exact hq _ h22 hI23 fr25
          · have g20t : (m_many1).toInt = (6 : Int32).toInt := congrArg Int32.toInt g20
            refine zx_W_ins (pc' := 43) dX8_person_42 rfl (fun _ => rfl) rfl ?_
            refine zw_bi (v := (-7)) (pc' := 45) dX8_person_43 rfl rfl ?_
            refine zw_iv (k := 125) (pc' := 48) dX8_person_45 rfl rfl rfl rfl c63_1 rfl rfl (zc_125 hI (by omega) (fun v30 h31 hI32 fr33 hvv30 _ => ?_))
            show zx_W _ _ _ _ _ _ _ [.inl v30] _ _
            have fr34 : ∀ i, i ∉ ([63, 64, 67, 68, 69] : List Nat) → h31[i]? = h[i]? := fun i hi => Eq.trans (fr33 i (fun z => hi (by first | exact absurd z List.not_mem_nil | (simp only [List.mem_cons, List.not_mem_nil, or_false] at z ⊢; omega)))) (fr0 i hi)
            have c35 : h31[63]? = some (.inl (8, [.inl m_furlongs1, .inl m_many1, .inl m_bagged1, .inl m_legs1, .inl m_most1, .inl m_nap1, .inl m_on1, .inl m_biscuits1, .inl m_races1, .inl m_worn1, .inl m_here1, .inl m_minutes1, .inl m_seed1, .inl m_fault1, .inr (.inr (1, 64)), .inr (.inr (1, 65)), .inr (.inr (1, 66)), .inr (.inr (1, 67)), .inr (.inr (1, 68)), .inr (.inr (1, 69)), .inr (.inr (1, 70)), .inr (.inr (1, 71)), .inr (.inr (1, 72)), .inr (.inr (1, 73)), .inr (.inr (1, 74)), .inr (.inr (1, 75)), .inr (.inr (1, 76)), .inr (.inr (1, 77)), .inr (.inr (1, 78)), .inl m_base1, .inl m_at1, .inl m_end1, .inl m_number1, .inl m_wrongAt1, .inr (.inr (1, 79)), .inr (.inr (1, 80)), .inr (.inr (1, 81)), .inr (.inr (1, 82)), .inr (.inr (1, 83)), .inr (.inr (1, 84)), .inl m_bestMany1, .inl m_bestHere1, .inl m_bestWorn1, .inl m_bestMinutes1, .inl m_turn1, .inl m_ever1, .inl m_made1, .inl m_ruleHere1, .inl m_ruleMinutes1, .inl m_ruleEver1, .inr (.inr (1, 85)), .inl m_ran1, .inl m_isKept1])) := by rw [fr33 63 (by decide)]; exact c63_1
            obtain ⟨x36, c64_36, f64_36, rfl, l64_36⟩ := zi_g hI32 64 (by decide)
            refine zw_goto (tgt := 57) dX8_person_48 rfl ?_
            refine zw_iret dX8_person_57 rfl rfl ?_
            exact hq _ h31 hI32 fr34
        · refine zx_W_ins (pc' := 27) dX8_person_26 rfl (fun _ => rfl) rfl ?_
          refine zw_bi (v := (-6)) (pc' := 29) dX8_person_27 rfl rfl ?_
          refine zw_iv (k := 125) (pc' := 32) dX8_person_29 rfl rfl rfl rfl c63_1 rfl rfl (zc_125 hI (by omega) (fun v37 h38 hI39 fr40 hvv37 _ => ?_))
          show zx_W _ _ _ _ _ _ _ [.inl v37] _ _
          have fr41 : ∀ i, i ∉ ([63, 64, 67, 68, 69] : List Nat) → h38[i]? = h[i]? := fun i hi => Eq.trans (fr40 i (fun z => hi (by first | exact absurd z List.not_mem_nil | (simp only [List.mem_cons, List.not_mem_nil, or_false] at z ⊢; omega)))) (fr0 i hi)
          have c42 : h38[63]? = some (.inl (8, [.inl m_furlongs1, .inl m_many1, .inl m_bagged1, .inl m_legs1, .inl m_most1, .inl m_nap1, .inl m_on1, .inl m_biscuits1, .inl m_races1, .inl m_worn1, .inl m_here1, .inl m_minutes1, .inl m_seed1, .inl m_fault1, .inr (.inr (1, 64)), .inr (.inr (1, 65)), .inr (.inr (1, 66)), .inr (.inr (1, 67)), .inr (.inr (1, 68)), .inr (.inr (1, 69)), .inr (.inr (1, 70)), .inr (.inr (1, 71)), .inr (.inr (1, 72)), .inr (.inr (1, 73)), .inr (.inr (1, 74)), .inr (.inr (1, 75)), .inr (.inr (1, 76)), .inr (.inr (1, 77)), .inr (.inr (1, 78)), .inl m_base1, .inl m_at1, .inl m_end1, .inl m_number1, .inl m_wrongAt1, .inr (.inr (1, 79)), .inr (.inr (1, 80)), .inr (.inr (1, 81)), .inr (.inr (1, 82)), .inr (.inr (1, 83)), .inr (.inr (1, 84)), .inl m_bestMany1, .inl m_bestHere1, .inl m_bestWorn1, .inl m_bestMinutes1, .inl m_turn1, .inl m_ever1, .inl m_made1, .inl m_ruleHere1, .inl m_ruleMinutes1, .inl m_ruleEver1, .inr (.inr (1, 85)), .inl m_ran1, .inl m_isKept1])) := by rw [fr40 63 (by decide)]; exact c63_1
          obtain ⟨x43, c64_43, f64_43, rfl, l64_43⟩ := zi_g hI39 64 (by decide)
          refine zw_iret dX8_person_32 rfl rfl ?_
          exact hq _ h38 hI39 fr41
    · refine zx_W_ins (pc' := 11) dX8_person_10 rfl (fun _ => rfl) rfl ?_
      refine zw_ic (v := (-1)) (pc' := 12) dX8_person_11 rfl rfl ?_
      refine zw_iv (k := 125) (pc' := 15) dX8_person_12 rfl rfl rfl rfl c63_1 rfl rfl (zc_125 hI (by omega) (fun v44 h45 hI46 fr47 hvv44 _ => ?_))
      show zx_W _ _ _ _ _ _ _ [.inl v44] _ _
      have fr48 : ∀ i, i ∉ ([63, 64, 67, 68, 69] : List Nat) → h45[i]? = h[i]? := fun i hi => Eq.trans (fr47 i (fun z => hi (by first | exact absurd z List.not_mem_nil | (simp only [List.mem_cons, List.not_mem_nil, or_false] at z ⊢; omega)))) (fr0 i hi)
      have c49 : h45[63]? = some (.inl (8, [.inl m_furlongs1, .inl m_many1, .inl m_bagged1, .inl m_legs1, .inl m_most1, .inl m_nap1, .inl m_on1, .inl m_biscuits1, .inl m_races1, .inl m_worn1, .inl m_here1, .inl m_minutes1, .inl m_seed1, .inl m_fault1, .inr (.inr (1, 64)), .inr (.inr (1, 65)), .inr (.inr (1, 66)), .inr (.inr (1, 67)), .inr (.inr (1, 68)), .inr (.inr (1, 69)), .inr (.inr (1, 70)), .inr (.inr (1, 71)), .inr (.inr (1, 72)), .inr (.inr (1, 73)), .inr (.inr (1, 74)), .inr (.inr (1, 75)), .inr (.inr (1, 76)), .inr (.inr (1, 77)), .inr (.inr (1, 78)), .inl m_base1, .inl m_at1, .inl m_end1, .inl m_number1, .inl m_wrongAt1, .inr (.inr (1, 79)), .inr (.inr (1, 80)), .inr (.inr (1, 81)), .inr (.inr (1, 82)), .inr (.inr (1, 83)), .inr (.inr (1, 84)), .inl m_bestMany1, .inl m_bestHere1, .inl m_bestWorn1, .inl m_bestMinutes1, .inl m_turn1, .inl m_ever1, .inl m_made1, .inl m_ruleHere1, .inl m_ruleMinutes1, .inl m_ruleEver1, .inr (.inr (1, 85)), .inl m_ran1, .inl m_isKept1])) := by rw [fr47 63 (by decide)]; exact c63_1
      obtain ⟨x50, c64_50, f64_50, rfl, l64_50⟩ := zi_g hI46 64 (by decide)
      refine zw_iret dX8_person_15 rfl rfl ?_
      exact hq _ h45 hI46 fr48
def zt_3 : zx_MT := (0, yX0_kept, cX0_kept, 2, (some FieldType.int), 1, 0)
theorem zm_3 : zx_m 3 = zt_3 := rfl
theorem dX0_kept_0 : decode cX0_kept 0 = .ok (.iload_n 1, 1) := by decide +kernel
theorem dX0_kept_1 : decode cX0_kept 1 = .ok (.ifCond .lt 26, 3) := by decide +kernel
theorem dX0_kept_4 : decode cX0_kept 4 = .ok (.iload_n 1, 1) := by decide +kernel
theorem dX0_kept_5 : decode cX0_kept 5 = .ok (.bipush 20, 2) := by decide +kernel
theorem dX0_kept_7 : decode cX0_kept 7 = .ok (.if_icmp .ge 20, 3) := by decide +kernel
theorem dX0_kept_10 : decode cX0_kept 10 = .ok (.iload_n 1, 1) := by decide +kernel
theorem dX0_kept_11 : decode cX0_kept 11 = .ok (.aload_n 0, 1) := by decide +kernel
theorem dX0_kept_12 : decode cX0_kept 12 = .ok (.getfield 15, 3) := by decide +kernel
theorem dX0_kept_15 : decode cX0_kept 15 = .ok (.if_icmp .ge 12, 3) := by decide +kernel
theorem dX0_kept_18 : decode cX0_kept 18 = .ok (.aload_n 0, 1) := by decide +kernel
theorem dX0_kept_19 : decode cX0_kept 19 = .ok (.getfield 11, 3) := by decide +kernel
theorem dX0_kept_22 : decode cX0_kept 22 = .ok (.iload_n 1, 1) := by decide +kernel
theorem dX0_kept_23 : decode cX0_kept 23 = .ok (.iaload, 1) := by decide +kernel
theorem dX0_kept_24 : decode cX0_kept 24 = .ok (.goto 4, 3) := by decide +kernel
theorem dX0_kept_27 : decode cX0_kept 27 = .ok (.iconst (-1), 1) := by decide +kernel
theorem dX0_kept_28 : decode cX0_kept 28 = .ok (.ireturn, 1) := by decide +kernel
theorem zc_kept_44 {d : Nat} {h : List zx_C} {w : Int32} {Q : Option zx_V → List zx_C → Prop} (hI : zx_I h)    (hq : ∀ (v : Int32) (h2 : List zx_C), zx_I h2 → (∀ i, i ∉ ([] : List Nat) → h2[i]? = h[i]?) → Q (some (.inl v)) h2) : zx_M (d) 3 [.inr (.inr (1, 44)), .inl w] h Q := by
  have el_m1 : ((-1) : Int32).toInt = -1 := by decide
  have el_20 : (20 : Int32).toInt = 20 := by decide
  obtain ⟨x1, c44_1, rn1, ow1, nu1, tt1, rfl, hr1, hs1⟩ := zi_g hI 44 (by decide)
  obtain ⟨x2, c45_2, f45_2, rfl, l45_2⟩ := zi_g hI 45 (by decide)
  have fr0 : ∀ i, i ∉ ([] : List Nat) → h[i]? = h[i]? := fun _ _ => rfl
  refine zx_M_of (Nat.le_of_ble_eq_true rfl) zm_3 (L := [some (.inr (.inr (1, 44))), some (.inl w)]) rfl ?_
  refine zx_W_ins (pc' := 1) dX0_kept_0 rfl (fun _ => rfl) rfl ?_
  refine zw_if_lt (tgt := 27) (pc' := 4) dX0_kept_1 rfl rfl (fun g3 => ?_) (fun g3 => ?_)
  · refine zw_ic (v := (-1)) (pc' := 28) dX0_kept_27 rfl rfl ?_
    refine zw_iret dX0_kept_28 rfl rfl ?_
    exact hq _ h hI fr0
  · refine zx_W_ins (pc' := 5) dX0_kept_4 rfl (fun _ => rfl) rfl ?_
    refine zw_bi (v := 20) (pc' := 7) dX0_kept_5 rfl rfl ?_
    refine zw_icmp_ge (tgt := 27) (pc' := 10) dX0_kept_7 rfl rfl (fun g4 => ?_) (fun g4 => ?_)
    · refine zw_ic (v := (-1)) (pc' := 28) dX0_kept_27 rfl rfl ?_
      refine zw_iret dX0_kept_28 rfl rfl ?_
      exact hq _ h hI fr0
    · refine zx_W_ins (pc' := 11) dX0_kept_10 rfl (fun _ => rfl) rfl ?_
      refine zx_W_ins (pc' := 12) dX0_kept_11 rfl (fun _ => rfl) rfl ?_
      refine zw_gf (pc' := 15) dX0_kept_12 rfl rfl c44_1 rfl ?_
      refine zw_icmp_ge (tgt := 27) (pc' := 18) dX0_kept_15 rfl rfl (fun g5 => ?_) (fun g5 => ?_)
      · refine zw_ic (v := (-1)) (pc' := 28) dX0_kept_27 rfl rfl ?_
        refine zw_iret dX0_kept_28 rfl rfl ?_
        exact hq _ h hI fr0
      · refine zx_W_ins (pc' := 19) dX0_kept_18 rfl (fun _ => rfl) rfl ?_
        refine zw_gf (pc' := 22) dX0_kept_19 rfl rfl c44_1 rfl ?_
        refine zx_W_ins (pc' := 23) dX0_kept_22 rfl (fun _ => rfl) rfl ?_
        refine zw_ial (pc' := 24) dX0_kept_23 rfl c45_2 (zi_in (by have := l45_2; omega)) ?_
        refine zw_goto (tgt := 28) dX0_kept_24 rfl ?_
        refine zw_iret dX0_kept_28 rfl rfl ?_
        exact hq _ h hI fr0
def zt_105 : zx_MT := (7, yX7_trace, cX7_trace, 2, (some FieldType.int), 1, 0)
theorem zm_105 : zx_m 105 = zt_105 := rfl
theorem dX7_trace_0 : decode cX7_trace 0 = .ok (.aload_n 0, 1) := by decide +kernel
theorem dX7_trace_1 : decode cX7_trace 1 = .ok (.getfield 61, 3) := by decide +kernel
theorem dX7_trace_4 : decode cX7_trace 4 = .ok (.iload_n 1, 1) := by decide +kernel
theorem dX7_trace_5 : decode cX7_trace 5 = .ok (.invokevirtual 320, 3) := by decide +kernel
theorem dX7_trace_8 : decode cX7_trace 8 = .ok (.ireturn, 1) := by decide +kernel
theorem zc_105 {d : Nat} {h : List zx_C} {w : Int32} {Q : Option zx_V → List zx_C → Prop} (hI : zx_I h)    (hq : ∀ (v : Int32) (h2 : List zx_C), zx_I h2 → (∀ i, i ∉ ([] : List Nat) → h2[i]? = h[i]?) → Q (some (.inl v)) h2) : zx_M (d + 1) 105 [.inr (.inr (1, 0)), .inl w] h Q := by
  obtain ⟨x1, c0_1, it1, lf1, rfl, hit1⟩ := zi_g hI 0 (by decide)
  obtain ⟨x2, c44_2, rn2, ow2, nu2, tt2, rfl, hr2, hs2⟩ := zi_g hI 44 (by decide)
  have fr0 : ∀ i, i ∉ ([] : List Nat) → h[i]? = h[i]? := fun _ _ => rfl
  refine zx_M_of (Nat.le_of_ble_eq_true rfl) zm_105 (L := [some (.inr (.inr (1, 0))), some (.inl w)]) rfl ?_
  refine zx_W_ins (pc' := 1) dX7_trace_0 rfl (fun _ => rfl) rfl ?_
  refine zw_gf (pc' := 4) dX7_trace_1 rfl rfl c0_1 rfl ?_
  refine zx_W_ins (pc' := 5) dX7_trace_4 rfl (fun _ => rfl) rfl ?_
  refine zw_iv (k := 3) (pc' := 8) dX7_trace_5 rfl rfl rfl rfl c44_2 rfl rfl (zc_kept_44 hI (fun v3 h4 hI5 fr6 _ => ?_))
  show zx_W _ _ _ _ _ _ _ [.inl v3] _ _
  have fr7 : ∀ i, i ∉ ([] : List Nat) → h4[i]? = h[i]? := fun i hi => Eq.trans (fr6 i (fun z => hi (by first | exact absurd z List.not_mem_nil | (simp only [List.mem_cons, List.not_mem_nil, or_false] at z ⊢; omega)))) (fr0 i hi)
  have c8 : h4[0]? = some (.inl (7, [.inr (.inr (1, 1)), .inr (.inr (1, 2)), .inr (.inr (1, 9)), .inr (.inr (1, 16)), .inr (.inr (1, 18)), .inr (.inr (1, 21)), .inr (.inr (1, 35)), .inr (.inr (1, 44)), .inr (.inr (1, 46)), .inl it1, .inl lf1])) := by rw [fr6 0 (by decide)]; exact c0_1
  have c9 : h4[44]? = some (.inl (0, [.inr (.inr (1, 45)), .inl rn2, .inl ow2, .inl nu2, .inl tt2])) := by rw [fr6 44 (by decide)]; exact c44_2
  refine zw_iret dX7_trace_8 rfl rfl ?_
  exact hq _ h4 hI5 fr7
def zt_207 : zx_MT := (8, yX8_trace, cX8_trace, 2, (some FieldType.int), 1, 0)
theorem zm_207 : zx_m 207 = zt_207 := rfl
theorem dX8_trace_0 : decode cX8_trace 0 = .ok (.iload_n 1, 1) := by decide +kernel
theorem dX8_trace_1 : decode cX8_trace 1 = .ok (.ifCond .lt 26, 3) := by decide +kernel
theorem dX8_trace_4 : decode cX8_trace 4 = .ok (.iload_n 1, 1) := by decide +kernel
theorem dX8_trace_5 : decode cX8_trace 5 = .ok (.bipush 20, 2) := by decide +kernel
theorem dX8_trace_7 : decode cX8_trace 7 = .ok (.if_icmp .ge 20, 3) := by decide +kernel
theorem dX8_trace_10 : decode cX8_trace 10 = .ok (.iload_n 1, 1) := by decide +kernel
theorem dX8_trace_11 : decode cX8_trace 11 = .ok (.aload_n 0, 1) := by decide +kernel
theorem dX8_trace_12 : decode cX8_trace 12 = .ok (.getfield 303, 3) := by decide +kernel
theorem dX8_trace_15 : decode cX8_trace 15 = .ok (.if_icmp .ge 12, 3) := by decide +kernel
theorem dX8_trace_18 : decode cX8_trace 18 = .ok (.aload_n 0, 1) := by decide +kernel
theorem dX8_trace_19 : decode cX8_trace 19 = .ok (.getfield 102, 3) := by decide +kernel
theorem dX8_trace_22 : decode cX8_trace 22 = .ok (.iload_n 1, 1) := by decide +kernel
theorem dX8_trace_23 : decode cX8_trace 23 = .ok (.iaload, 1) := by decide +kernel
theorem dX8_trace_24 : decode cX8_trace 24 = .ok (.goto 4, 3) := by decide +kernel
theorem dX8_trace_27 : decode cX8_trace 27 = .ok (.iconst (-1), 1) := by decide +kernel
theorem dX8_trace_28 : decode cX8_trace 28 = .ok (.ireturn, 1) := by decide +kernel
theorem zc_207 {d : Nat} {h : List zx_C} {w : Int32} {Q : Option zx_V → List zx_C → Prop} (hI : zx_I h)    (hq : ∀ (v : Int32) (h2 : List zx_C), zx_I h2 → (∀ i, i ∉ ([] : List Nat) → h2[i]? = h[i]?) → Q (some (.inl v)) h2) : zx_M (d) 207 [.inr (.inr (1, 63)), .inl w] h Q := by
  have el_m1 : ((-1) : Int32).toInt = -1 := by decide
  have el_20 : (20 : Int32).toInt = 20 := by decide
  obtain ⟨x1, c63_1, m_furlongs1, m_many1, m_bagged1, m_legs1, m_most1, m_nap1, m_on1, m_biscuits1, m_races1, m_worn1, m_here1, m_minutes1, m_seed1, m_fault1, m_base1, m_at1, m_end1, m_number1, m_wrongAt1, m_bestMany1, m_bestHere1, m_bestWorn1, m_bestMinutes1, m_turn1, m_ever1, m_made1, m_ruleHere1, m_ruleMinutes1, m_ruleEver1, m_ran1, m_isKept1, rfl, q0_1, q1_1, q2_1, q3_1, q4_1, q5_1, q6_1, q7_1, q8_1⟩ := zi_g hI 63 (by decide)
  obtain ⟨x2, c85_2, f85_2, rfl, l85_2⟩ := zi_g hI 85 (by decide)
  have fr0 : ∀ i, i ∉ ([] : List Nat) → h[i]? = h[i]? := fun _ _ => rfl
  refine zx_M_of (Nat.le_of_ble_eq_true rfl) zm_207 (L := [some (.inr (.inr (1, 63))), some (.inl w)]) rfl ?_
  refine zx_W_ins (pc' := 1) dX8_trace_0 rfl (fun _ => rfl) rfl ?_
  refine zw_if_lt (tgt := 27) (pc' := 4) dX8_trace_1 rfl rfl (fun g3 => ?_) (fun g3 => ?_)
  · refine zw_ic (v := (-1)) (pc' := 28) dX8_trace_27 rfl rfl ?_
    refine zw_iret dX8_trace_28 rfl rfl ?_
    exact hq _ h hI fr0
  · refine zx_W_ins (pc' := 5) dX8_trace_4 rfl (fun _ => rfl) rfl ?_
    refine zw_bi (v := 20) (pc' := 7) dX8_trace_5 rfl rfl ?_
    refine zw_icmp_ge (tgt := 27) (pc' := 10) dX8_trace_7 rfl rfl (fun g4 => ?_) (fun g4 => ?_)
    · refine zw_ic (v := (-1)) (pc' := 28) dX8_trace_27 rfl rfl ?_
      refine zw_iret dX8_trace_28 rfl rfl ?_
      exact hq _ h hI fr0
    · refine zx_W_ins (pc' := 11) dX8_trace_10 rfl (fun _ => rfl) rfl ?_
      refine zx_W_ins (pc' := 12) dX8_trace_11 rfl (fun _ => rfl) rfl ?_
      refine zw_gf (pc' := 15) dX8_trace_12 rfl rfl c63_1 rfl ?_
      refine zw_icmp_ge (tgt := 27) (pc' := 18) dX8_trace_15 rfl rfl (fun g5 => ?_) (fun g5 => ?_)
      · refine zw_ic (v := (-1)) (pc' := 28) dX8_trace_27 rfl rfl ?_
        refine zw_iret dX8_trace_28 rfl rfl ?_
        exact hq _ h hI fr0
      · refine zx_W_ins (pc' := 19) dX8_trace_18 rfl (fun _ => rfl) rfl ?_
        refine zw_gf (pc' := 22) dX8_trace_19 rfl rfl c63_1 rfl ?_
        refine zx_W_ins (pc' := 23) dX8_trace_22 rfl (fun _ => rfl) rfl ?_
        refine zw_ial (pc' := 24) dX8_trace_23 rfl c85_2 (zi_in (by have := l85_2; omega)) ?_
        refine zw_goto (tgt := 28) dX8_trace_24 rfl ?_
        refine zw_iret dX8_trace_28 rfl rfl ?_
        exact hq _ h hI fr0
def zt_102 : zx_MT := (7, yX7_day, cX7_day, 3, (some FieldType.int), 0, 0)
theorem zm_102 : zx_m 102 = zt_102 := rfl
theorem dX7_day_0 : decode cX7_day 0 = .ok (.aload_n 0, 1) := by decide +kernel
theorem dX7_day_1 : decode cX7_day 1 = .ok (.getfield 23, 3) := by decide +kernel
theorem dX7_day_4 : decode cX7_day 4 = .ok (.getfield 221, 3) := by decide +kernel
theorem dX7_day_7 : decode cX7_day 7 = .ok (.istore_n 1, 1) := by decide +kernel
theorem dX7_day_8 : decode cX7_day 8 = .ok (.aload_n 0, 1) := by decide +kernel
theorem dX7_day_9 : decode cX7_day 9 = .ok (.getfield 23, 3) := by decide +kernel
theorem dX7_day_12 : decode cX7_day 12 = .ok (.iconst 0, 1) := by decide +kernel
theorem dX7_day_13 : decode cX7_day 13 = .ok (.putfield 221, 3) := by decide +kernel
theorem dX7_day_16 : decode cX7_day 16 = .ok (.aload_n 0, 1) := by decide +kernel
theorem dX7_day_17 : decode cX7_day 17 = .ok (.getfield 23, 3) := by decide +kernel
theorem dX7_day_20 : decode cX7_day 20 = .ok (.iconst 0, 1) := by decide +kernel
theorem dX7_day_21 : decode cX7_day 21 = .ok (.putfield 230, 3) := by decide +kernel
theorem dX7_day_24 : decode cX7_day 24 = .ok (.aload_n 0, 1) := by decide +kernel
theorem dX7_day_25 : decode cX7_day 25 = .ok (.getfield 23, 3) := by decide +kernel
theorem dX7_day_28 : decode cX7_day 28 = .ok (.iconst 0, 1) := by decide +kernel
theorem dX7_day_29 : decode cX7_day 29 = .ok (.putfield 304, 3) := by decide +kernel
theorem dX7_day_32 : decode cX7_day 32 = .ok (.aload_n 0, 1) := by decide +kernel
theorem dX7_day_33 : decode cX7_day 33 = .ok (.getfield 23, 3) := by decide +kernel
theorem dX7_day_36 : decode cX7_day 36 = .ok (.aload_n 0, 1) := by decide +kernel
theorem dX7_day_37 : decode cX7_day 37 = .ok (.getfield 23, 3) := by decide +kernel
theorem dX7_day_40 : decode cX7_day 40 = .ok (.getfield 307, 3) := by decide +kernel
theorem dX7_day_43 : decode cX7_day 43 = .ok (.putfield 277, 3) := by decide +kernel
theorem dX7_day_46 : decode cX7_day 46 = .ok (.iconst 0, 1) := by decide +kernel
theorem dX7_day_47 : decode cX7_day 47 = .ok (.istore_n 2, 1) := by decide +kernel
theorem dX7_day_48 : decode cX7_day 48 = .ok (.iload_n 2, 1) := by decide +kernel
theorem dX7_day_49 : decode cX7_day 49 = .ok (.bipush 6, 2) := by decide +kernel
theorem dX7_day_51 : decode cX7_day 51 = .ok (.if_icmp .ge 19, 3) := by decide +kernel
theorem dX7_day_54 : decode cX7_day 54 = .ok (.aload_n 0, 1) := by decide +kernel
theorem dX7_day_55 : decode cX7_day 55 = .ok (.getfield 23, 3) := by decide +kernel
theorem dX7_day_58 : decode cX7_day 58 = .ok (.getfield 143, 3) := by decide +kernel
theorem dX7_day_61 : decode cX7_day 61 = .ok (.iload_n 2, 1) := by decide +kernel
theorem dX7_day_62 : decode cX7_day 62 = .ok (.iconst 0, 1) := by decide +kernel
theorem dX7_day_63 : decode cX7_day 63 = .ok (.iastore, 1) := by decide +kernel
theorem dX7_day_64 : decode cX7_day 64 = .ok (.iinc 2 1, 3) := by decide +kernel
theorem dX7_day_67 : decode cX7_day 67 = .ok (.goto (-19), 3) := by decide +kernel
theorem dX7_day_70 : decode cX7_day 70 = .ok (.iload_n 1, 1) := by decide +kernel
theorem dX7_day_71 : decode cX7_day 71 = .ok (.ireturn, 1) := by decide +kernel
theorem zc_102 {d : Nat} {h : List zx_C}  {Q : Option zx_V → List zx_C → Prop} (hI : zx_I h)    (hq : ∀ (v : Int32) (h2 : List zx_C), zx_I h2 → (∀ i, i ∉ ([2, 8] : List Nat) → h2[i]? = h[i]?) → Q (some (.inl v)) h2) : zx_M (d) 102 [.inr (.inr (1, 0))] h Q := by
  have el_0 : (0 : Int32).toInt = 0 := by decide
  have el_1 : (1 : Int32).toInt = 1 := by decide
  have el_2 : (2 : Int32).toInt = 2 := by decide
  have el_3 : (3 : Int32).toInt = 3 := by decide
  have el_4 : (4 : Int32).toInt = 4 := by decide
  have el_5 : (5 : Int32).toInt = 5 := by decide
  have el_6 : (6 : Int32).toInt = 6 := by decide
  obtain ⟨x1, c0_1, it1, lf1, rfl, hit1⟩ := zi_g hI 0 (by decide)
  obtain ⟨x2, c2_2, bg2, mo2, le2, na2, on2, bi2, ra2, wo2, he2, mi2, se2, rfl, hh2, hk2⟩ := zi_g hI 2 (by decide)
  obtain ⟨x3, c8_3, f8_3, rfl, l8_3⟩ := zi_g hI 8 (by decide)
  have fr0 : ∀ i, i ∉ ([2, 8] : List Nat) → h[i]? = h[i]? := fun _ _ => rfl
  refine zx_M_of (Nat.le_of_ble_eq_true rfl) zm_102 (L := [some (.inr (.inr (1, 0))), none, none]) rfl ?_
  refine zx_W_ins (pc' := 1) dX7_day_0 rfl (fun _ => rfl) rfl ?_
  refine zw_gf (pc' := 4) dX7_day_1 rfl rfl c0_1 rfl ?_
  refine zw_gf (pc' := 7) dX7_day_4 rfl rfl c2_2 rfl ?_
  refine zx_W_ins (pc' := 8) (L' := [some (.inr (.inr (1, 0))), some (.inl he2), none]) dX7_day_7 rfl (fun _ => rfl) rfl ?_
  refine zx_W_ins (pc' := 9) dX7_day_8 rfl (fun _ => rfl) rfl ?_
  refine zw_gf (pc' := 12) dX7_day_9 rfl rfl c0_1 rfl ?_
  refine zw_ic (v := 0) (pc' := 13) dX7_day_12 rfl rfl ?_
  refine zw_pf (pc' := 16) dX7_day_13 rfl rfl c2_2 rfl (fs' := [.inr (.inr (1, 3)), .inr (.inr (1, 8)), .inl bg2, .inl mo2, .inl le2, .inl na2, .inl on2, .inl bi2, .inl ra2, .inl wo2, .inl 0, .inl mi2, .inl se2]) rfl ?_
  obtain ⟨h4, e5⟩ : ∃ z, z = h.set 2 (.inl (5, [.inr (.inr (1, 3)), .inr (.inr (1, 8)), .inl bg2, .inl mo2, .inl le2, .inl na2, .inl on2, .inl bi2, .inl ra2, .inl wo2, .inl 0, .inl mi2, .inl se2])) := ⟨_, rfl⟩
  rw [← e5]
  have c6 : h4[0]? = some (.inl (7, [.inr (.inr (1, 1)), .inr (.inr (1, 2)), .inr (.inr (1, 9)), .inr (.inr (1, 16)), .inr (.inr (1, 18)), .inr (.inr (1, 21)), .inr (.inr (1, 35)), .inr (.inr (1, 44)), .inr (.inr (1, 46)), .inl it1, .inl lf1])) := by rw [e5, List.getElem?_set_ne (by first | decide | omega)]; exact c0_1
  have c7 : h4[2]? = some (.inl (5, [.inr (.inr (1, 3)), .inr (.inr (1, 8)), .inl bg2, .inl mo2, .inl le2, .inl na2, .inl on2, .inl bi2, .inl ra2, .inl wo2, .inl 0, .inl mi2, .inl se2])) := by rw [e5, List.getElem?_set_self (List.getElem?_eq_some_iff.mp c2_2).1]
  have c8 : h4[8]? = some (.inr (0, .inl f8_3)) := by rw [e5, List.getElem?_set_ne (by first | decide | omega)]; exact c8_3
  have hI9 : zx_I h4 := by rw [e5]; exact zi_set hI (show zc_walk 3 8 _ from ⟨_, _, _, _, _, _, _, _, _, _, _, rfl, by omega, by omega⟩) (by decide) (by decide)
  have fr10 : ∀ i, i ∉ ([2, 8] : List Nat) → h4[i]? = h[i]? := fun i hi => Eq.trans (b := h[i]?) (by rw [e5, List.getElem?_set_ne (fun z => hi (by rw [← z]; decide))]) (fr0 i hi)
  refine zx_W_ins (pc' := 17) dX7_day_16 rfl (fun _ => rfl) rfl ?_
  refine zw_gf (pc' := 20) dX7_day_17 rfl rfl c6 rfl ?_
  refine zw_ic (v := 0) (pc' := 21) dX7_day_20 rfl rfl ?_
  refine zw_pf (pc' := 24) dX7_day_21 rfl rfl c7 rfl (fs' := [.inr (.inr (1, 3)), .inr (.inr (1, 8)), .inl bg2, .inl mo2, .inl le2, .inl na2, .inl on2, .inl bi2, .inl ra2, .inl wo2, .inl 0, .inl 0, .inl se2]) rfl ?_
  obtain ⟨h11, e12⟩ : ∃ z, z = h4.set 2 (.inl (5, [.inr (.inr (1, 3)), .inr (.inr (1, 8)), .inl bg2, .inl mo2, .inl le2, .inl na2, .inl on2, .inl bi2, .inl ra2, .inl wo2, .inl 0, .inl 0, .inl se2])) := ⟨_, rfl⟩
  rw [← e12]
  have c13 : h11[0]? = some (.inl (7, [.inr (.inr (1, 1)), .inr (.inr (1, 2)), .inr (.inr (1, 9)), .inr (.inr (1, 16)), .inr (.inr (1, 18)), .inr (.inr (1, 21)), .inr (.inr (1, 35)), .inr (.inr (1, 44)), .inr (.inr (1, 46)), .inl it1, .inl lf1])) := by rw [e12, List.getElem?_set_ne (by first | decide | omega)]; exact c6
  have c14 : h11[2]? = some (.inl (5, [.inr (.inr (1, 3)), .inr (.inr (1, 8)), .inl bg2, .inl mo2, .inl le2, .inl na2, .inl on2, .inl bi2, .inl ra2, .inl wo2, .inl 0, .inl 0, .inl se2])) := by rw [e12, List.getElem?_set_self (List.getElem?_eq_some_iff.mp c7).1]
  have c15 : h11[8]? = some (.inr (0, .inl f8_3)) := by rw [e12, List.getElem?_set_ne (by first | decide | omega)]; exact c8
  have hI16 : zx_I h11 := by rw [e12]; exact zi_set hI9 (show zc_walk 3 8 _ from ⟨_, _, _, _, _, _, _, _, _, _, _, rfl, by omega, by omega⟩) (by decide) (by decide)
  have fr17 : ∀ i, i ∉ ([2, 8] : List Nat) → h11[i]? = h[i]? := fun i hi => Eq.trans (b := h4[i]?) (by rw [e12, List.getElem?_set_ne (fun z => hi (by rw [← z]; decide))]) (fr10 i hi)
  refine zx_W_ins (pc' := 25) dX7_day_24 rfl (fun _ => rfl) rfl ?_
  refine zw_gf (pc' := 28) dX7_day_25 rfl rfl c13 rfl ?_
  refine zw_ic (v := 0) (pc' := 29) dX7_day_28 rfl rfl ?_
  refine zw_pf (pc' := 32) dX7_day_29 rfl rfl c14 rfl (fs' := [.inr (.inr (1, 3)), .inr (.inr (1, 8)), .inl bg2, .inl mo2, .inl le2, .inl na2, .inl 0, .inl bi2, .inl ra2, .inl wo2, .inl 0, .inl 0, .inl se2]) rfl ?_
  obtain ⟨h18, e19⟩ : ∃ z, z = h11.set 2 (.inl (5, [.inr (.inr (1, 3)), .inr (.inr (1, 8)), .inl bg2, .inl mo2, .inl le2, .inl na2, .inl 0, .inl bi2, .inl ra2, .inl wo2, .inl 0, .inl 0, .inl se2])) := ⟨_, rfl⟩
  rw [← e19]
  have c20 : h18[0]? = some (.inl (7, [.inr (.inr (1, 1)), .inr (.inr (1, 2)), .inr (.inr (1, 9)), .inr (.inr (1, 16)), .inr (.inr (1, 18)), .inr (.inr (1, 21)), .inr (.inr (1, 35)), .inr (.inr (1, 44)), .inr (.inr (1, 46)), .inl it1, .inl lf1])) := by rw [e19, List.getElem?_set_ne (by first | decide | omega)]; exact c13
  have c21 : h18[2]? = some (.inl (5, [.inr (.inr (1, 3)), .inr (.inr (1, 8)), .inl bg2, .inl mo2, .inl le2, .inl na2, .inl 0, .inl bi2, .inl ra2, .inl wo2, .inl 0, .inl 0, .inl se2])) := by rw [e19, List.getElem?_set_self (List.getElem?_eq_some_iff.mp c14).1]
  have c22 : h18[8]? = some (.inr (0, .inl f8_3)) := by rw [e19, List.getElem?_set_ne (by first | decide | omega)]; exact c15
  have hI23 : zx_I h18 := by rw [e19]; exact zi_set hI16 (show zc_walk 3 8 _ from ⟨_, _, _, _, _, _, _, _, _, _, _, rfl, by omega, by omega⟩) (by decide) (by decide)
  have fr24 : ∀ i, i ∉ ([2, 8] : List Nat) → h18[i]? = h[i]? := fun i hi => Eq.trans (b := h11[i]?) (by rw [e19, List.getElem?_set_ne (fun z => hi (by rw [← z]; decide))]) (fr17 i hi)
  refine zx_W_ins (pc' := 33) dX7_day_32 rfl (fun _ => rfl) rfl ?_
  refine zw_gf (pc' := 36) dX7_day_33 rfl rfl c20 rfl ?_
  refine zx_W_ins (pc' := 37) dX7_day_36 rfl (fun _ => rfl) rfl ?_
  refine zw_gf (pc' := 40) dX7_day_37 rfl rfl c20 rfl ?_
  refine zw_gf (pc' := 43) dX7_day_40 rfl rfl c21 rfl ?_
  refine zw_pf (pc' := 46) dX7_day_43 rfl rfl c21 rfl (fs' := [.inr (.inr (1, 3)), .inr (.inr (1, 8)), .inl bg2, .inl mo2, .inl mo2, .inl na2, .inl 0, .inl bi2, .inl ra2, .inl wo2, .inl 0, .inl 0, .inl se2]) rfl ?_
  obtain ⟨h25, e26⟩ : ∃ z, z = h18.set 2 (.inl (5, [.inr (.inr (1, 3)), .inr (.inr (1, 8)), .inl bg2, .inl mo2, .inl mo2, .inl na2, .inl 0, .inl bi2, .inl ra2, .inl wo2, .inl 0, .inl 0, .inl se2])) := ⟨_, rfl⟩
  rw [← e26]
  have c27 : h25[0]? = some (.inl (7, [.inr (.inr (1, 1)), .inr (.inr (1, 2)), .inr (.inr (1, 9)), .inr (.inr (1, 16)), .inr (.inr (1, 18)), .inr (.inr (1, 21)), .inr (.inr (1, 35)), .inr (.inr (1, 44)), .inr (.inr (1, 46)), .inl it1, .inl lf1])) := by rw [e26, List.getElem?_set_ne (by first | decide | omega)]; exact c20
  have c28 : h25[2]? = some (.inl (5, [.inr (.inr (1, 3)), .inr (.inr (1, 8)), .inl bg2, .inl mo2, .inl mo2, .inl na2, .inl 0, .inl bi2, .inl ra2, .inl wo2, .inl 0, .inl 0, .inl se2])) := by rw [e26, List.getElem?_set_self (List.getElem?_eq_some_iff.mp c21).1]
  have c29 : h25[8]? = some (.inr (0, .inl f8_3)) := by rw [e26, List.getElem?_set_ne (by first | decide | omega)]; exact c22
  have hI30 : zx_I h25 := by rw [e26]; exact zi_set hI23 (show zc_walk 3 8 _ from ⟨_, _, _, _, _, _, _, _, _, _, _, rfl, by omega, by omega⟩) (by decide) (by decide)
  have fr31 : ∀ i, i ∉ ([2, 8] : List Nat) → h25[i]? = h[i]? := fun i hi => Eq.trans (b := h18[i]?) (by rw [e26, List.getElem?_set_ne (fun z => hi (by rw [← z]; decide))]) (fr24 i hi)
  refine zw_ic (v := 0) (pc' := 47) dX7_day_46 rfl rfl ?_
  refine zx_W_ins (pc' := 48) (L' := [some (.inr (.inr (1, 0))), some (.inl he2), some (.inl 0)]) dX7_day_47 rfl (fun _ => rfl) rfl ?_
  refine zx_W_ins (pc' := 49) dX7_day_48 rfl (fun _ => rfl) rfl ?_
  refine zw_bi (v := 6) (pc' := 51) dX7_day_49 rfl rfl ?_
  refine zw_icmp_ge (tgt := 70) (pc' := 54) dX7_day_51 rfl rfl (fun g => by first | exact absurd rfl g | exact absurd g (by decide)) (fun _ => ?_)
  refine zx_W_ins (pc' := 55) dX7_day_54 rfl (fun _ => rfl) rfl ?_
  refine zw_gf (pc' := 58) dX7_day_55 rfl rfl c27 rfl ?_
  refine zw_gf (pc' := 61) dX7_day_58 rfl rfl c28 rfl ?_
  refine zx_W_ins (pc' := 62) dX7_day_61 rfl (fun _ => rfl) rfl ?_
  refine zw_ic (v := 0) (pc' := 63) dX7_day_62 rfl rfl ?_
  refine zw_ias (pc' := 64) dX7_day_63 rfl c29 (zi_in (by have := l8_3; omega)) ?_
  obtain ⟨h33, e34⟩ : ∃ z, z = h25.set 8 (.inr (0, .inl (f8_3.set (0 : Int32).toNatClampNeg 0))) := ⟨_, rfl⟩
  rw [← e34]
  have c35 : h33[0]? = some (.inl (7, [.inr (.inr (1, 1)), .inr (.inr (1, 2)), .inr (.inr (1, 9)), .inr (.inr (1, 16)), .inr (.inr (1, 18)), .inr (.inr (1, 21)), .inr (.inr (1, 35)), .inr (.inr (1, 44)), .inr (.inr (1, 46)), .inl it1, .inl lf1])) := by rw [e34, List.getElem?_set_ne (by first | decide | omega)]; exact c27
  have c36 : h33[2]? = some (.inl (5, [.inr (.inr (1, 3)), .inr (.inr (1, 8)), .inl bg2, .inl mo2, .inl mo2, .inl na2, .inl 0, .inl bi2, .inl ra2, .inl wo2, .inl 0, .inl 0, .inl se2])) := by rw [e34, List.getElem?_set_ne (by first | decide | omega)]; exact c28
  have c37 : h33[8]? = some (.inr (0, .inl (f8_3.set (0 : Int32).toNatClampNeg 0))) := by rw [e34, List.getElem?_set_self (List.getElem?_eq_some_iff.mp c29).1]
  have hI38 : zx_I h33 := by rw [e34]; exact zi_set hI30 (show zc_row 6 _ from ⟨_, rfl, by rw [List.length_set]; exact l8_3⟩) (by decide) (by decide)
  have l39 := (List.length_set (as := f8_3) (i := (0 : Int32).toNatClampNeg) (a := 0)).trans l8_3
  have fr40 : ∀ i, i ∉ ([2, 8] : List Nat) → h33[i]? = h[i]? := fun i hi => Eq.trans (b := h25[i]?) (by rw [e34, List.getElem?_set_ne (fun z => hi (by rw [← z]; decide))]) (fr31 i hi)
  refine zx_W_ins (pc' := 67) (L' := [some (.inr (.inr (1, 0))), some (.inl he2), some (.inl 1)]) dX7_day_64 rfl (fun _ => rfl) rfl ?_
  refine zw_goto (tgt := 48) dX7_day_67 rfl ?_
  refine zx_W_ins (pc' := 49) dX7_day_48 rfl (fun _ => rfl) rfl ?_
  refine zw_bi (v := 6) (pc' := 51) dX7_day_49 rfl rfl ?_
  refine zw_icmp_ge (tgt := 70) (pc' := 54) dX7_day_51 rfl rfl (fun g => by first | exact absurd rfl g | exact absurd g (by decide)) (fun _ => ?_)
  refine zx_W_ins (pc' := 55) dX7_day_54 rfl (fun _ => rfl) rfl ?_
  refine zw_gf (pc' := 58) dX7_day_55 rfl rfl c35 rfl ?_
  refine zw_gf (pc' := 61) dX7_day_58 rfl rfl c36 rfl ?_
  refine zx_W_ins (pc' := 62) dX7_day_61 rfl (fun _ => rfl) rfl ?_
  refine zw_ic (v := 0) (pc' := 63) dX7_day_62 rfl rfl ?_
  refine zw_ias (pc' := 64) dX7_day_63 rfl c37 (zi_in (by have := l39; omega)) ?_
  obtain ⟨h42, e43⟩ : ∃ z, z = h33.set 8 (.inr (0, .inl ((f8_3.set (0 : Int32).toNatClampNeg 0).set (1 : Int32).toNatClampNeg 0))) := ⟨_, rfl⟩
  rw [← e43]
  have c44 : h42[0]? = some (.inl (7, [.inr (.inr (1, 1)), .inr (.inr (1, 2)), .inr (.inr (1, 9)), .inr (.inr (1, 16)), .inr (.inr (1, 18)), .inr (.inr (1, 21)), .inr (.inr (1, 35)), .inr (.inr (1, 44)), .inr (.inr (1, 46)), .inl it1, .inl lf1])) := by rw [e43, List.getElem?_set_ne (by first | decide | omega)]; exact c35
  have c45 : h42[2]? = some (.inl (5, [.inr (.inr (1, 3)), .inr (.inr (1, 8)), .inl bg2, .inl mo2, .inl mo2, .inl na2, .inl 0, .inl bi2, .inl ra2, .inl wo2, .inl 0, .inl 0, .inl se2])) := by rw [e43, List.getElem?_set_ne (by first | decide | omega)]; exact c36
  have c46 : h42[8]? = some (.inr (0, .inl ((f8_3.set (0 : Int32).toNatClampNeg 0).set (1 : Int32).toNatClampNeg 0))) := by rw [e43, List.getElem?_set_self (List.getElem?_eq_some_iff.mp c37).1]
  have hI47 : zx_I h42 := by rw [e43]; exact zi_set hI38 (show zc_row 6 _ from ⟨_, rfl, by rw [List.length_set]; exact l39⟩) (by decide) (by decide)
  have l48 := (List.length_set (as := (f8_3.set (0 : Int32).toNatClampNeg 0)) (i := (1 : Int32).toNatClampNeg) (a := 0)).trans l39
  have fr49 : ∀ i, i ∉ ([2, 8] : List Nat) → h42[i]? = h[i]? := fun i hi => Eq.trans (b := h33[i]?) (by rw [e43, List.getElem?_set_ne (fun z => hi (by rw [← z]; decide))]) (fr40 i hi)
  refine zx_W_ins (pc' := 67) (L' := [some (.inr (.inr (1, 0))), some (.inl he2), some (.inl 2)]) dX7_day_64 rfl (fun _ => rfl) rfl ?_
  refine zw_goto (tgt := 48) dX7_day_67 rfl ?_
  refine zx_W_ins (pc' := 49) dX7_day_48 rfl (fun _ => rfl) rfl ?_
  refine zw_bi (v := 6) (pc' := 51) dX7_day_49 rfl rfl ?_
  refine zw_icmp_ge (tgt := 70) (pc' := 54) dX7_day_51 rfl rfl (fun g => by first | exact absurd rfl g | exact absurd g (by decide)) (fun _ => ?_)
  refine zx_W_ins (pc' := 55) dX7_day_54 rfl (fun _ => rfl) rfl ?_
  refine zw_gf (pc' := 58) dX7_day_55 rfl rfl c44 rfl ?_
  refine zw_gf (pc' := 61) dX7_day_58 rfl rfl c45 rfl ?_
  refine zx_W_ins (pc' := 62) dX7_day_61 rfl (fun _ => rfl) rfl ?_
  refine zw_ic (v := 0) (pc' := 63) dX7_day_62 rfl rfl ?_
  refine zw_ias (pc' := 64) dX7_day_63 rfl c46 (zi_in (by have := l48; omega)) ?_
  obtain ⟨h51, e52⟩ : ∃ z, z = h42.set 8 (.inr (0, .inl (((f8_3.set (0 : Int32).toNatClampNeg 0).set (1 : Int32).toNatClampNeg 0).set (2 : Int32).toNatClampNeg 0))) := ⟨_, rfl⟩
  rw [← e52]
  have c53 : h51[0]? = some (.inl (7, [.inr (.inr (1, 1)), .inr (.inr (1, 2)), .inr (.inr (1, 9)), .inr (.inr (1, 16)), .inr (.inr (1, 18)), .inr (.inr (1, 21)), .inr (.inr (1, 35)), .inr (.inr (1, 44)), .inr (.inr (1, 46)), .inl it1, .inl lf1])) := by rw [e52, List.getElem?_set_ne (by first | decide | omega)]; exact c44
  have c54 : h51[2]? = some (.inl (5, [.inr (.inr (1, 3)), .inr (.inr (1, 8)), .inl bg2, .inl mo2, .inl mo2, .inl na2, .inl 0, .inl bi2, .inl ra2, .inl wo2, .inl 0, .inl 0, .inl se2])) := by rw [e52, List.getElem?_set_ne (by first | decide | omega)]; exact c45
  have c55 : h51[8]? = some (.inr (0, .inl (((f8_3.set (0 : Int32).toNatClampNeg 0).set (1 : Int32).toNatClampNeg 0).set (2 : Int32).toNatClampNeg 0))) := by rw [e52, List.getElem?_set_self (List.getElem?_eq_some_iff.mp c46).1]
  have hI56 : zx_I h51 := by rw [e52]; exact zi_set hI47 (show zc_row 6 _ from ⟨_, rfl, by rw [List.length_set]; exact l48⟩) (by decide) (by decide)
  have l57 := (List.length_set (as := ((f8_3.set (0 : Int32).toNatClampNeg 0).set (1 : Int32).toNatClampNeg 0)) (i := (2 : Int32).toNatClampNeg) (a := 0)).trans l48
  have fr58 : ∀ i, i ∉ ([2, 8] : List Nat) → h51[i]? = h[i]? := fun i hi => Eq.trans (b := h42[i]?) (by rw [e52, List.getElem?_set_ne (fun z => hi (by rw [← z]; decide))]) (fr49 i hi)
  refine zx_W_ins (pc' := 67) (L' := [some (.inr (.inr (1, 0))), some (.inl he2), some (.inl 3)]) dX7_day_64 rfl (fun _ => rfl) rfl ?_
  refine zw_goto (tgt := 48) dX7_day_67 rfl ?_
  refine zx_W_ins (pc' := 49) dX7_day_48 rfl (fun _ => rfl) rfl ?_
  refine zw_bi (v := 6) (pc' := 51) dX7_day_49 rfl rfl ?_
  refine zw_icmp_ge (tgt := 70) (pc' := 54) dX7_day_51 rfl rfl (fun g => by first | exact absurd rfl g | exact absurd g (by decide)) (fun _ => ?_)
  refine zx_W_ins (pc' := 55) dX7_day_54 rfl (fun _ => rfl) rfl ?_
  refine zw_gf (pc' := 58) dX7_day_55 rfl rfl c53 rfl ?_
  refine zw_gf (pc' := 61) dX7_day_58 rfl rfl c54 rfl ?_
  refine zx_W_ins (pc' := 62) dX7_day_61 rfl (fun _ => rfl) rfl ?_
  refine zw_ic (v := 0) (pc' := 63) dX7_day_62 rfl rfl ?_
  refine zw_ias (pc' := 64) dX7_day_63 rfl c55 (zi_in (by have := l57; omega)) ?_
  obtain ⟨h60, e61⟩ : ∃ z, z = h51.set 8 (.inr (0, .inl ((((f8_3.set (0 : Int32).toNatClampNeg 0).set (1 : Int32).toNatClampNeg 0).set (2 : Int32).toNatClampNeg 0).set (3 : Int32).toNatClampNeg 0))) := ⟨_, rfl⟩
  rw [← e61]
  have c62 : h60[0]? = some (.inl (7, [.inr (.inr (1, 1)), .inr (.inr (1, 2)), .inr (.inr (1, 9)), .inr (.inr (1, 16)), .inr (.inr (1, 18)), .inr (.inr (1, 21)), .inr (.inr (1, 35)), .inr (.inr (1, 44)), .inr (.inr (1, 46)), .inl it1, .inl lf1])) := by rw [e61, List.getElem?_set_ne (by first | decide | omega)]; exact c53
  have c63 : h60[2]? = some (.inl (5, [.inr (.inr (1, 3)), .inr (.inr (1, 8)), .inl bg2, .inl mo2, .inl mo2, .inl na2, .inl 0, .inl bi2, .inl ra2, .inl wo2, .inl 0, .inl 0, .inl se2])) := by rw [e61, List.getElem?_set_ne (by first | decide | omega)]; exact c54
  have c64 : h60[8]? = some (.inr (0, .inl ((((f8_3.set (0 : Int32).toNatClampNeg 0).set (1 : Int32).toNatClampNeg 0).set (2 : Int32).toNatClampNeg 0).set (3 : Int32).toNatClampNeg 0))) := by rw [e61, List.getElem?_set_self (List.getElem?_eq_some_iff.mp c55).1]
  have hI65 : zx_I h60 := by rw [e61]; exact zi_set hI56 (show zc_row 6 _ from ⟨_, rfl, by rw [List.length_set]; exact l57⟩) (by decide) (by decide)
  have l66 := (List.length_set (as := (((f8_3.set (0 : Int32).toNatClampNeg 0).set (1 : Int32).toNatClampNeg 0).set (2 : Int32).toNatClampNeg 0)) (i := (3 : Int32).toNatClampNeg) (a := 0)).trans l57
  have fr67 : ∀ i, i ∉ ([2, 8] : List Nat) → h60[i]? = h[i]? := fun i hi => Eq.trans (b := h51[i]?) (by rw [e61, List.getElem?_set_ne (fun z => hi (by rw [← z]; decide))]) (fr58 i hi)
  refine zx_W_ins (pc' := 67) (L' := [some (.inr (.inr (1, 0))), some (.inl he2), some (.inl 4)]) dX7_day_64 rfl (fun _ => rfl) rfl ?_
  refine zw_goto (tgt := 48) dX7_day_67 rfl ?_
  refine zx_W_ins (pc' := 49) dX7_day_48 rfl (fun _ => rfl) rfl ?_
  refine zw_bi (v := 6) (pc' := 51) dX7_day_49 rfl rfl ?_
  refine zw_icmp_ge (tgt := 70) (pc' := 54) dX7_day_51 rfl rfl (fun g => by first | exact absurd rfl g | exact absurd g (by decide)) (fun _ => ?_)
  refine zx_W_ins (pc' := 55) dX7_day_54 rfl (fun _ => rfl) rfl ?_
  refine zw_gf (pc' := 58) dX7_day_55 rfl rfl c62 rfl ?_
  refine zw_gf (pc' := 61) dX7_day_58 rfl rfl c63 rfl ?_
  refine zx_W_ins (pc' := 62) dX7_day_61 rfl (fun _ => rfl) rfl ?_
  refine zw_ic (v := 0) (pc' := 63) dX7_day_62 rfl rfl ?_
  refine zw_ias (pc' := 64) dX7_day_63 rfl c64 (zi_in (by have := l66; omega)) ?_
  obtain ⟨h69, e70⟩ : ∃ z, z = h60.set 8 (.inr (0, .inl (((((f8_3.set (0 : Int32).toNatClampNeg 0).set (1 : Int32).toNatClampNeg 0).set (2 : Int32).toNatClampNeg 0).set (3 : Int32).toNatClampNeg 0).set (4 : Int32).toNatClampNeg 0))) := ⟨_, rfl⟩
  rw [← e70]
  have c71 : h69[0]? = some (.inl (7, [.inr (.inr (1, 1)), .inr (.inr (1, 2)), .inr (.inr (1, 9)), .inr (.inr (1, 16)), .inr (.inr (1, 18)), .inr (.inr (1, 21)), .inr (.inr (1, 35)), .inr (.inr (1, 44)), .inr (.inr (1, 46)), .inl it1, .inl lf1])) := by rw [e70, List.getElem?_set_ne (by first | decide | omega)]; exact c62
  have c72 : h69[2]? = some (.inl (5, [.inr (.inr (1, 3)), .inr (.inr (1, 8)), .inl bg2, .inl mo2, .inl mo2, .inl na2, .inl 0, .inl bi2, .inl ra2, .inl wo2, .inl 0, .inl 0, .inl se2])) := by rw [e70, List.getElem?_set_ne (by first | decide | omega)]; exact c63
  have c73 : h69[8]? = some (.inr (0, .inl (((((f8_3.set (0 : Int32).toNatClampNeg 0).set (1 : Int32).toNatClampNeg 0).set (2 : Int32).toNatClampNeg 0).set (3 : Int32).toNatClampNeg 0).set (4 : Int32).toNatClampNeg 0))) := by rw [e70, List.getElem?_set_self (List.getElem?_eq_some_iff.mp c64).1]
  have hI74 : zx_I h69 := by rw [e70]; exact zi_set hI65 (show zc_row 6 _ from ⟨_, rfl, by rw [List.length_set]; exact l66⟩) (by decide) (by decide)
  have l75 := (List.length_set (as := ((((f8_3.set (0 : Int32).toNatClampNeg 0).set (1 : Int32).toNatClampNeg 0).set (2 : Int32).toNatClampNeg 0).set (3 : Int32).toNatClampNeg 0)) (i := (4 : Int32).toNatClampNeg) (a := 0)).trans l66
  have fr76 : ∀ i, i ∉ ([2, 8] : List Nat) → h69[i]? = h[i]? := fun i hi => Eq.trans (b := h60[i]?) (by rw [e70, List.getElem?_set_ne (fun z => hi (by rw [← z]; decide))]) (fr67 i hi)
  refine zx_W_ins (pc' := 67) (L' := [some (.inr (.inr (1, 0))), some (.inl he2), some (.inl 5)]) dX7_day_64 rfl (fun _ => rfl) rfl ?_
  refine zw_goto (tgt := 48) dX7_day_67 rfl ?_
  refine zx_W_ins (pc' := 49) dX7_day_48 rfl (fun _ => rfl) rfl ?_
  refine zw_bi (v := 6) (pc' := 51) dX7_day_49 rfl rfl ?_
  refine zw_icmp_ge (tgt := 70) (pc' := 54) dX7_day_51 rfl rfl (fun g => by first | exact absurd rfl g | exact absurd g (by decide)) (fun _ => ?_)
  refine zx_W_ins (pc' := 55) dX7_day_54 rfl (fun _ => rfl) rfl ?_
  refine zw_gf (pc' := 58) dX7_day_55 rfl rfl c71 rfl ?_
  refine zw_gf (pc' := 61) dX7_day_58 rfl rfl c72 rfl ?_
  refine zx_W_ins (pc' := 62) dX7_day_61 rfl (fun _ => rfl) rfl ?_
  refine zw_ic (v := 0) (pc' := 63) dX7_day_62 rfl rfl ?_
  refine zw_ias (pc' := 64) dX7_day_63 rfl c73 (zi_in (by have := l75; omega)) ?_
  obtain ⟨h78, e79⟩ : ∃ z, z = h69.set 8 (.inr (0, .inl ((((((f8_3.set (0 : Int32).toNatClampNeg 0).set (1 : Int32).toNatClampNeg 0).set (2 : Int32).toNatClampNeg 0).set (3 : Int32).toNatClampNeg 0).set (4 : Int32).toNatClampNeg 0).set (5 : Int32).toNatClampNeg 0))) := ⟨_, rfl⟩
  rw [← e79]
  have c80 : h78[0]? = some (.inl (7, [.inr (.inr (1, 1)), .inr (.inr (1, 2)), .inr (.inr (1, 9)), .inr (.inr (1, 16)), .inr (.inr (1, 18)), .inr (.inr (1, 21)), .inr (.inr (1, 35)), .inr (.inr (1, 44)), .inr (.inr (1, 46)), .inl it1, .inl lf1])) := by rw [e79, List.getElem?_set_ne (by first | decide | omega)]; exact c71
  have c81 : h78[2]? = some (.inl (5, [.inr (.inr (1, 3)), .inr (.inr (1, 8)), .inl bg2, .inl mo2, .inl mo2, .inl na2, .inl 0, .inl bi2, .inl ra2, .inl wo2, .inl 0, .inl 0, .inl se2])) := by rw [e79, List.getElem?_set_ne (by first | decide | omega)]; exact c72
  have c82 : h78[8]? = some (.inr (0, .inl ((((((f8_3.set (0 : Int32).toNatClampNeg 0).set (1 : Int32).toNatClampNeg 0).set (2 : Int32).toNatClampNeg 0).set (3 : Int32).toNatClampNeg 0).set (4 : Int32).toNatClampNeg 0).set (5 : Int32).toNatClampNeg 0))) := by rw [e79, List.getElem?_set_self (List.getElem?_eq_some_iff.mp c73).1]
  have hI83 : zx_I h78 := by rw [e79]; exact zi_set hI74 (show zc_row 6 _ from ⟨_, rfl, by rw [List.length_set]; exact l75⟩) (by decide) (by decide)
  have l84 := (List.length_set (as := (((((f8_3.set (0 : Int32).toNatClampNeg 0).set (1 : Int32).toNatClampNeg 0).set (2 : Int32).toNatClampNeg 0).set (3 : Int32).toNatClampNeg 0).set (4 : Int32).toNatClampNeg 0)) (i := (5 : Int32).toNatClampNeg) (a := 0)).trans l75
  have fr85 : ∀ i, i ∉ ([2, 8] : List Nat) → h78[i]? = h[i]? := fun i hi => Eq.trans (b := h69[i]?) (by rw [e79, List.getElem?_set_ne (fun z => hi (by rw [← z]; decide))]) (fr76 i hi)
  refine zx_W_ins (pc' := 67) (L' := [some (.inr (.inr (1, 0))), some (.inl he2), some (.inl 6)]) dX7_day_64 rfl (fun _ => rfl) rfl ?_
  refine zw_goto (tgt := 48) dX7_day_67 rfl ?_
  refine zx_W_ins (pc' := 49) dX7_day_48 rfl (fun _ => rfl) rfl ?_
  refine zw_bi (v := 6) (pc' := 51) dX7_day_49 rfl rfl ?_
  refine zw_icmp_ge (tgt := 70) (pc' := 54) dX7_day_51 rfl rfl (fun _ => ?_) (fun g => by first | exact absurd rfl g | exact absurd g (by decide))
  refine zx_W_ins (pc' := 71) dX7_day_70 rfl (fun _ => rfl) rfl ?_
  refine zw_iret dX7_day_71 rfl rfl ?_
  exact hq _ h78 hI83 fr85
def zt_108 : zx_MT := (7, yX7_status, cX7_status, 2, (some FieldType.int), 1, 0)
theorem zm_108 : zx_m 108 = zt_108 := rfl
theorem dX7_status_0 : decode cX7_status 0 = .ok (.iload_n 1, 1) := by decide +kernel
theorem dX7_status_1 : decode cX7_status 1 = .ok (.bipush 6, 2) := by decide +kernel
theorem dX7_status_3 : decode cX7_status 3 = .ok (.if_icmp .lt 21, 3) := by decide +kernel
theorem dX7_status_6 : decode cX7_status 6 = .ok (.iload_n 1, 1) := by decide +kernel
theorem dX7_status_7 : decode cX7_status 7 = .ok (.bipush 11, 2) := by decide +kernel
theorem dX7_status_9 : decode cX7_status 9 = .ok (.if_icmp .ge 15, 3) := by decide +kernel
theorem dX7_status_12 : decode cX7_status 12 = .ok (.aload_n 0, 1) := by decide +kernel
theorem dX7_status_13 : decode cX7_status 13 = .ok (.getfield 23, 3) := by decide +kernel
theorem dX7_status_16 : decode cX7_status 16 = .ok (.iload_n 1, 1) := by decide +kernel
theorem dX7_status_17 : decode cX7_status 17 = .ok (.bipush 6, 2) := by decide +kernel
theorem dX7_status_19 : decode cX7_status 19 = .ok (.isub, 1) := by decide +kernel
theorem dX7_status_20 : decode cX7_status 20 = .ok (.invokevirtual 183, 3) := by decide +kernel
theorem dX7_status_23 : decode cX7_status 23 = .ok (.ireturn, 1) := by decide +kernel
theorem dX7_status_24 : decode cX7_status 24 = .ok (.iload_n 1, 1) := by decide +kernel
theorem dX7_status_25 : decode cX7_status 25 = .ok (.bipush 11, 2) := by decide +kernel
theorem dX7_status_27 : decode cX7_status 27 = .ok (.if_icmp .lt 19, 3) := by decide +kernel
theorem dX7_status_30 : decode cX7_status 30 = .ok (.iload_n 1, 1) := by decide +kernel
theorem dX7_status_31 : decode cX7_status 31 = .ok (.bipush 18, 2) := by decide +kernel
theorem dX7_status_33 : decode cX7_status 33 = .ok (.if_icmp .ge 13, 3) := by decide +kernel
theorem dX7_status_36 : decode cX7_status 36 = .ok (.aload_n 0, 1) := by decide +kernel
theorem dX7_status_37 : decode cX7_status 37 = .ok (.getfield 65, 3) := by decide +kernel
theorem dX7_status_40 : decode cX7_status 40 = .ok (.iload_n 1, 1) := by decide +kernel
theorem dX7_status_41 : decode cX7_status 41 = .ok (.bipush 10, 2) := by decide +kernel
theorem dX7_status_43 : decode cX7_status 43 = .ok (.isub, 1) := by decide +kernel
theorem dX7_status_44 : decode cX7_status 44 = .ok (.iaload, 1) := by decide +kernel
theorem dX7_status_45 : decode cX7_status 45 = .ok (.ireturn, 1) := by decide +kernel
theorem dX7_status_46 : decode cX7_status 46 = .ok (.iload_n 1, 1) := by decide +kernel
theorem dX7_status_47 : decode cX7_status 47 = .ok (.tableswitch 183 0 20 #[97, 108, 119, 127, 135, 143, 183, 183, 183, 183, 183, 183, 183, 183, 183, 183, 183, 183, 151, 159, 167], 97) := by decide +kernel
theorem dX7_status_144 : decode cX7_status 144 = .ok (.aload_n 0, 1) := by decide +kernel
theorem dX7_status_145 : decode cX7_status 145 = .ok (.getfield 23, 3) := by decide +kernel
theorem dX7_status_148 : decode cX7_status 148 = .ok (.getfield 30, 3) := by decide +kernel
theorem dX7_status_151 : decode cX7_status 151 = .ok (.getfield 153, 3) := by decide +kernel
theorem dX7_status_154 : decode cX7_status 154 = .ok (.ireturn, 1) := by decide +kernel
theorem dX7_status_155 : decode cX7_status 155 = .ok (.aload_n 0, 1) := by decide +kernel
theorem dX7_status_156 : decode cX7_status 156 = .ok (.getfield 23, 3) := by decide +kernel
theorem dX7_status_159 : decode cX7_status 159 = .ok (.getfield 30, 3) := by decide +kernel
theorem dX7_status_162 : decode cX7_status 162 = .ok (.getfield 146, 3) := by decide +kernel
theorem dX7_status_165 : decode cX7_status 165 = .ok (.ireturn, 1) := by decide +kernel
theorem dX7_status_166 : decode cX7_status 166 = .ok (.aload_n 0, 1) := by decide +kernel
theorem dX7_status_167 : decode cX7_status 167 = .ok (.getfield 23, 3) := by decide +kernel
theorem dX7_status_170 : decode cX7_status 170 = .ok (.getfield 221, 3) := by decide +kernel
theorem dX7_status_173 : decode cX7_status 173 = .ok (.ireturn, 1) := by decide +kernel
theorem dX7_status_174 : decode cX7_status 174 = .ok (.aload_n 0, 1) := by decide +kernel
theorem dX7_status_175 : decode cX7_status 175 = .ok (.getfield 23, 3) := by decide +kernel
theorem dX7_status_178 : decode cX7_status 178 = .ok (.getfield 230, 3) := by decide +kernel
theorem dX7_status_181 : decode cX7_status 181 = .ok (.ireturn, 1) := by decide +kernel
theorem dX7_status_182 : decode cX7_status 182 = .ok (.aload_n 0, 1) := by decide +kernel
theorem dX7_status_183 : decode cX7_status 183 = .ok (.getfield 23, 3) := by decide +kernel
theorem dX7_status_186 : decode cX7_status 186 = .ok (.getfield 277, 3) := by decide +kernel
theorem dX7_status_189 : decode cX7_status 189 = .ok (.ireturn, 1) := by decide +kernel
theorem dX7_status_190 : decode cX7_status 190 = .ok (.aload_n 0, 1) := by decide +kernel
theorem dX7_status_191 : decode cX7_status 191 = .ok (.getfield 23, 3) := by decide +kernel
theorem dX7_status_194 : decode cX7_status 194 = .ok (.getfield 304, 3) := by decide +kernel
theorem dX7_status_197 : decode cX7_status 197 = .ok (.ireturn, 1) := by decide +kernel
theorem dX7_status_198 : decode cX7_status 198 = .ok (.aload_n 0, 1) := by decide +kernel
theorem dX7_status_199 : decode cX7_status 199 = .ok (.getfield 23, 3) := by decide +kernel
theorem dX7_status_202 : decode cX7_status 202 = .ok (.getfield 310, 3) := by decide +kernel
theorem dX7_status_205 : decode cX7_status 205 = .ok (.ireturn, 1) := by decide +kernel
theorem dX7_status_206 : decode cX7_status 206 = .ok (.aload_n 0, 1) := by decide +kernel
theorem dX7_status_207 : decode cX7_status 207 = .ok (.getfield 61, 3) := by decide +kernel
theorem dX7_status_210 : decode cX7_status 210 = .ok (.getfield 326, 3) := by decide +kernel
theorem dX7_status_213 : decode cX7_status 213 = .ok (.ireturn, 1) := by decide +kernel
theorem dX7_status_214 : decode cX7_status 214 = .ok (.aload_n 0, 1) := by decide +kernel
theorem dX7_status_215 : decode cX7_status 215 = .ok (.getfield 23, 3) := by decide +kernel
theorem dX7_status_218 : decode cX7_status 218 = .ok (.invokevirtual 136, 3) := by decide +kernel
theorem dX7_status_221 : decode cX7_status 221 = .ok (.ifCond .eq 7, 3) := by decide +kernel
theorem dX7_status_224 : decode cX7_status 224 = .ok (.iconst 1, 1) := by decide +kernel
theorem dX7_status_225 : decode cX7_status 225 = .ok (.goto 4, 3) := by decide +kernel
theorem dX7_status_228 : decode cX7_status 228 = .ok (.iconst 0, 1) := by decide +kernel
theorem dX7_status_229 : decode cX7_status 229 = .ok (.ireturn, 1) := by decide +kernel
theorem dX7_status_230 : decode cX7_status 230 = .ok (.iconst (-1), 1) := by decide +kernel
theorem dX7_status_231 : decode cX7_status 231 = .ok (.ireturn, 1) := by decide +kernel
theorem zc_108 {d : Nat} {h : List zx_C} {w : Int32} {Q : Option zx_V → List zx_C → Prop} (hI : zx_I h)    (hq : ∀ (v : Int32) (h2 : List zx_C), zx_I h2 → (∀ i, i ∉ ([] : List Nat) → h2[i]? = h[i]?) → Q (some (.inl v)) h2) : zx_M (d + 1) 108 [.inr (.inr (1, 0)), .inl w] h Q := by
  have el_m1 : ((-1) : Int32).toInt = -1 := by decide
  have el_0 : (0 : Int32).toInt = 0 := by decide
  have el_1 : (1 : Int32).toInt = 1 := by decide
  have el_6 : (6 : Int32).toInt = 6 := by decide
  have el_10 : (10 : Int32).toInt = 10 := by decide
  have el_11 : (11 : Int32).toInt = 11 := by decide
  have el_18 : (18 : Int32).toInt = 18 := by decide
  obtain ⟨x1, c0_1, it1, lf1, rfl, hit1⟩ := zi_g hI 0 (by decide)
  obtain ⟨x2, c2_2, bg2, mo2, le2, na2, on2, bi2, ra2, wo2, he2, mi2, se2, rfl, hh2, hk2⟩ := zi_g hI 2 (by decide)
  obtain ⟨x3, c3_3, fu3, pe3, rfl, hf3, hg3, hp3, hq3⟩ := zi_g hI 3 (by decide)
  obtain ⟨x4, c44_4, rn4, ow4, nu4, tt4, rfl, hr4, hs4⟩ := zi_g hI 44 (by decide)
  obtain ⟨x5, c46_5, f46_5, rfl, l46_5⟩ := zi_g hI 46 (by decide)
  have fr0 : ∀ i, i ∉ ([] : List Nat) → h[i]? = h[i]? := fun _ _ => rfl
  have e10 : (10 : Int32).toInt = 10 := rfl
  have es := fb_subI (x := w) (y := 10)
  refine zx_M_of (Nat.le_of_ble_eq_true rfl) zm_108 (L := [some (.inr (.inr (1, 0))), some (.inl w)]) rfl ?_
  refine zx_W_ins (pc' := 1) dX7_status_0 rfl (fun _ => rfl) rfl ?_
  refine zw_bi (v := 6) (pc' := 3) dX7_status_1 rfl rfl ?_
  refine zw_icmp_lt (tgt := 24) (pc' := 6) dX7_status_3 rfl rfl (fun g6 => ?_) (fun g6 => ?_)
  · refine zx_W_ins (pc' := 25) dX7_status_24 rfl (fun _ => rfl) rfl ?_
    refine zw_bi (v := 11) (pc' := 27) dX7_status_25 rfl rfl ?_
    refine zw_icmp_lt (tgt := 46) (pc' := 30) dX7_status_27 rfl rfl (fun g7 => ?_) (fun g7 => ?_)
    · refine zx_W_ins (pc' := 47) dX7_status_46 rfl (fun _ => rfl) rfl ?_
      refine zw_tsc (tgd := 230) dX7_status_47 rfl [144, 155, 166, 174, 182, 190, 230, 230, 230, 230, 230, 230, 230, 230, 230, 230, 230, 230, 198, 206, 214] (by decide) (by decide) (fun g8 => ?_) (zl_cons (fun g8 => ?_) (zl_cons (fun g8 => ?_) (zl_cons (fun g8 => ?_) (zl_cons (fun g8 => ?_) (zl_cons (fun g8 => ?_) (zl_cons (fun g8 => ?_) (zl_cons (fun g8 => ?_) (zl_cons (fun g8 => ?_) (zl_cons (fun g8 => ?_) (zl_cons (fun g8 => ?_) (zl_cons (fun g8 => ?_) (zl_cons (fun g8 => ?_) (zl_cons (fun g8 => ?_) (zl_cons (fun g8 => ?_) (zl_cons (fun g8 => ?_) (zl_cons (fun g8 => ?_) (zl_cons (fun g8 => ?_) (zl_cons (fun g8 => ?_) (zl_cons (fun g8 => ?_) (zl_cons (fun g8 => ?_) (zl_cons (fun g8 => ?_) (zl_nil))))))))))))))))))))))
      · refine zw_ic (v := (-1)) (pc' := 231) dX7_status_230 rfl rfl ?_
        refine zw_iret dX7_status_231 rfl rfl ?_
        exact hq _ h hI fr0
      · refine zx_W_ins (pc' := 145) dX7_status_144 rfl (fun _ => rfl) rfl ?_
        refine zw_gf (pc' := 148) dX7_status_145 rfl rfl c0_1 rfl ?_
        refine zw_gf (pc' := 151) dX7_status_148 rfl rfl c2_2 rfl ?_
        refine zw_gf (pc' := 154) dX7_status_151 rfl rfl c3_3 rfl ?_
        refine zw_iret dX7_status_154 rfl rfl ?_
        exact hq _ h hI fr0
      · refine zx_W_ins (pc' := 156) dX7_status_155 rfl (fun _ => rfl) rfl ?_
        refine zw_gf (pc' := 159) dX7_status_156 rfl rfl c0_1 rfl ?_
        refine zw_gf (pc' := 162) dX7_status_159 rfl rfl c2_2 rfl ?_
        refine zw_gf (pc' := 165) dX7_status_162 rfl rfl c3_3 rfl ?_
        refine zw_iret dX7_status_165 rfl rfl ?_
        exact hq _ h hI fr0
      · refine zx_W_ins (pc' := 167) dX7_status_166 rfl (fun _ => rfl) rfl ?_
        refine zw_gf (pc' := 170) dX7_status_167 rfl rfl c0_1 rfl ?_
        refine zw_gf (pc' := 173) dX7_status_170 rfl rfl c2_2 rfl ?_
        refine zw_iret dX7_status_173 rfl rfl ?_
        exact hq _ h hI fr0
      · refine zx_W_ins (pc' := 175) dX7_status_174 rfl (fun _ => rfl) rfl ?_
        refine zw_gf (pc' := 178) dX7_status_175 rfl rfl c0_1 rfl ?_
        refine zw_gf (pc' := 181) dX7_status_178 rfl rfl c2_2 rfl ?_
        refine zw_iret dX7_status_181 rfl rfl ?_
        exact hq _ h hI fr0
      · refine zx_W_ins (pc' := 183) dX7_status_182 rfl (fun _ => rfl) rfl ?_
        refine zw_gf (pc' := 186) dX7_status_183 rfl rfl c0_1 rfl ?_
        refine zw_gf (pc' := 189) dX7_status_186 rfl rfl c2_2 rfl ?_
        refine zw_iret dX7_status_189 rfl rfl ?_
        exact hq _ h hI fr0
      · refine zx_W_ins (pc' := 191) dX7_status_190 rfl (fun _ => rfl) rfl ?_
        refine zw_gf (pc' := 194) dX7_status_191 rfl rfl c0_1 rfl ?_
        refine zw_gf (pc' := 197) dX7_status_194 rfl rfl c2_2 rfl ?_
        refine zw_iret dX7_status_197 rfl rfl ?_
        exact hq _ h hI fr0
      · refine zw_ic (v := (-1)) (pc' := 231) dX7_status_230 rfl rfl ?_
        refine zw_iret dX7_status_231 rfl rfl ?_
        exact hq _ h hI fr0
      · refine zw_ic (v := (-1)) (pc' := 231) dX7_status_230 rfl rfl ?_
        refine zw_iret dX7_status_231 rfl rfl ?_
        exact hq _ h hI fr0
      · refine zw_ic (v := (-1)) (pc' := 231) dX7_status_230 rfl rfl ?_
        refine zw_iret dX7_status_231 rfl rfl ?_
        exact hq _ h hI fr0
      · refine zw_ic (v := (-1)) (pc' := 231) dX7_status_230 rfl rfl ?_
        refine zw_iret dX7_status_231 rfl rfl ?_
        exact hq _ h hI fr0
      · refine zw_ic (v := (-1)) (pc' := 231) dX7_status_230 rfl rfl ?_
        refine zw_iret dX7_status_231 rfl rfl ?_
        exact hq _ h hI fr0
      · refine zw_ic (v := (-1)) (pc' := 231) dX7_status_230 rfl rfl ?_
        refine zw_iret dX7_status_231 rfl rfl ?_
        exact hq _ h hI fr0
      · refine zw_ic (v := (-1)) (pc' := 231) dX7_status_230 rfl rfl ?_
        refine zw_iret dX7_status_231 rfl rfl ?_
        exact hq _ h hI fr0
      · refine zw_ic (v := (-1)) (pc' := 231) dX7_status_230 rfl rfl ?_
        refine zw_iret dX7_status_231 rfl rfl ?_
        exact hq _ h hI fr0
      · refine zw_ic (v := (-1)) (pc' := 231) dX7_status_230 rfl rfl ?_
        refine zw_iret dX7_status_231 rfl rfl ?_
        exact hq _ h hI fr0
      · refine zw_ic (v := (-1)) (pc' := 231) dX7_status_230 rfl rfl ?_
        refine zw_iret dX7_status_231 rfl rfl ?_
        exact hq _ h hI fr0
      · refine zw_ic (v := (-1)) (pc' := 231) dX7_status_230 rfl rfl ?_
        refine zw_iret dX7_status_231 rfl rfl ?_
        exact hq _ h hI fr0
      · refine zw_ic (v := (-1)) (pc' := 231) dX7_status_230 rfl rfl ?_
        refine zw_iret dX7_status_231 rfl rfl ?_
        exact hq _ h hI fr0
      · refine zx_W_ins (pc' := 199) dX7_status_198 rfl (fun _ => rfl) rfl ?_
        refine zw_gf (pc' := 202) dX7_status_199 rfl rfl c0_1 rfl ?_
        refine zw_gf (pc' := 205) dX7_status_202 rfl rfl c2_2 rfl ?_
        refine zw_iret dX7_status_205 rfl rfl ?_
        exact hq _ h hI fr0
      · refine zx_W_ins (pc' := 207) dX7_status_206 rfl (fun _ => rfl) rfl ?_
        refine zw_gf (pc' := 210) dX7_status_207 rfl rfl c0_1 rfl ?_
        refine zw_gf (pc' := 213) dX7_status_210 rfl rfl c44_4 rfl ?_
        refine zw_iret dX7_status_213 rfl rfl ?_
        exact hq _ h hI fr0
      · refine zx_W_ins (pc' := 215) dX7_status_214 rfl (fun _ => rfl) rfl ?_
        refine zw_gf (pc' := 218) dX7_status_215 rfl rfl c0_1 rfl ?_
        refine zw_iv (k := 48) (pc' := 221) dX7_status_218 rfl rfl rfl rfl c2_2 rfl rfl (zc_48 c2_2 (fun g9 _ => ?_) (fun g9 _ => ?_))
        · show zx_W _ _ _ _ _ _ _ [.inl 1] _ _
          refine zw_if_eq (tgt := 228) (pc' := 224) dX7_status_221 rfl rfl (fun g => by first | exact absurd rfl g | exact absurd g (by decide)) (fun _ => ?_)
          refine zw_ic (v := 1) (pc' := 225) dX7_status_224 rfl rfl ?_
          refine zw_goto (tgt := 229) dX7_status_225 rfl ?_
          refine zw_iret dX7_status_229 rfl rfl ?_
          exact hq _ h hI fr0
        · show zx_W _ _ _ _ _ _ _ [.inl 0] _ _
          refine zw_if_eq (tgt := 228) (pc' := 224) dX7_status_221 rfl rfl (fun _ => ?_) (fun g => by first | exact absurd rfl g | exact absurd g (by decide))
          refine zw_ic (v := 0) (pc' := 229) dX7_status_228 rfl rfl ?_
          refine zw_iret dX7_status_229 rfl rfl ?_
          exact hq _ h hI fr0
    · refine zx_W_ins (pc' := 31) dX7_status_30 rfl (fun _ => rfl) rfl ?_
      refine zw_bi (v := 18) (pc' := 33) dX7_status_31 rfl rfl ?_
      refine zw_icmp_ge (tgt := 46) (pc' := 36) dX7_status_33 rfl rfl (fun g12 => ?_) (fun g12 => ?_)
      · refine zx_W_ins (pc' := 47) dX7_status_46 rfl (fun _ => rfl) rfl ?_
        refine zw_tsc (tgd := 230) dX7_status_47 rfl [144, 155, 166, 174, 182, 190, 230, 230, 230, 230, 230, 230, 230, 230, 230, 230, 230, 230, 198, 206, 214] (by decide) (by decide) (fun g13 => ?_) (zl_cons (fun g13 => ?_) (zl_cons (fun g13 => ?_) (zl_cons (fun g13 => ?_) (zl_cons (fun g13 => ?_) (zl_cons (fun g13 => ?_) (zl_cons (fun g13 => ?_) (zl_cons (fun g13 => ?_) (zl_cons (fun g13 => ?_) (zl_cons (fun g13 => ?_) (zl_cons (fun g13 => ?_) (zl_cons (fun g13 => ?_) (zl_cons (fun g13 => ?_) (zl_cons (fun g13 => ?_) (zl_cons (fun g13 => ?_) (zl_cons (fun g13 => ?_) (zl_cons (fun g13 => ?_) (zl_cons (fun g13 => ?_) (zl_cons (fun g13 => ?_) (zl_cons (fun g13 => ?_) (zl_cons (fun g13 => ?_) (zl_cons (fun g13 => ?_) (zl_nil))))))))))))))))))))))
        · refine zw_ic (v := (-1)) (pc' := 231) dX7_status_230 rfl rfl ?_
          refine zw_iret dX7_status_231 rfl rfl ?_
          exact hq _ h hI fr0
        · refine zx_W_ins (pc' := 145) dX7_status_144 rfl (fun _ => rfl) rfl ?_
          refine zw_gf (pc' := 148) dX7_status_145 rfl rfl c0_1 rfl ?_
          refine zw_gf (pc' := 151) dX7_status_148 rfl rfl c2_2 rfl ?_
          refine zw_gf (pc' := 154) dX7_status_151 rfl rfl c3_3 rfl ?_
          refine zw_iret dX7_status_154 rfl rfl ?_
          exact hq _ h hI fr0
        · refine zx_W_ins (pc' := 156) dX7_status_155 rfl (fun _ => rfl) rfl ?_
          refine zw_gf (pc' := 159) dX7_status_156 rfl rfl c0_1 rfl ?_
          refine zw_gf (pc' := 162) dX7_status_159 rfl rfl c2_2 rfl ?_
          refine zw_gf (pc' := 165) dX7_status_162 rfl rfl c3_3 rfl ?_
          refine zw_iret dX7_status_165 rfl rfl ?_
          exact hq _ h hI fr0
        · refine zx_W_ins (pc' := 167) dX7_status_166 rfl (fun _ => rfl) rfl ?_
          refine zw_gf (pc' := 170) dX7_status_167 rfl rfl c0_1 rfl ?_
          refine zw_gf (pc' := 173) dX7_status_170 rfl rfl c2_2 rfl ?_
          refine zw_iret dX7_status_173 rfl rfl ?_
          exact hq _ h hI fr0
        · refine zx_W_ins (pc' := 175) dX7_status_174 rfl (fun _ => rfl) rfl ?_
          refine zw_gf (pc' := 178) dX7_status_175 rfl rfl c0_1 rfl ?_
          refine zw_gf (pc' := 181) dX7_status_178 rfl rfl c2_2 rfl ?_
          refine zw_iret dX7_status_181 rfl rfl ?_
          exact hq _ h hI fr0
        · refine zx_W_ins (pc' := 183) dX7_status_182 rfl (fun _ => rfl) rfl ?_
          refine zw_gf (pc' := 186) dX7_status_183 rfl rfl c0_1 rfl ?_
          refine zw_gf (pc' := 189) dX7_status_186 rfl rfl c2_2 rfl ?_
          refine zw_iret dX7_status_189 rfl rfl ?_
          exact hq _ h hI fr0
        · refine zx_W_ins (pc' := 191) dX7_status_190 rfl (fun _ => rfl) rfl ?_
          refine zw_gf (pc' := 194) dX7_status_191 rfl rfl c0_1 rfl ?_
          refine zw_gf (pc' := 197) dX7_status_194 rfl rfl c2_2 rfl ?_
          refine zw_iret dX7_status_197 rfl rfl ?_
          exact hq _ h hI fr0
        · refine zw_ic (v := (-1)) (pc' := 231) dX7_status_230 rfl rfl ?_
          refine zw_iret dX7_status_231 rfl rfl ?_
          exact hq _ h hI fr0
        · refine zw_ic (v := (-1)) (pc' := 231) dX7_status_230 rfl rfl ?_
          refine zw_iret dX7_status_231 rfl rfl ?_
          exact hq _ h hI fr0
        · refine zw_ic (v := (-1)) (pc' := 231) dX7_status_230 rfl rfl ?_
          refine zw_iret dX7_status_231 rfl rfl ?_
          exact hq _ h hI fr0
        · refine zw_ic (v := (-1)) (pc' := 231) dX7_status_230 rfl rfl ?_
          refine zw_iret dX7_status_231 rfl rfl ?_
          exact hq _ h hI fr0
        · refine zw_ic (v := (-1)) (pc' := 231) dX7_status_230 rfl rfl ?_
          refine zw_iret dX7_status_231 rfl rfl ?_
          exact hq _ h hI fr0
        · refine zw_ic (v := (-1)) (pc' := 231) dX7_status_230 rfl rfl ?_
          refine zw_iret dX7_status_231 rfl rfl ?_
          exact hq _ h hI fr0
        · refine zw_ic (v := (-1)) (pc' := 231) dX7_status_230 rfl rfl ?_
          refine zw_iret dX7_status_231 rfl rfl ?_
          exact hq _ h hI fr0
        · refine zw_ic (v := (-1)) (pc' := 231) dX7_status_230 rfl rfl ?_
          refine zw_iret dX7_status_231 rfl rfl ?_
          exact hq _ h hI fr0
        · refine zw_ic (v := (-1)) (pc' := 231) dX7_status_230 rfl rfl ?_
          refine zw_iret dX7_status_231 rfl rfl ?_
          exact hq _ h hI fr0
        · refine zw_ic (v := (-1)) (pc' := 231) dX7_status_230 rfl rfl ?_
          refine zw_iret dX7_status_231 rfl rfl ?_
          exact hq _ h hI fr0
        · refine zw_ic (v := (-1)) (pc' := 231) dX7_status_230 rfl rfl ?_
          refine zw_iret dX7_status_231 rfl rfl ?_
          exact hq _ h hI fr0
        · refine zw_ic (v := (-1)) (pc' := 231) dX7_status_230 rfl rfl ?_
          refine zw_iret dX7_status_231 rfl rfl ?_
          exact hq _ h hI fr0
        · refine zx_W_ins (pc' := 199) dX7_status_198 rfl (fun _ => rfl) rfl ?_
          refine zw_gf (pc' := 202) dX7_status_199 rfl rfl c0_1 rfl ?_
          refine zw_gf (pc' := 205) dX7_status_202 rfl rfl c2_2 rfl ?_
          refine zw_iret dX7_status_205 rfl rfl ?_
          exact hq _ h hI fr0
        · refine zx_W_ins (pc' := 207) dX7_status_206 rfl (fun _ => rfl) rfl ?_
          refine zw_gf (pc' := 210) dX7_status_207 rfl rfl c0_1 rfl ?_
          refine zw_gf (pc' := 213) dX7_status_210 rfl rfl c44_4 rfl ?_
          refine zw_iret dX7_status_213 rfl rfl ?_
          exact hq _ h hI fr0
        · refine zx_W_ins (pc' := 215) dX7_status_214 rfl (fun _ => rfl) rfl ?_
          refine zw_gf (pc' := 218) dX7_status_215 rfl rfl c0_1 rfl ?_
          refine zw_iv (k := 48) (pc' := 221) dX7_status_218 rfl rfl rfl rfl c2_2 rfl rfl (zc_48 c2_2 (fun g14 _ => ?_) (fun g14 _ => ?_))
          · show zx_W _ _ _ _ _ _ _ [.inl 1] _ _
            refine zw_if_eq (tgt := 228) (pc' := 224) dX7_status_221 rfl rfl (fun g => by first | exact absurd rfl g | exact absurd g (by decide)) (fun _ => ?_)
            refine zw_ic (v := 1) (pc' := 225) dX7_status_224 rfl rfl ?_
            refine zw_goto (tgt := 229) dX7_status_225 rfl ?_
            refine zw_iret dX7_status_229 rfl rfl ?_
            exact hq _ h hI fr0
          · show zx_W _ _ _ _ _ _ _ [.inl 0] _ _
            refine zw_if_eq (tgt := 228) (pc' := 224) dX7_status_221 rfl rfl (fun _ => ?_) (fun g => by first | exact absurd rfl g | exact absurd g (by decide))
            refine zw_ic (v := 0) (pc' := 229) dX7_status_228 rfl rfl ?_
            refine zw_iret dX7_status_229 rfl rfl ?_
            exact hq _ h hI fr0
      · refine zx_W_ins (pc' := 37) dX7_status_36 rfl (fun _ => rfl) rfl ?_
        refine zw_gf (pc' := 40) dX7_status_37 rfl rfl c0_1 rfl ?_
        refine zx_W_ins (pc' := 41) dX7_status_40 rfl (fun _ => rfl) rfl ?_
        refine zw_bi (v := 10) (pc' := 43) dX7_status_41 rfl rfl ?_
        refine zx_W_ins (pc' := 44) dX7_status_43 rfl (fun _ => rfl) rfl ?_
        refine zw_ial (pc' := 45) dX7_status_44 rfl c46_5 (zi_in (by have := l46_5; omega)) ?_
        refine zw_iret dX7_status_45 rfl rfl ?_
        exact hq _ h hI fr0
  · refine zx_W_ins (pc' := 7) dX7_status_6 rfl (fun _ => rfl) rfl ?_
    refine zw_bi (v := 11) (pc' := 9) dX7_status_7 rfl rfl ?_
    refine zw_icmp_ge (tgt := 24) (pc' := 12) dX7_status_9 rfl rfl (fun g17 => ?_) (fun g17 => ?_)
    · refine zx_W_ins (pc' := 25) dX7_status_24 rfl (fun _ => rfl) rfl ?_
      refine zw_bi (v := 11) (pc' := 27) dX7_status_25 rfl rfl ?_
      refine zw_icmp_lt (tgt := 46) (pc' := 30) dX7_status_27 rfl rfl (fun g18 => ?_) (fun g18 => ?_)
      · refine zx_W_ins (pc' := 47) dX7_status_46 rfl (fun _ => rfl) rfl ?_
        refine zw_tsc (tgd := 230) dX7_status_47 rfl [144, 155, 166, 174, 182, 190, 230, 230, 230, 230, 230, 230, 230, 230, 230, 230, 230, 230, 198, 206, 214] (by decide) (by decide) (fun g19 => ?_) (zl_cons (fun g19 => ?_) (zl_cons (fun g19 => ?_) (zl_cons (fun g19 => ?_) (zl_cons (fun g19 => ?_) (zl_cons (fun g19 => ?_) (zl_cons (fun g19 => ?_) (zl_cons (fun g19 => ?_) (zl_cons (fun g19 => ?_) (zl_cons (fun g19 => ?_) (zl_cons (fun g19 => ?_) (zl_cons (fun g19 => ?_) (zl_cons (fun g19 => ?_) (zl_cons (fun g19 => ?_) (zl_cons (fun g19 => ?_) (zl_cons (fun g19 => ?_) (zl_cons (fun g19 => ?_) (zl_cons (fun g19 => ?_) (zl_cons (fun g19 => ?_) (zl_cons (fun g19 => ?_) (zl_cons (fun g19 => ?_) (zl_cons (fun g19 => ?_) (zl_nil))))))))))))))))))))))
        · refine zw_ic (v := (-1)) (pc' := 231) dX7_status_230 rfl rfl ?_
          refine zw_iret dX7_status_231 rfl rfl ?_
          exact hq _ h hI fr0
        · refine zx_W_ins (pc' := 145) dX7_status_144 rfl (fun _ => rfl) rfl ?_
          refine zw_gf (pc' := 148) dX7_status_145 rfl rfl c0_1 rfl ?_
          refine zw_gf (pc' := 151) dX7_status_148 rfl rfl c2_2 rfl ?_
          refine zw_gf (pc' := 154) dX7_status_151 rfl rfl c3_3 rfl ?_
          refine zw_iret dX7_status_154 rfl rfl ?_
          exact hq _ h hI fr0
        · refine zx_W_ins (pc' := 156) dX7_status_155 rfl (fun _ => rfl) rfl ?_
          refine zw_gf (pc' := 159) dX7_status_156 rfl rfl c0_1 rfl ?_
          refine zw_gf (pc' := 162) dX7_status_159 rfl rfl c2_2 rfl ?_
          refine zw_gf (pc' := 165) dX7_status_162 rfl rfl c3_3 rfl ?_
          refine zw_iret dX7_status_165 rfl rfl ?_
          exact hq _ h hI fr0
        · refine zx_W_ins (pc' := 167) dX7_status_166 rfl (fun _ => rfl) rfl ?_
          refine zw_gf (pc' := 170) dX7_status_167 rfl rfl c0_1 rfl ?_
          refine zw_gf (pc' := 173) dX7_status_170 rfl rfl c2_2 rfl ?_
          refine zw_iret dX7_status_173 rfl rfl ?_
          exact hq _ h hI fr0
        · refine zx_W_ins (pc' := 175) dX7_status_174 rfl (fun _ => rfl) rfl ?_
          refine zw_gf (pc' := 178) dX7_status_175 rfl rfl c0_1 rfl ?_
          refine zw_gf (pc' := 181) dX7_status_178 rfl rfl c2_2 rfl ?_
          refine zw_iret dX7_status_181 rfl rfl ?_
          exact hq _ h hI fr0
        · refine zx_W_ins (pc' := 183) dX7_status_182 rfl (fun _ => rfl) rfl ?_
          refine zw_gf (pc' := 186) dX7_status_183 rfl rfl c0_1 rfl ?_
          refine zw_gf (pc' := 189) dX7_status_186 rfl rfl c2_2 rfl ?_
          refine zw_iret dX7_status_189 rfl rfl ?_
          exact hq _ h hI fr0
        · refine zx_W_ins (pc' := 191) dX7_status_190 rfl (fun _ => rfl) rfl ?_
          refine zw_gf (pc' := 194) dX7_status_191 rfl rfl c0_1 rfl ?_
          refine zw_gf (pc' := 197) dX7_status_194 rfl rfl c2_2 rfl ?_
          refine zw_iret dX7_status_197 rfl rfl ?_
          exact hq _ h hI fr0
        · refine zw_ic (v := (-1)) (pc' := 231) dX7_status_230 rfl rfl ?_
          refine zw_iret dX7_status_231 rfl rfl ?_
          exact hq _ h hI fr0
        · refine zw_ic (v := (-1)) (pc' := 231) dX7_status_230 rfl rfl ?_
          refine zw_iret dX7_status_231 rfl rfl ?_
          exact hq _ h hI fr0
        · refine zw_ic (v := (-1)) (pc' := 231) dX7_status_230 rfl rfl ?_
          refine zw_iret dX7_status_231 rfl rfl ?_
          exact hq _ h hI fr0
        · refine zw_ic (v := (-1)) (pc' := 231) dX7_status_230 rfl rfl ?_
          refine zw_iret dX7_status_231 rfl rfl ?_
          exact hq _ h hI fr0
        · refine zw_ic (v := (-1)) (pc' := 231) dX7_status_230 rfl rfl ?_
          refine zw_iret dX7_status_231 rfl rfl ?_
          exact hq _ h hI fr0
        · refine zw_ic (v := (-1)) (pc' := 231) dX7_status_230 rfl rfl ?_
          refine zw_iret dX7_status_231 rfl rfl ?_
          exact hq _ h hI fr0
        · refine zw_ic (v := (-1)) (pc' := 231) dX7_status_230 rfl rfl ?_
          refine zw_iret dX7_status_231 rfl rfl ?_
          exact hq _ h hI fr0
        · refine zw_ic (v := (-1)) (pc' := 231) dX7_status_230 rfl rfl ?_
          refine zw_iret dX7_status_231 rfl rfl ?_
          exact hq _ h hI fr0
        · refine zw_ic (v := (-1)) (pc' := 231) dX7_status_230 rfl rfl ?_
          refine zw_iret dX7_status_231 rfl rfl ?_
          exact hq _ h hI fr0
        · refine zw_ic (v := (-1)) (pc' := 231) dX7_status_230 rfl rfl ?_
          refine zw_iret dX7_status_231 rfl rfl ?_
          exact hq _ h hI fr0
        · refine zw_ic (v := (-1)) (pc' := 231) dX7_status_230 rfl rfl ?_
          refine zw_iret dX7_status_231 rfl rfl ?_
          exact hq _ h hI fr0
        · refine zw_ic (v := (-1)) (pc' := 231) dX7_status_230 rfl rfl ?_
          refine zw_iret dX7_status_231 rfl rfl ?_
          exact hq _ h hI fr0
        · refine zx_W_ins (pc' := 199) dX7_status_198 rfl (fun _ => rfl) rfl ?_
          refine zw_gf (pc' := 202) dX7_status_199 rfl rfl c0_1 rfl ?_
          refine zw_gf (pc' := 205) dX7_status_202 rfl rfl c2_2 rfl ?_
          refine zw_iret dX7_status_205 rfl rfl ?_
          exact hq _ h hI fr0
        · refine zx_W_ins (pc' := 207) dX7_status_206 rfl (fun _ => rfl) rfl ?_
          refine zw_gf (pc' := 210) dX7_status_207 rfl rfl c0_1 rfl ?_
          refine zw_gf (pc' := 213) dX7_status_210 rfl rfl c44_4 rfl ?_
          refine zw_iret dX7_status_213 rfl rfl ?_
          exact hq _ h hI fr0
        · refine zx_W_ins (pc' := 215) dX7_status_214 rfl (fun _ => rfl) rfl ?_
          refine zw_gf (pc' := 218) dX7_status_215 rfl rfl c0_1 rfl ?_
          refine zw_iv (k := 48) (pc' := 221) dX7_status_218 rfl rfl rfl rfl c2_2 rfl rfl (zc_48 c2_2 (fun g20 _ => ?_) (fun g20 _ => ?_))
          · show zx_W _ _ _ _ _ _ _ [.inl 1] _ _
            refine zw_if_eq (tgt := 228) (pc' := 224) dX7_status_221 rfl rfl (fun g => by first | exact absurd rfl g | exact absurd g (by decide)) (fun _ => ?_)
            refine zw_ic (v := 1) (pc' := 225) dX7_status_224 rfl rfl ?_
            refine zw_goto (tgt := 229) dX7_status_225 rfl ?_
            refine zw_iret dX7_status_229 rfl rfl ?_
            exact hq _ h hI fr0
          · show zx_W _ _ _ _ _ _ _ [.inl 0] _ _
            refine zw_if_eq (tgt := 228) (pc' := 224) dX7_status_221 rfl rfl (fun _ => ?_) (fun g => by first | exact absurd rfl g | exact absurd g (by decide))
            refine zw_ic (v := 0) (pc' := 229) dX7_status_228 rfl rfl ?_
            refine zw_iret dX7_status_229 rfl rfl ?_
            exact hq _ h hI fr0
      · refine zx_W_ins (pc' := 31) dX7_status_30 rfl (fun _ => rfl) rfl ?_
        refine zw_bi (v := 18) (pc' := 33) dX7_status_31 rfl rfl ?_
        refine zw_icmp_ge (tgt := 46) (pc' := 36) dX7_status_33 rfl rfl (fun g23 => ?_) (fun g23 => ?_)
        · refine zx_W_ins (pc' := 47) dX7_status_46 rfl (fun _ => rfl) rfl ?_
          refine zw_tsc (tgd := 230) dX7_status_47 rfl [144, 155, 166, 174, 182, 190, 230, 230, 230, 230, 230, 230, 230, 230, 230, 230, 230, 230, 198, 206, 214] (by decide) (by decide) (fun g24 => ?_) (zl_cons (fun g24 => ?_) (zl_cons (fun g24 => ?_) (zl_cons (fun g24 => ?_) (zl_cons (fun g24 => ?_) (zl_cons (fun g24 => ?_) (zl_cons (fun g24 => ?_) (zl_cons (fun g24 => ?_) (zl_cons (fun g24 => ?_) (zl_cons (fun g24 => ?_) (zl_cons (fun g24 => ?_) (zl_cons (fun g24 => ?_) (zl_cons (fun g24 => ?_) (zl_cons (fun g24 => ?_) (zl_cons (fun g24 => ?_) (zl_cons (fun g24 => ?_) (zl_cons (fun g24 => ?_) (zl_cons (fun g24 => ?_) (zl_cons (fun g24 => ?_) (zl_cons (fun g24 => ?_) (zl_cons (fun g24 => ?_) (zl_cons (fun g24 => ?_) (zl_nil))))))))))))))))))))))
          · refine zw_ic (v := (-1)) (pc' := 231) dX7_status_230 rfl rfl ?_
            refine zw_iret dX7_status_231 rfl rfl ?_
            exact hq _ h hI fr0
          · refine zx_W_ins (pc' := 145) dX7_status_144 rfl (fun _ => rfl) rfl ?_
            refine zw_gf (pc' := 148) dX7_status_145 rfl rfl c0_1 rfl ?_
            refine zw_gf (pc' := 151) dX7_status_148 rfl rfl c2_2 rfl ?_
            refine zw_gf (pc' := 154) dX7_status_151 rfl rfl c3_3 rfl ?_
            refine zw_iret dX7_status_154 rfl rfl ?_
            exact hq _ h hI fr0
          · refine zx_W_ins (pc' := 156) dX7_status_155 rfl (fun _ => rfl) rfl ?_
            refine zw_gf (pc' := 159) dX7_status_156 rfl rfl c0_1 rfl ?_
            refine zw_gf (pc' := 162) dX7_status_159 rfl rfl c2_2 rfl ?_
            refine zw_gf (pc' := 165) dX7_status_162 rfl rfl c3_3 rfl ?_
            refine zw_iret dX7_status_165 rfl rfl ?_
            exact hq _ h hI fr0
          · refine zx_W_ins (pc' := 167) dX7_status_166 rfl (fun _ => rfl) rfl ?_
            refine zw_gf (pc' := 170) dX7_status_167 rfl rfl c0_1 rfl ?_
            refine zw_gf (pc' := 173) dX7_status_170 rfl rfl c2_2 rfl ?_
            refine zw_iret dX7_status_173 rfl rfl ?_
            exact hq _ h hI fr0
          · refine zx_W_ins (pc' := 175) dX7_status_174 rfl (fun _ => rfl) rfl ?_
            refine zw_gf (pc' := 178) dX7_status_175 rfl rfl c0_1 rfl ?_
            refine zw_gf (pc' := 181) dX7_status_178 rfl rfl c2_2 rfl ?_
            refine zw_iret dX7_status_181 rfl rfl ?_
            exact hq _ h hI fr0
          · refine zx_W_ins (pc' := 183) dX7_status_182 rfl (fun _ => rfl) rfl ?_
            refine zw_gf (pc' := 186) dX7_status_183 rfl rfl c0_1 rfl ?_
            refine zw_gf (pc' := 189) dX7_status_186 rfl rfl c2_2 rfl ?_
            refine zw_iret dX7_status_189 rfl rfl ?_
            exact hq _ h hI fr0
          · refine zx_W_ins (pc' := 191) dX7_status_190 rfl (fun _ => rfl) rfl ?_
            refine zw_gf (pc' := 194) dX7_status_191 rfl rfl c0_1 rfl ?_
            refine zw_gf (pc' := 197) dX7_status_194 rfl rfl c2_2 rfl ?_
            refine zw_iret dX7_status_197 rfl rfl ?_
            exact hq _ h hI fr0
          · refine zw_ic (v := (-1)) (pc' := 231) dX7_status_230 rfl rfl ?_
            refine zw_iret dX7_status_231 rfl rfl ?_
            exact hq _ h hI fr0
          · refine zw_ic (v := (-1)) (pc' := 231) dX7_status_230 rfl rfl ?_
            refine zw_iret dX7_status_231 rfl rfl ?_
            exact hq _ h hI fr0
          · refine zw_ic (v := (-1)) (pc' := 231) dX7_status_230 rfl rfl ?_
            refine zw_iret dX7_status_231 rfl rfl ?_
            exact hq _ h hI fr0
          · refine zw_ic (v := (-1)) (pc' := 231) dX7_status_230 rfl rfl ?_
            refine zw_iret dX7_status_231 rfl rfl ?_
            exact hq _ h hI fr0
          · refine zw_ic (v := (-1)) (pc' := 231) dX7_status_230 rfl rfl ?_
            refine zw_iret dX7_status_231 rfl rfl ?_
            exact hq _ h hI fr0
          · refine zw_ic (v := (-1)) (pc' := 231) dX7_status_230 rfl rfl ?_
            refine zw_iret dX7_status_231 rfl rfl ?_
            exact hq _ h hI fr0
          · refine zw_ic (v := (-1)) (pc' := 231) dX7_status_230 rfl rfl ?_
            refine zw_iret dX7_status_231 rfl rfl ?_
            exact hq _ h hI fr0
          · refine zw_ic (v := (-1)) (pc' := 231) dX7_status_230 rfl rfl ?_
            refine zw_iret dX7_status_231 rfl rfl ?_
            exact hq _ h hI fr0
          · refine zw_ic (v := (-1)) (pc' := 231) dX7_status_230 rfl rfl ?_
            refine zw_iret dX7_status_231 rfl rfl ?_
            exact hq _ h hI fr0
          · refine zw_ic (v := (-1)) (pc' := 231) dX7_status_230 rfl rfl ?_
            refine zw_iret dX7_status_231 rfl rfl ?_
            exact hq _ h hI fr0
          · refine zw_ic (v := (-1)) (pc' := 231) dX7_status_230 rfl rfl ?_
            refine zw_iret dX7_status_231 rfl rfl ?_
            exact hq _ h hI fr0
          · refine zw_ic (v := (-1)) (pc' := 231) dX7_status_230 rfl rfl ?_
            refine zw_iret dX7_status_231 rfl rfl ?_
            exact hq _ h hI fr0
          · refine zx_W_ins (pc' := 199) dX7_status_198 rfl (fun _ => rfl) rfl ?_
            refine zw_gf (pc' := 202) dX7_status_199 rfl rfl c0_1 rfl ?_
            refine zw_gf (pc' := 205) dX7_status_202 rfl rfl c2_2 rfl ?_
            refine zw_iret dX7_status_205 rfl rfl ?_
            exact hq _ h hI fr0
          · refine zx_W_ins (pc' := 207) dX7_status_206 rfl (fun _ => rfl) rfl ?_
            refine zw_gf (pc' := 210) dX7_status_207 rfl rfl c0_1 rfl ?_
            refine zw_gf (pc' := 213) dX7_status_210 rfl rfl c44_4 rfl ?_
            refine zw_iret dX7_status_213 rfl rfl ?_
            exact hq _ h hI fr0
          · refine zx_W_ins (pc' := 215) dX7_status_214 rfl (fun _ => rfl) rfl ?_
            refine zw_gf (pc' := 218) dX7_status_215 rfl rfl c0_1 rfl ?_
            refine zw_iv (k := 48) (pc' := 221) dX7_status_218 rfl rfl rfl rfl c2_2 rfl rfl (zc_48 c2_2 (fun g25 _ => ?_) (fun g25 _ => ?_))
            · show zx_W _ _ _ _ _ _ _ [.inl 1] _ _
              refine zw_if_eq (tgt := 228) (pc' := 224) dX7_status_221 rfl rfl (fun g => by first | exact absurd rfl g | exact absurd g (by decide)) (fun _ => ?_)
              refine zw_ic (v := 1) (pc' := 225) dX7_status_224 rfl rfl ?_
              refine zw_goto (tgt := 229) dX7_status_225 rfl ?_
              refine zw_iret dX7_status_229 rfl rfl ?_
              exact hq _ h hI fr0
            · show zx_W _ _ _ _ _ _ _ [.inl 0] _ _
              refine zw_if_eq (tgt := 228) (pc' := 224) dX7_status_221 rfl rfl (fun _ => ?_) (fun g => by first | exact absurd rfl g | exact absurd g (by decide))
              refine zw_ic (v := 0) (pc' := 229) dX7_status_228 rfl rfl ?_
              refine zw_iret dX7_status_229 rfl rfl ?_
              exact hq _ h hI fr0
        · refine zx_W_ins (pc' := 37) dX7_status_36 rfl (fun _ => rfl) rfl ?_
          refine zw_gf (pc' := 40) dX7_status_37 rfl rfl c0_1 rfl ?_
          refine zx_W_ins (pc' := 41) dX7_status_40 rfl (fun _ => rfl) rfl ?_
          refine zw_bi (v := 10) (pc' := 43) dX7_status_41 rfl rfl ?_
          refine zx_W_ins (pc' := 44) dX7_status_43 rfl (fun _ => rfl) rfl ?_
          refine zw_ial (pc' := 45) dX7_status_44 rfl c46_5 (zi_in (by have := l46_5; omega)) ?_
          refine zw_iret dX7_status_45 rfl rfl ?_
          exact hq _ h hI fr0
    · refine zx_W_ins (pc' := 13) dX7_status_12 rfl (fun _ => rfl) rfl ?_
      refine zw_gf (pc' := 16) dX7_status_13 rfl rfl c0_1 rfl ?_
      refine zx_W_ins (pc' := 17) dX7_status_16 rfl (fun _ => rfl) rfl ?_
      refine zw_bi (v := 6) (pc' := 19) dX7_status_17 rfl rfl ?_
      refine zx_W_ins (pc' := 20) dX7_status_19 rfl (fun _ => rfl) rfl ?_
      refine zw_iv (k := 45) (pc' := 23) dX7_status_20 rfl rfl rfl rfl c2_2 rfl rfl (zc_asked_2 hI (fun v28 h29 hI30 fr31 _ => ?_))
      show zx_W _ _ _ _ _ _ _ [.inl v28] _ _
      have fr32 : ∀ i, i ∉ ([] : List Nat) → h29[i]? = h[i]? := fun i hi => Eq.trans (fr31 i (fun z => hi (by first | exact absurd z List.not_mem_nil | (simp only [List.mem_cons, List.not_mem_nil, or_false] at z ⊢; omega)))) (fr0 i hi)
      have c33 : h29[0]? = some (.inl (7, [.inr (.inr (1, 1)), .inr (.inr (1, 2)), .inr (.inr (1, 9)), .inr (.inr (1, 16)), .inr (.inr (1, 18)), .inr (.inr (1, 21)), .inr (.inr (1, 35)), .inr (.inr (1, 44)), .inr (.inr (1, 46)), .inl it1, .inl lf1])) := by rw [fr31 0 (by decide)]; exact c0_1
      have c34 : h29[2]? = some (.inl (5, [.inr (.inr (1, 3)), .inr (.inr (1, 8)), .inl bg2, .inl mo2, .inl le2, .inl na2, .inl on2, .inl bi2, .inl ra2, .inl wo2, .inl he2, .inl mi2, .inl se2])) := by rw [fr31 2 (by decide)]; exact c2_2
      have c35 : h29[3]? = some (.inl (6, [.inr (.inr (1, 4)), .inr (.inr (1, 5)), .inr (.inr (1, 6)), .inr (.inr (1, 7)), .inl fu3, .inl pe3])) := by rw [fr31 3 (by decide)]; exact c3_3
      have c36 : h29[44]? = some (.inl (0, [.inr (.inr (1, 45)), .inl rn4, .inl ow4, .inl nu4, .inl tt4])) := by rw [fr31 44 (by decide)]; exact c44_4
      have c37 : h29[46]? = some (.inr (0, .inl f46_5)) := by rw [fr31 46 (by decide)]; exact c46_5
      refine zw_iret dX7_status_23 rfl rfl ?_
      exact hq _ h29 hI30 fr32
