/-! part 25: more methods that change a cell or two: laid by wip/p2/meths.py -/
def zt_45 : zx_MT := (5, yX5_asked, cX5_asked, 2, (some FieldType.int), 1, 0)
theorem zm_45 : zx_m 45 = zt_45 := rfl
theorem dX5_asked_0 : decode cX5_asked 0 = .ok (.iload_n 1, 1) := by decide +kernel
theorem dX5_asked_1 : decode cX5_asked 1 = .ok (.tableswitch 51 0 3 #[31, 36, 41, 46], 31) := by decide +kernel
theorem dX5_asked_32 : decode cX5_asked 32 = .ok (.aload_n 0, 1) := by decide +kernel
theorem dX5_asked_33 : decode cX5_asked 33 = .ok (.getfield 19, 3) := by decide +kernel
theorem dX5_asked_36 : decode cX5_asked 36 = .ok (.ireturn, 1) := by decide +kernel
theorem dX5_asked_37 : decode cX5_asked 37 = .ok (.aload_n 0, 1) := by decide +kernel
theorem dX5_asked_38 : decode cX5_asked 38 = .ok (.getfield 25, 3) := by decide +kernel
theorem dX5_asked_41 : decode cX5_asked 41 = .ok (.ireturn, 1) := by decide +kernel
theorem dX5_asked_42 : decode cX5_asked 42 = .ok (.aload_n 0, 1) := by decide +kernel
theorem dX5_asked_43 : decode cX5_asked 43 = .ok (.getfield 37, 3) := by decide +kernel
theorem dX5_asked_46 : decode cX5_asked 46 = .ok (.ireturn, 1) := by decide +kernel
theorem dX5_asked_47 : decode cX5_asked 47 = .ok (.aload_n 0, 1) := by decide +kernel
theorem dX5_asked_48 : decode cX5_asked 48 = .ok (.getfield 31, 3) := by decide +kernel
theorem dX5_asked_51 : decode cX5_asked 51 = .ok (.ireturn, 1) := by decide +kernel
theorem dX5_asked_52 : decode cX5_asked 52 = .ok (.aload_n 0, 1) := by decide +kernel
theorem dX5_asked_53 : decode cX5_asked 53 = .ok (.getfield 34, 3) := by decide +kernel
theorem dX5_asked_56 : decode cX5_asked 56 = .ok (.ireturn, 1) := by decide +kernel
theorem zc_asked_2 {d : Nat} {h : List zx_C} {w : Int32} {Q : Option zx_V → List zx_C → Prop} (hI : zx_I h)    (hq : ∀ (v : Int32) (h2 : List zx_C), zx_I h2 → (∀ i, i ∉ ([] : List Nat) → h2[i]? = h[i]?) → Q (some (.inl v)) h2) : zx_M (d) 45 [.inr (.inr (1, 2)), .inl w] h Q := by
  obtain ⟨x1, c2_1, bg1, mo1, le1, na1, on1, bi1, ra1, wo1, he1, mi1, se1, rfl, hh1, hk1⟩ := zi_g hI 2 (by decide)
  have fr0 : ∀ i, i ∉ ([] : List Nat) → h[i]? = h[i]? := fun _ _ => rfl
  refine zx_M_of (Nat.le_of_ble_eq_true rfl) zm_45 (L := [some (.inr (.inr (1, 2))), some (.inl w)]) rfl ?_
  refine zx_W_ins (pc' := 1) dX5_asked_0 rfl (fun _ => rfl) rfl ?_
  refine zw_tsc (tgd := 52) dX5_asked_1 rfl [32, 37, 42, 47] (by decide) (by decide) (fun g2 => ?_) (zl_cons (fun g2 => ?_) (zl_cons (fun g2 => ?_) (zl_cons (fun g2 => ?_) (zl_cons (fun g2 => ?_) (zl_nil)))))
  · refine zx_W_ins (pc' := 53) dX5_asked_52 rfl (fun _ => rfl) rfl ?_
    refine zw_gf (pc' := 56) dX5_asked_53 rfl rfl c2_1 rfl ?_
    refine zw_iret dX5_asked_56 rfl rfl ?_
    exact hq _ h hI fr0
  · refine zx_W_ins (pc' := 33) dX5_asked_32 rfl (fun _ => rfl) rfl ?_
    refine zw_gf (pc' := 36) dX5_asked_33 rfl rfl c2_1 rfl ?_
    refine zw_iret dX5_asked_36 rfl rfl ?_
    exact hq _ h hI fr0
  · refine zx_W_ins (pc' := 38) dX5_asked_37 rfl (fun _ => rfl) rfl ?_
    refine zw_gf (pc' := 41) dX5_asked_38 rfl rfl c2_1 rfl ?_
    refine zw_iret dX5_asked_41 rfl rfl ?_
    exact hq _ h hI fr0
  · refine zx_W_ins (pc' := 43) dX5_asked_42 rfl (fun _ => rfl) rfl ?_
    refine zw_gf (pc' := 46) dX5_asked_43 rfl rfl c2_1 rfl ?_
    refine zw_iret dX5_asked_46 rfl rfl ?_
    exact hq _ h hI fr0
  · refine zx_W_ins (pc' := 48) dX5_asked_47 rfl (fun _ => rfl) rfl ?_
    refine zw_gf (pc' := 51) dX5_asked_48 rfl rfl c2_1 rfl ?_
    refine zw_iret dX5_asked_51 rfl rfl ?_
    exact hq _ h hI fr0
def zt_46 : zx_MT := (5, yX5_become, cX5_become, 3, none, 2, 0)
theorem zm_46 : zx_m 46 = zt_46 := rfl
theorem dX5_become_0 : decode cX5_become 0 = .ok (.iload_n 1, 1) := by decide +kernel
theorem dX5_become_1 : decode cX5_become 1 = .ok (.tableswitch 75 0 3 #[31, 51, 59, 67], 31) := by decide +kernel
theorem dX5_become_32 : decode cX5_become 32 = .ok (.aload_n 0, 1) := by decide +kernel
theorem dX5_become_33 : decode cX5_become 33 = .ok (.iload_n 2, 1) := by decide +kernel
theorem dX5_become_34 : decode cX5_become 34 = .ok (.putfield 19, 3) := by decide +kernel
theorem dX5_become_37 : decode cX5_become 37 = .ok (.aload_n 0, 1) := by decide +kernel
theorem dX5_become_38 : decode cX5_become 38 = .ok (.aload_n 0, 1) := by decide +kernel
theorem dX5_become_39 : decode cX5_become 39 = .ok (.getfield 22, 3) := by decide +kernel
theorem dX5_become_42 : decode cX5_become 42 = .ok (.iload_n 2, 1) := by decide +kernel
theorem dX5_become_43 : decode cX5_become 43 = .ok (.invokestatic 70, 3) := by decide +kernel
theorem dX5_become_46 : decode cX5_become 46 = .ok (.putfield 22, 3) := by decide +kernel
theorem dX5_become_49 : decode cX5_become 49 = .ok (.goto 32, 3) := by decide +kernel
theorem dX5_become_52 : decode cX5_become 52 = .ok (.aload_n 0, 1) := by decide +kernel
theorem dX5_become_53 : decode cX5_become 53 = .ok (.iload_n 2, 1) := by decide +kernel
theorem dX5_become_54 : decode cX5_become 54 = .ok (.putfield 25, 3) := by decide +kernel
theorem dX5_become_57 : decode cX5_become 57 = .ok (.goto 24, 3) := by decide +kernel
theorem dX5_become_60 : decode cX5_become 60 = .ok (.aload_n 0, 1) := by decide +kernel
theorem dX5_become_61 : decode cX5_become 61 = .ok (.iload_n 2, 1) := by decide +kernel
theorem dX5_become_62 : decode cX5_become 62 = .ok (.putfield 37, 3) := by decide +kernel
theorem dX5_become_65 : decode cX5_become 65 = .ok (.goto 16, 3) := by decide +kernel
theorem dX5_become_68 : decode cX5_become 68 = .ok (.aload_n 0, 1) := by decide +kernel
theorem dX5_become_69 : decode cX5_become 69 = .ok (.iload_n 2, 1) := by decide +kernel
theorem dX5_become_70 : decode cX5_become 70 = .ok (.putfield 31, 3) := by decide +kernel
theorem dX5_become_73 : decode cX5_become 73 = .ok (.goto 8, 3) := by decide +kernel
theorem dX5_become_76 : decode cX5_become 76 = .ok (.aload_n 0, 1) := by decide +kernel
theorem dX5_become_77 : decode cX5_become 77 = .ok (.iload_n 2, 1) := by decide +kernel
theorem dX5_become_78 : decode cX5_become 78 = .ok (.putfield 34, 3) := by decide +kernel
theorem dX5_become_81 : decode cX5_become 81 = .ok (.return_, 1) := by decide +kernel
theorem zc_become_2 {d : Nat} {h : List zx_C} {w : Int32} {q : Int32} {Q : Option zx_V → List zx_C → Prop} (hI : zx_I h)    (hq : ∀ (h2 : List zx_C), zx_I h2 → (∀ i, i ∉ ([2] : List Nat) → h2[i]? = h[i]?) → Q none h2) : zx_M (d) 46 [.inr (.inr (1, 2)), .inl w, .inl q] h Q := by
  obtain ⟨x1, c2_1, bg1, mo1, le1, na1, on1, bi1, ra1, wo1, he1, mi1, se1, rfl, hh1, hk1⟩ := zi_g hI 2 (by decide)
  have fr0 : ∀ i, i ∉ ([2] : List Nat) → h[i]? = h[i]? := fun _ _ => rfl
  refine zx_M_of (Nat.le_of_ble_eq_true rfl) zm_46 (L := [some (.inr (.inr (1, 2))), some (.inl w), some (.inl q)]) rfl ?_
  refine zx_W_ins (pc' := 1) dX5_become_0 rfl (fun _ => rfl) rfl ?_
  refine zw_tsc (tgd := 76) dX5_become_1 rfl [32, 52, 60, 68] (by decide) (by decide) (fun g2 => ?_) (zl_cons (fun g2 => ?_) (zl_cons (fun g2 => ?_) (zl_cons (fun g2 => ?_) (zl_cons (fun g2 => ?_) (zl_nil)))))
  · refine zx_W_ins (pc' := 77) dX5_become_76 rfl (fun _ => rfl) rfl ?_
    refine zx_W_ins (pc' := 78) dX5_become_77 rfl (fun _ => rfl) rfl ?_
    refine zw_pf (pc' := 81) dX5_become_78 rfl rfl c2_1 rfl (fs' := [.inr (.inr (1, 3)), .inr (.inr (1, 8)), .inl bg1, .inl mo1, .inl le1, .inl na1, .inl on1, .inl bi1, .inl q, .inl wo1, .inl he1, .inl mi1, .inl se1]) rfl ?_
    obtain ⟨h3, e4⟩ : ∃ z, z = h.set 2 (.inl (5, [.inr (.inr (1, 3)), .inr (.inr (1, 8)), .inl bg1, .inl mo1, .inl le1, .inl na1, .inl on1, .inl bi1, .inl q, .inl wo1, .inl he1, .inl mi1, .inl se1])) := ⟨_, rfl⟩
    rw [← e4]
    have c5 : h3[2]? = some (.inl (5, [.inr (.inr (1, 3)), .inr (.inr (1, 8)), .inl bg1, .inl mo1, .inl le1, .inl na1, .inl on1, .inl bi1, .inl q, .inl wo1, .inl he1, .inl mi1, .inl se1])) := by rw [e4, List.getElem?_set_self (List.getElem?_eq_some_iff.mp c2_1).1]
    have hI6 : zx_I h3 := by rw [e4]; exact zi_set hI (show zc_walk 3 8 _ from ⟨_, _, _, _, _, _, _, _, _, _, _, rfl, by omega, by omega⟩) (by decide) (by decide)
    have fr7 : ∀ i, i ∉ ([2] : List Nat) → h3[i]? = h[i]? := fun i hi => Eq.trans (b := h[i]?) (by rw [e4, List.getElem?_set_ne (fun z => hi (by rw [← z]; decide))]) (fr0 i hi)
    refine zw_vret dX5_become_81 rfl ?_
    exact hq h3 hI6 fr7
  · refine zx_W_ins (pc' := 33) dX5_become_32 rfl (fun _ => rfl) rfl ?_
    refine zx_W_ins (pc' := 34) dX5_become_33 rfl (fun _ => rfl) rfl ?_
    refine zw_pf (pc' := 37) dX5_become_34 rfl rfl c2_1 rfl (fs' := [.inr (.inr (1, 3)), .inr (.inr (1, 8)), .inl bg1, .inl q, .inl le1, .inl na1, .inl on1, .inl bi1, .inl ra1, .inl wo1, .inl he1, .inl mi1, .inl se1]) rfl ?_
    obtain ⟨h8, e9⟩ : ∃ z, z = h.set 2 (.inl (5, [.inr (.inr (1, 3)), .inr (.inr (1, 8)), .inl bg1, .inl q, .inl le1, .inl na1, .inl on1, .inl bi1, .inl ra1, .inl wo1, .inl he1, .inl mi1, .inl se1])) := ⟨_, rfl⟩
    rw [← e9]
    have c10 : h8[2]? = some (.inl (5, [.inr (.inr (1, 3)), .inr (.inr (1, 8)), .inl bg1, .inl q, .inl le1, .inl na1, .inl on1, .inl bi1, .inl ra1, .inl wo1, .inl he1, .inl mi1, .inl se1])) := by rw [e9, List.getElem?_set_self (List.getElem?_eq_some_iff.mp c2_1).1]
    have hI11 : zx_I h8 := by rw [e9]; exact zi_set hI (show zc_walk 3 8 _ from ⟨_, _, _, _, _, _, _, _, _, _, _, rfl, by omega, by omega⟩) (by decide) (by decide)
    have fr12 : ∀ i, i ∉ ([2] : List Nat) → h8[i]? = h[i]? := fun i hi => Eq.trans (b := h[i]?) (by rw [e9, List.getElem?_set_ne (fun z => hi (by rw [← z]; decide))]) (fr0 i hi)
    refine zx_W_ins (pc' := 38) dX5_become_37 rfl (fun _ => rfl) rfl ?_
    refine zx_W_ins (pc' := 39) dX5_become_38 rfl (fun _ => rfl) rfl ?_
    refine zw_gf (pc' := 42) dX5_become_39 rfl rfl c10 rfl ?_
    refine zx_W_ins (pc' := 43) dX5_become_42 rfl (fun _ => rfl) rfl ?_
    refine zw_min (k := 213) (pc' := 46) dX5_become_43 rfl rfl rfl ?_
    refine zw_pf (pc' := 49) dX5_become_46 rfl rfl c10 rfl (fs' := [.inr (.inr (1, 3)), .inr (.inr (1, 8)), .inl bg1, .inl q, .inl (if q < le1 then q else le1), .inl na1, .inl on1, .inl bi1, .inl ra1, .inl wo1, .inl he1, .inl mi1, .inl se1]) rfl ?_
    obtain ⟨h13, e14⟩ : ∃ z, z = h8.set 2 (.inl (5, [.inr (.inr (1, 3)), .inr (.inr (1, 8)), .inl bg1, .inl q, .inl (if q < le1 then q else le1), .inl na1, .inl on1, .inl bi1, .inl ra1, .inl wo1, .inl he1, .inl mi1, .inl se1])) := ⟨_, rfl⟩
    rw [← e14]
    have c15 : h13[2]? = some (.inl (5, [.inr (.inr (1, 3)), .inr (.inr (1, 8)), .inl bg1, .inl q, .inl (if q < le1 then q else le1), .inl na1, .inl on1, .inl bi1, .inl ra1, .inl wo1, .inl he1, .inl mi1, .inl se1])) := by rw [e14, List.getElem?_set_self (List.getElem?_eq_some_iff.mp c10).1]
    have hI16 : zx_I h13 := by rw [e14]; exact zi_set hI11 (show zc_walk 3 8 _ from ⟨_, _, _, _, _, _, _, _, _, _, _, rfl, by omega, by omega⟩) (by decide) (by decide)
    have fr17 : ∀ i, i ∉ ([2] : List Nat) → h13[i]? = h[i]? := fun i hi => Eq.trans (b := h8[i]?) (by rw [e14, List.getElem?_set_ne (fun z => hi (by rw [← z]; decide))]) (fr12 i hi)
    refine zw_goto (tgt := 81) dX5_become_49 rfl ?_
    refine zw_vret dX5_become_81 rfl ?_
    exact hq h13 hI16 fr17
  · refine zx_W_ins (pc' := 53) dX5_become_52 rfl (fun _ => rfl) rfl ?_
    refine zx_W_ins (pc' := 54) dX5_become_53 rfl (fun _ => rfl) rfl ?_
    refine zw_pf (pc' := 57) dX5_become_54 rfl rfl c2_1 rfl (fs' := [.inr (.inr (1, 3)), .inr (.inr (1, 8)), .inl bg1, .inl mo1, .inl le1, .inl q, .inl on1, .inl bi1, .inl ra1, .inl wo1, .inl he1, .inl mi1, .inl se1]) rfl ?_
    obtain ⟨h18, e19⟩ : ∃ z, z = h.set 2 (.inl (5, [.inr (.inr (1, 3)), .inr (.inr (1, 8)), .inl bg1, .inl mo1, .inl le1, .inl q, .inl on1, .inl bi1, .inl ra1, .inl wo1, .inl he1, .inl mi1, .inl se1])) := ⟨_, rfl⟩
    rw [← e19]
    have c20 : h18[2]? = some (.inl (5, [.inr (.inr (1, 3)), .inr (.inr (1, 8)), .inl bg1, .inl mo1, .inl le1, .inl q, .inl on1, .inl bi1, .inl ra1, .inl wo1, .inl he1, .inl mi1, .inl se1])) := by rw [e19, List.getElem?_set_self (List.getElem?_eq_some_iff.mp c2_1).1]
    have hI21 : zx_I h18 := by rw [e19]; exact zi_set hI (show zc_walk 3 8 _ from ⟨_, _, _, _, _, _, _, _, _, _, _, rfl, by omega, by omega⟩) (by decide) (by decide)
    have fr22 : ∀ i, i ∉ ([2] : List Nat) → h18[i]? = h[i]? := fun i hi => Eq.trans (b := h[i]?) (by rw [e19, List.getElem?_set_ne (fun z => hi (by rw [← z]; decide))]) (fr0 i hi)
    refine zw_goto (tgt := 81) dX5_become_57 rfl ?_
    refine zw_vret dX5_become_81 rfl ?_
    exact hq h18 hI21 fr22
  · refine zx_W_ins (pc' := 61) dX5_become_60 rfl (fun _ => rfl) rfl ?_
    refine zx_W_ins (pc' := 62) dX5_become_61 rfl (fun _ => rfl) rfl ?_
    refine zw_pf (pc' := 65) dX5_become_62 rfl rfl c2_1 rfl (fs' := [.inr (.inr (1, 3)), .inr (.inr (1, 8)), .inl bg1, .inl mo1, .inl le1, .inl na1, .inl on1, .inl bi1, .inl ra1, .inl q, .inl he1, .inl mi1, .inl se1]) rfl ?_
    obtain ⟨h23, e24⟩ : ∃ z, z = h.set 2 (.inl (5, [.inr (.inr (1, 3)), .inr (.inr (1, 8)), .inl bg1, .inl mo1, .inl le1, .inl na1, .inl on1, .inl bi1, .inl ra1, .inl q, .inl he1, .inl mi1, .inl se1])) := ⟨_, rfl⟩
    rw [← e24]
    have c25 : h23[2]? = some (.inl (5, [.inr (.inr (1, 3)), .inr (.inr (1, 8)), .inl bg1, .inl mo1, .inl le1, .inl na1, .inl on1, .inl bi1, .inl ra1, .inl q, .inl he1, .inl mi1, .inl se1])) := by rw [e24, List.getElem?_set_self (List.getElem?_eq_some_iff.mp c2_1).1]
    have hI26 : zx_I h23 := by rw [e24]; exact zi_set hI (show zc_walk 3 8 _ from ⟨_, _, _, _, _, _, _, _, _, _, _, rfl, by omega, by omega⟩) (by decide) (by decide)
    have fr27 : ∀ i, i ∉ ([2] : List Nat) → h23[i]? = h[i]? := fun i hi => Eq.trans (b := h[i]?) (by rw [e24, List.getElem?_set_ne (fun z => hi (by rw [← z]; decide))]) (fr0 i hi)
    refine zw_goto (tgt := 81) dX5_become_65 rfl ?_
    refine zw_vret dX5_become_81 rfl ?_
    exact hq h23 hI26 fr27
  · refine zx_W_ins (pc' := 69) dX5_become_68 rfl (fun _ => rfl) rfl ?_
    refine zx_W_ins (pc' := 70) dX5_become_69 rfl (fun _ => rfl) rfl ?_
    refine zw_pf (pc' := 73) dX5_become_70 rfl rfl c2_1 rfl (fs' := [.inr (.inr (1, 3)), .inr (.inr (1, 8)), .inl bg1, .inl mo1, .inl le1, .inl na1, .inl on1, .inl q, .inl ra1, .inl wo1, .inl he1, .inl mi1, .inl se1]) rfl ?_
    obtain ⟨h28, e29⟩ : ∃ z, z = h.set 2 (.inl (5, [.inr (.inr (1, 3)), .inr (.inr (1, 8)), .inl bg1, .inl mo1, .inl le1, .inl na1, .inl on1, .inl q, .inl ra1, .inl wo1, .inl he1, .inl mi1, .inl se1])) := ⟨_, rfl⟩
    rw [← e29]
    have c30 : h28[2]? = some (.inl (5, [.inr (.inr (1, 3)), .inr (.inr (1, 8)), .inl bg1, .inl mo1, .inl le1, .inl na1, .inl on1, .inl q, .inl ra1, .inl wo1, .inl he1, .inl mi1, .inl se1])) := by rw [e29, List.getElem?_set_self (List.getElem?_eq_some_iff.mp c2_1).1]
    have hI31 : zx_I h28 := by rw [e29]; exact zi_set hI (show zc_walk 3 8 _ from ⟨_, _, _, _, _, _, _, _, _, _, _, rfl, by omega, by omega⟩) (by decide) (by decide)
    have fr32 : ∀ i, i ∉ ([2] : List Nat) → h28[i]? = h[i]? := fun i hi => Eq.trans (b := h[i]?) (by rw [e29, List.getElem?_set_ne (fun z => hi (by rw [← z]; decide))]) (fr0 i hi)
    refine zw_goto (tgt := 81) dX5_become_73 rfl ?_
    refine zw_vret dX5_become_81 rfl ?_
    exact hq h28 hI31 fr32
def zt_79 : zx_MT := (7, yX7_ask, cX7_ask, 4, (some FieldType.int), 2, 0)
theorem zm_79 : zx_m 79 = zt_79 := rfl
theorem dX7_ask_0 : decode cX7_ask 0 = .ok (.iload_n 1, 1) := by decide +kernel
theorem dX7_ask_1 : decode cX7_ask 1 = .ok (.ifCond .lt 26, 3) := by decide +kernel
theorem dX7_ask_4 : decode cX7_ask 4 = .ok (.iload_n 1, 1) := by decide +kernel
theorem dX7_ask_5 : decode cX7_ask 5 = .ok (.iconst 5, 1) := by decide +kernel
theorem dX7_ask_6 : decode cX7_ask 6 = .ok (.if_icmp .ge 21, 3) := by decide +kernel
theorem dX7_ask_9 : decode cX7_ask 9 = .ok (.iload_n 2, 1) := by decide +kernel
theorem dX7_ask_10 : decode cX7_ask 10 = .ok (.getstatic 177, 3) := by decide +kernel
theorem dX7_ask_13 : decode cX7_ask 13 = .ok (.iload_n 1, 1) := by decide +kernel
theorem dX7_ask_14 : decode cX7_ask 14 = .ok (.iaload, 1) := by decide +kernel
theorem dX7_ask_15 : decode cX7_ask 15 = .ok (.if_icmp .lt 12, 3) := by decide +kernel
theorem dX7_ask_18 : decode cX7_ask 18 = .ok (.iload_n 2, 1) := by decide +kernel
theorem dX7_ask_19 : decode cX7_ask 19 = .ok (.getstatic 180, 3) := by decide +kernel
theorem dX7_ask_22 : decode cX7_ask 22 = .ok (.iload_n 1, 1) := by decide +kernel
theorem dX7_ask_23 : decode cX7_ask 23 = .ok (.iaload, 1) := by decide +kernel
theorem dX7_ask_24 : decode cX7_ask 24 = .ok (.if_icmp .le 10, 3) := by decide +kernel
theorem dX7_ask_27 : decode cX7_ask 27 = .ok (.aload_n 0, 1) := by decide +kernel
theorem dX7_ask_28 : decode cX7_ask 28 = .ok (.bipush 6, 2) := by decide +kernel
theorem dX7_ask_30 : decode cX7_ask 30 = .ok (.invokevirtual 82, 3) := by decide +kernel
theorem dX7_ask_33 : decode cX7_ask 33 = .ok (.ireturn, 1) := by decide +kernel
theorem dX7_ask_34 : decode cX7_ask 34 = .ok (.aload_n 0, 1) := by decide +kernel
theorem dX7_ask_35 : decode cX7_ask 35 = .ok (.getfield 23, 3) := by decide +kernel
theorem dX7_ask_38 : decode cX7_ask 38 = .ok (.iload_n 1, 1) := by decide +kernel
theorem dX7_ask_39 : decode cX7_ask 39 = .ok (.invokevirtual 183, 3) := by decide +kernel
theorem dX7_ask_42 : decode cX7_ask 42 = .ok (.istore_n 3, 1) := by decide +kernel
theorem dX7_ask_43 : decode cX7_ask 43 = .ok (.aload_n 0, 1) := by decide +kernel
theorem dX7_ask_44 : decode cX7_ask 44 = .ok (.getfield 23, 3) := by decide +kernel
theorem dX7_ask_47 : decode cX7_ask 47 = .ok (.iload_n 1, 1) := by decide +kernel
theorem dX7_ask_48 : decode cX7_ask 48 = .ok (.iload_n 2, 1) := by decide +kernel
theorem dX7_ask_49 : decode cX7_ask 49 = .ok (.invokevirtual 186, 3) := by decide +kernel
theorem dX7_ask_52 : decode cX7_ask 52 = .ok (.iload_n 3, 1) := by decide +kernel
theorem dX7_ask_53 : decode cX7_ask 53 = .ok (.ireturn, 1) := by decide +kernel
theorem zc_79 {d : Nat} {h : List zx_C} {w : Int32} {q : Int32} {Q : Option zx_V → List zx_C → Prop} (hI : zx_I h)    (hq : ∀ (v : Int32) (h2 : List zx_C), zx_I h2 → (∀ i, i ∉ ([2, 46] : List Nat) → h2[i]? = h[i]?) → Q (some (.inl v)) h2) : zx_M (d + 1) 79 [.inr (.inr (1, 0)), .inl w, .inl q] h Q := by
  have el_5 : (5 : Int32).toInt = 5 := by decide
  have el_6 : (6 : Int32).toInt = 6 := by decide
  obtain ⟨x1, c0_1, it1, lf1, rfl, hit1⟩ := zi_g hI 0 (by decide)
  obtain ⟨x2, c2_2, bg2, mo2, le2, na2, on2, bi2, ra2, wo2, he2, mi2, se2, rfl, hh2, hk2⟩ := zi_g hI 2 (by decide)
  have fr0 : ∀ i, i ∉ ([2, 46] : List Nat) → h[i]? = h[i]? := fun _ _ => rfl
  refine zx_M_of (Nat.le_of_ble_eq_true rfl) zm_79 (L := [some (.inr (.inr (1, 0))), some (.inl w), some (.inl q), none]) rfl ?_
  refine zx_W_ins (pc' := 1) dX7_ask_0 rfl (fun _ => rfl) rfl ?_
  refine zw_if_lt (tgt := 27) (pc' := 4) dX7_ask_1 rfl rfl (fun g3 => ?_) (fun g3 => ?_)
  · refine zx_W_ins (pc' := 28) dX7_ask_27 rfl (fun _ => rfl) rfl ?_
    refine zw_bi (v := 6) (pc' := 30) dX7_ask_28 rfl rfl ?_
    refine zw_iv (k := 109) (pc' := 33) dX7_ask_30 rfl rfl rfl rfl c0_1 rfl rfl (zc_109 hI (by omega) (fun v4 h5 hI6 fr7 hvv4 _ => ?_))
    show zx_W _ _ _ _ _ _ _ [.inl v4] _ _
    have fr8 : ∀ i, i ∉ ([2, 46] : List Nat) → h5[i]? = h[i]? := fun i hi => Eq.trans (fr7 i (fun z => hi (by first | exact absurd z List.not_mem_nil | (simp only [List.mem_cons, List.not_mem_nil, or_false] at z ⊢; omega)))) (fr0 i hi)
    have c9 : h5[0]? = some (.inl (7, [.inr (.inr (1, 1)), .inr (.inr (1, 2)), .inr (.inr (1, 9)), .inr (.inr (1, 16)), .inr (.inr (1, 18)), .inr (.inr (1, 21)), .inr (.inr (1, 35)), .inr (.inr (1, 44)), .inr (.inr (1, 46)), .inl it1, .inl lf1])) := by rw [fr7 0 (by decide)]; exact c0_1
    have c10 : h5[2]? = some (.inl (5, [.inr (.inr (1, 3)), .inr (.inr (1, 8)), .inl bg2, .inl mo2, .inl le2, .inl na2, .inl on2, .inl bi2, .inl ra2, .inl wo2, .inl he2, .inl mi2, .inl se2])) := by rw [fr7 2 (by decide)]; exact c2_2
    obtain ⟨x11, c46_11, f46_11, rfl, l46_11⟩ := zi_g hI6 46 (by decide)
    refine zw_iret dX7_ask_33 rfl rfl ?_
    exact hq _ h5 hI6 fr8
  · refine zx_W_ins (pc' := 5) dX7_ask_4 rfl (fun _ => rfl) rfl ?_
    refine zw_ic (v := 5) (pc' := 6) dX7_ask_5 rfl rfl ?_
    refine zw_icmp_ge (tgt := 27) (pc' := 9) dX7_ask_6 rfl rfl (fun g12 => ?_) (fun g12 => ?_)
    · refine zx_W_ins (pc' := 28) dX7_ask_27 rfl (fun _ => rfl) rfl ?_
      refine zw_bi (v := 6) (pc' := 30) dX7_ask_28 rfl rfl ?_
      refine zw_iv (k := 109) (pc' := 33) dX7_ask_30 rfl rfl rfl rfl c0_1 rfl rfl (zc_109 hI (by omega) (fun v13 h14 hI15 fr16 hvv13 _ => ?_))
      show zx_W _ _ _ _ _ _ _ [.inl v13] _ _
      have fr17 : ∀ i, i ∉ ([2, 46] : List Nat) → h14[i]? = h[i]? := fun i hi => Eq.trans (fr16 i (fun z => hi (by first | exact absurd z List.not_mem_nil | (simp only [List.mem_cons, List.not_mem_nil, or_false] at z ⊢; omega)))) (fr0 i hi)
      have c18 : h14[0]? = some (.inl (7, [.inr (.inr (1, 1)), .inr (.inr (1, 2)), .inr (.inr (1, 9)), .inr (.inr (1, 16)), .inr (.inr (1, 18)), .inr (.inr (1, 21)), .inr (.inr (1, 35)), .inr (.inr (1, 44)), .inr (.inr (1, 46)), .inl it1, .inl lf1])) := by rw [fr16 0 (by decide)]; exact c0_1
      have c19 : h14[2]? = some (.inl (5, [.inr (.inr (1, 3)), .inr (.inr (1, 8)), .inl bg2, .inl mo2, .inl le2, .inl na2, .inl on2, .inl bi2, .inl ra2, .inl wo2, .inl he2, .inl mi2, .inl se2])) := by rw [fr16 2 (by decide)]; exact c2_2
      obtain ⟨x20, c46_20, f46_20, rfl, l46_20⟩ := zi_g hI15 46 (by decide)
      refine zw_iret dX7_ask_33 rfl rfl ?_
      exact hq _ h14 hI15 fr17
    · refine zx_W_ins (pc' := 10) dX7_ask_9 rfl (fun _ => rfl) rfl ?_
      refine zw_gs (pc' := 13) dX7_ask_10 rfl rfl (by decide) ?_
      refine zx_W_ins (pc' := 14) dX7_ask_13 rfl (fun _ => rfl) rfl ?_
      refine zw_ials (pc' := 15) dX7_ask_14 rfl ⟨by decide, zi_in (n := 5) (by omega)⟩ ?_
      refine zw_icmp_lt (tgt := 27) (pc' := 18) dX7_ask_15 rfl rfl (fun g21 => ?_) (fun g21 => ?_)
      · refine zx_W_ins (pc' := 28) dX7_ask_27 rfl (fun _ => rfl) rfl ?_
        refine zw_bi (v := 6) (pc' := 30) dX7_ask_28 rfl rfl ?_
        refine zw_iv (k := 109) (pc' := 33) dX7_ask_30 rfl rfl rfl rfl c0_1 rfl rfl (zc_109 hI (by omega) (fun v22 h23 hI24 fr25 hvv22 _ => ?_))
        show zx_W _ _ _ _ _ _ _ [.inl v22] _ _
        have fr26 : ∀ i, i ∉ ([2, 46] : List Nat) → h23[i]? = h[i]? := fun i hi => Eq.trans (fr25 i (fun z => hi (by first | exact absurd z List.not_mem_nil | (simp only [List.mem_cons, List.not_mem_nil, or_false] at z ⊢; omega)))) (fr0 i hi)
        have c27 : h23[0]? = some (.inl (7, [.inr (.inr (1, 1)), .inr (.inr (1, 2)), .inr (.inr (1, 9)), .inr (.inr (1, 16)), .inr (.inr (1, 18)), .inr (.inr (1, 21)), .inr (.inr (1, 35)), .inr (.inr (1, 44)), .inr (.inr (1, 46)), .inl it1, .inl lf1])) := by rw [fr25 0 (by decide)]; exact c0_1
        have c28 : h23[2]? = some (.inl (5, [.inr (.inr (1, 3)), .inr (.inr (1, 8)), .inl bg2, .inl mo2, .inl le2, .inl na2, .inl on2, .inl bi2, .inl ra2, .inl wo2, .inl he2, .inl mi2, .inl se2])) := by rw [fr25 2 (by decide)]; exact c2_2
        obtain ⟨x29, c46_29, f46_29, rfl, l46_29⟩ := zi_g hI24 46 (by decide)
        refine zw_iret dX7_ask_33 rfl rfl ?_
        exact hq _ h23 hI24 fr26
      · refine zx_W_ins (pc' := 19) dX7_ask_18 rfl (fun _ => rfl) rfl ?_
        refine zw_gs (pc' := 22) dX7_ask_19 rfl rfl (by decide) ?_
        refine zx_W_ins (pc' := 23) dX7_ask_22 rfl (fun _ => rfl) rfl ?_
        refine zw_ials (pc' := 24) dX7_ask_23 rfl ⟨by decide, zi_in (n := 5) (by omega)⟩ ?_
        refine zw_icmp_le (tgt := 34) (pc' := 27) dX7_ask_24 rfl rfl (fun g30 => ?_) (fun g30 => ?_)
        · refine zx_W_ins (pc' := 35) dX7_ask_34 rfl (fun _ => rfl) rfl ?_
          refine zw_gf (pc' := 38) dX7_ask_35 rfl rfl c0_1 rfl ?_
          refine zx_W_ins (pc' := 39) dX7_ask_38 rfl (fun _ => rfl) rfl ?_
          refine zw_iv (k := 45) (pc' := 42) dX7_ask_39 rfl rfl rfl rfl c2_2 rfl rfl (zc_asked_2 hI (fun v31 h32 hI33 fr34 _ => ?_))
          show zx_W _ _ _ _ _ _ _ [.inl v31] _ _
          have fr35 : ∀ i, i ∉ ([2, 46] : List Nat) → h32[i]? = h[i]? := fun i hi => Eq.trans (fr34 i (fun z => hi (by first | exact absurd z List.not_mem_nil | (simp only [List.mem_cons, List.not_mem_nil, or_false] at z ⊢; omega)))) (fr0 i hi)
          have c36 : h32[0]? = some (.inl (7, [.inr (.inr (1, 1)), .inr (.inr (1, 2)), .inr (.inr (1, 9)), .inr (.inr (1, 16)), .inr (.inr (1, 18)), .inr (.inr (1, 21)), .inr (.inr (1, 35)), .inr (.inr (1, 44)), .inr (.inr (1, 46)), .inl it1, .inl lf1])) := by rw [fr34 0 (by decide)]; exact c0_1
          have c37 : h32[2]? = some (.inl (5, [.inr (.inr (1, 3)), .inr (.inr (1, 8)), .inl bg2, .inl mo2, .inl le2, .inl na2, .inl on2, .inl bi2, .inl ra2, .inl wo2, .inl he2, .inl mi2, .inl se2])) := by rw [fr34 2 (by decide)]; exact c2_2
          refine zx_W_ins (pc' := 43) (L' := [some (.inr (.inr (1, 0))), some (.inl w), some (.inl q), some (.inl v31)]) dX7_ask_42 rfl (fun _ => rfl) rfl ?_
          refine zx_W_ins (pc' := 44) dX7_ask_43 rfl (fun _ => rfl) rfl ?_
          refine zw_gf (pc' := 47) dX7_ask_44 rfl rfl c36 rfl ?_
          refine zx_W_ins (pc' := 48) dX7_ask_47 rfl (fun _ => rfl) rfl ?_
          refine zx_W_ins (pc' := 49) dX7_ask_48 rfl (fun _ => rfl) rfl ?_
          refine zw_iv (k := 46) (pc' := 52) dX7_ask_49 rfl rfl rfl rfl c37 rfl rfl (zc_become_2 hI33 (fun h39 hI40 fr41 _ => ?_))
          show zx_W _ _ _ _ _ _ _ [] _ _
          have fr42 : ∀ i, i ∉ ([2, 46] : List Nat) → h39[i]? = h[i]? := fun i hi => Eq.trans (fr41 i (fun z => hi (by first | exact absurd z List.not_mem_nil | (simp only [List.mem_cons, List.not_mem_nil, or_false] at z ⊢; omega)))) (fr35 i hi)
          have c43 : h39[0]? = some (.inl (7, [.inr (.inr (1, 1)), .inr (.inr (1, 2)), .inr (.inr (1, 9)), .inr (.inr (1, 16)), .inr (.inr (1, 18)), .inr (.inr (1, 21)), .inr (.inr (1, 35)), .inr (.inr (1, 44)), .inr (.inr (1, 46)), .inl it1, .inl lf1])) := by rw [fr41 0 (by decide)]; exact c36
          obtain ⟨x44, c2_44, bg44, mo44, le44, na44, on44, bi44, ra44, wo44, he44, mi44, se44, rfl, hh44, hk44⟩ := zi_g hI40 2 (by decide)
          refine zx_W_ins (pc' := 53) dX7_ask_52 rfl (fun _ => rfl) rfl ?_
          refine zw_iret dX7_ask_53 rfl rfl ?_
          exact hq _ h39 hI40 fr42
        · refine zx_W_ins (pc' := 28) dX7_ask_27 rfl (fun _ => rfl) rfl ?_
          refine zw_bi (v := 6) (pc' := 30) dX7_ask_28 rfl rfl ?_
          refine zw_iv (k := 109) (pc' := 33) dX7_ask_30 rfl rfl rfl rfl c0_1 rfl rfl (zc_109 hI (by omega) (fun v45 h46 hI47 fr48 hvv45 _ => ?_))
          show zx_W _ _ _ _ _ _ _ [.inl v45] _ _
          have fr49 : ∀ i, i ∉ ([2, 46] : List Nat) → h46[i]? = h[i]? := fun i hi => Eq.trans (fr48 i (fun z => hi (by first | exact absurd z List.not_mem_nil | (simp only [List.mem_cons, List.not_mem_nil, or_false] at z ⊢; omega)))) (fr0 i hi)
          have c50 : h46[0]? = some (.inl (7, [.inr (.inr (1, 1)), .inr (.inr (1, 2)), .inr (.inr (1, 9)), .inr (.inr (1, 16)), .inr (.inr (1, 18)), .inr (.inr (1, 21)), .inr (.inr (1, 35)), .inr (.inr (1, 44)), .inr (.inr (1, 46)), .inl it1, .inl lf1])) := by rw [fr48 0 (by decide)]; exact c0_1
          have c51 : h46[2]? = some (.inl (5, [.inr (.inr (1, 3)), .inr (.inr (1, 8)), .inl bg2, .inl mo2, .inl le2, .inl na2, .inl on2, .inl bi2, .inl ra2, .inl wo2, .inl he2, .inl mi2, .inl se2])) := by rw [fr48 2 (by decide)]; exact c2_2
          obtain ⟨x52, c46_52, f46_52, rfl, l46_52⟩ := zi_g hI47 46 (by decide)
          refine zw_iret dX7_ask_33 rfl rfl ?_
          exact hq _ h46 hI47 fr49
def zt_66 : zx_MT := (6, yX6_addFurlong, cX6_addFurlong, 3, (some FieldType.int), 2, 0)
theorem zm_66 : zx_m 66 = zt_66 := rfl
theorem dX6_addFurlong_0 : decode cX6_addFurlong 0 = .ok (.aload_n 0, 1) := by decide +kernel
theorem dX6_addFurlong_1 : decode cX6_addFurlong 1 = .ok (.getfield 9, 3) := by decide +kernel
theorem dX6_addFurlong_4 : decode cX6_addFurlong 4 = .ok (.aload_n 0, 1) := by decide +kernel
theorem dX6_addFurlong_5 : decode cX6_addFurlong 5 = .ok (.getfield 24, 3) := by decide +kernel
theorem dX6_addFurlong_8 : decode cX6_addFurlong 8 = .ok (.iload_n 1, 1) := by decide +kernel
theorem dX6_addFurlong_9 : decode cX6_addFurlong 9 = .ok (.iastore, 1) := by decide +kernel
theorem dX6_addFurlong_10 : decode cX6_addFurlong 10 = .ok (.aload_n 0, 1) := by decide +kernel
theorem dX6_addFurlong_11 : decode cX6_addFurlong 11 = .ok (.getfield 15, 3) := by decide +kernel
theorem dX6_addFurlong_14 : decode cX6_addFurlong 14 = .ok (.aload_n 0, 1) := by decide +kernel
theorem dX6_addFurlong_15 : decode cX6_addFurlong 15 = .ok (.getfield 24, 3) := by decide +kernel
theorem dX6_addFurlong_18 : decode cX6_addFurlong 18 = .ok (.iload_n 2, 1) := by decide +kernel
theorem dX6_addFurlong_19 : decode cX6_addFurlong 19 = .ok (.ifCond .eq 7, 3) := by decide +kernel
theorem dX6_addFurlong_22 : decode cX6_addFurlong 22 = .ok (.iconst 1, 1) := by decide +kernel
theorem dX6_addFurlong_23 : decode cX6_addFurlong 23 = .ok (.goto 4, 3) := by decide +kernel
theorem dX6_addFurlong_26 : decode cX6_addFurlong 26 = .ok (.iconst 0, 1) := by decide +kernel
theorem dX6_addFurlong_27 : decode cX6_addFurlong 27 = .ok (.iastore, 1) := by decide +kernel
theorem dX6_addFurlong_28 : decode cX6_addFurlong 28 = .ok (.aload_n 0, 1) := by decide +kernel
theorem dX6_addFurlong_29 : decode cX6_addFurlong 29 = .ok (.dup, 1) := by decide +kernel
theorem dX6_addFurlong_30 : decode cX6_addFurlong 30 = .ok (.getfield 24, 3) := by decide +kernel
theorem dX6_addFurlong_33 : decode cX6_addFurlong 33 = .ok (.dup_x1, 1) := by decide +kernel
theorem dX6_addFurlong_34 : decode cX6_addFurlong 34 = .ok (.iconst 1, 1) := by decide +kernel
theorem dX6_addFurlong_35 : decode cX6_addFurlong 35 = .ok (.iadd, 1) := by decide +kernel
theorem dX6_addFurlong_36 : decode cX6_addFurlong 36 = .ok (.putfield 24, 3) := by decide +kernel
theorem dX6_addFurlong_39 : decode cX6_addFurlong 39 = .ok (.ireturn, 1) := by decide +kernel
theorem zc_addF_3 {d : Nat} {h : List zx_C} {w : Int32} {q : Int32} {Q : Option zx_V → List zx_C → Prop} (hI : zx_I h) {fu pe : Int32} (hy : h[3]? = some (.inl (6, [.inr (.inr (1, 4)), .inr (.inr (1, 5)), .inr (.inr (1, 6)), .inr (.inr (1, 7)), .inl fu, .inl pe]))) (hw : 0 ≤ fu.toInt ∧ fu.toInt < 24 ∧ 0 ≤ pe.toInt ∧ pe.toInt ≤ 6) (hq : ∀ (v : Int32) (h2 : List zx_C), zx_I h2 → (∀ i, i ∉ ([3, 4, 5] : List Nat) → h2[i]? = h[i]?) → Q (some (.inl v)) h2) : zx_M (d) 66 [.inr (.inr (1, 3)), .inl w, .inl q] h Q := by
  have el_0 : (0 : Int32).toInt = 0 := by decide
  have el_1 : (1 : Int32).toInt = 1 := by decide
  obtain ⟨x1, c4_1, f4_1, rfl, l4_1⟩ := zi_g hI 4 (by decide)
  obtain ⟨x2, c5_2, f5_2, rfl, l5_2⟩ := zi_g hI 5 (by decide)
  have fr0 : ∀ i, i ∉ ([3, 4, 5] : List Nat) → h[i]? = h[i]? := fun _ _ => rfl
  have e1 : (1 : Int32).toInt = 1 := rfl
  have ef := fb_addI (x := fu) (y := 1) (by omega) (by omega)
  refine zx_M_of (Nat.le_of_ble_eq_true rfl) zm_66 (L := [some (.inr (.inr (1, 3))), some (.inl w), some (.inl q)]) rfl ?_
  refine zx_W_ins (pc' := 1) dX6_addFurlong_0 rfl (fun _ => rfl) rfl ?_
  refine zw_gf (pc' := 4) dX6_addFurlong_1 rfl rfl hy rfl ?_
  refine zx_W_ins (pc' := 5) dX6_addFurlong_4 rfl (fun _ => rfl) rfl ?_
  refine zw_gf (pc' := 8) dX6_addFurlong_5 rfl rfl hy rfl ?_
  refine zx_W_ins (pc' := 9) dX6_addFurlong_8 rfl (fun _ => rfl) rfl ?_
  refine zw_ias (pc' := 10) dX6_addFurlong_9 rfl c4_1 (zi_in (by have := l4_1; omega)) ?_
  obtain ⟨h3, e4⟩ : ∃ z, z = h.set 4 (.inr (0, .inl (f4_1.set fu.toNatClampNeg w))) := ⟨_, rfl⟩
  rw [← e4]
  have c5 : h3[4]? = some (.inr (0, .inl (f4_1.set fu.toNatClampNeg w))) := by rw [e4, List.getElem?_set_self (List.getElem?_eq_some_iff.mp c4_1).1]
  have c6 : h3[5]? = some (.inr (0, .inl f5_2)) := by rw [e4, List.getElem?_set_ne (by first | decide | omega)]; exact c5_2
  have c7 : h3[3]? = some (.inl (6, [.inr (.inr (1, 4)), .inr (.inr (1, 5)), .inr (.inr (1, 6)), .inr (.inr (1, 7)), .inl fu, .inl pe])) := by rw [e4, List.getElem?_set_ne (by first | decide | omega)]; exact hy
  have hI8 : zx_I h3 := by rw [e4]; exact zi_set hI (show zc_row 24 _ from ⟨_, rfl, by rw [List.length_set]; exact l4_1⟩) (by decide) (by decide)
  have l9 := (List.length_set (as := f4_1) (i := fu.toNatClampNeg) (a := w)).trans l4_1
  have fr10 : ∀ i, i ∉ ([3, 4, 5] : List Nat) → h3[i]? = h[i]? := fun i hi => Eq.trans (b := h[i]?) (by rw [e4, List.getElem?_set_ne (fun z => hi (by rw [← z]; decide))]) (fr0 i hi)
  refine zx_W_ins (pc' := 11) dX6_addFurlong_10 rfl (fun _ => rfl) rfl ?_
  refine zw_gf (pc' := 14) dX6_addFurlong_11 rfl rfl c7 rfl ?_
  refine zx_W_ins (pc' := 15) dX6_addFurlong_14 rfl (fun _ => rfl) rfl ?_
  refine zw_gf (pc' := 18) dX6_addFurlong_15 rfl rfl c7 rfl ?_
  refine zx_W_ins (pc' := 19) dX6_addFurlong_18 rfl (fun _ => rfl) rfl ?_
  refine zw_if_eq (tgt := 26) (pc' := 22) dX6_addFurlong_19 rfl rfl (fun g11 => ?_) (fun g11 => ?_)
  · have g11t : (q).toInt = (0 : Int32).toInt := congrArg Int32.toInt g11
    refine zw_ic (v := 0) (pc' := 27) dX6_addFurlong_26 rfl rfl ?_
    refine zw_ias (pc' := 28) dX6_addFurlong_27 rfl c6 (zi_in (by have := l5_2; omega)) ?_
    obtain ⟨h12, e13⟩ : ∃ z, z = h3.set 5 (.inr (0, .inl (f5_2.set fu.toNatClampNeg 0))) := ⟨_, rfl⟩
    rw [← e13]
    have c14 : h12[4]? = some (.inr (0, .inl (f4_1.set fu.toNatClampNeg w))) := by rw [e13, List.getElem?_set_ne (by first | decide | omega)]; exact c5
    have c15 : h12[5]? = some (.inr (0, .inl (f5_2.set fu.toNatClampNeg 0))) := by rw [e13, List.getElem?_set_self (List.getElem?_eq_some_iff.mp c6).1]
    have c16 : h12[3]? = some (.inl (6, [.inr (.inr (1, 4)), .inr (.inr (1, 5)), .inr (.inr (1, 6)), .inr (.inr (1, 7)), .inl fu, .inl pe])) := by rw [e13, List.getElem?_set_ne (by first | decide | omega)]; exact c7
    have hI17 : zx_I h12 := by rw [e13]; exact zi_set hI8 (show zc_row 24 _ from ⟨_, rfl, by rw [List.length_set]; exact l5_2⟩) (by decide) (by decide)
    have l18 := (List.length_set (as := f5_2) (i := fu.toNatClampNeg) (a := 0)).trans l5_2
    have fr19 : ∀ i, i ∉ ([3, 4, 5] : List Nat) → h12[i]? = h[i]? := fun i hi => Eq.trans (b := h3[i]?) (by rw [e13, List.getElem?_set_ne (fun z => hi (by rw [← z]; decide))]) (fr10 i hi)
    refine zx_W_ins (pc' := 29) dX6_addFurlong_28 rfl (fun _ => rfl) rfl ?_
    refine zx_W_ins (pc' := 30) dX6_addFurlong_29 rfl (fun _ => rfl) rfl ?_
    refine zw_gf (pc' := 33) dX6_addFurlong_30 rfl rfl c16 rfl ?_
    refine zx_W_ins (pc' := 34) dX6_addFurlong_33 rfl (fun _ => rfl) rfl ?_
    refine zw_ic (v := 1) (pc' := 35) dX6_addFurlong_34 rfl rfl ?_
    refine zx_W_ins (pc' := 36) dX6_addFurlong_35 rfl (fun _ => rfl) rfl ?_
    refine zw_pf (pc' := 39) dX6_addFurlong_36 rfl rfl c16 rfl (fs' := [.inr (.inr (1, 4)), .inr (.inr (1, 5)), .inr (.inr (1, 6)), .inr (.inr (1, 7)), .inl (fu + 1), .inl pe]) rfl ?_
    obtain ⟨h20, e21⟩ : ∃ z, z = h12.set 3 (.inl (6, [.inr (.inr (1, 4)), .inr (.inr (1, 5)), .inr (.inr (1, 6)), .inr (.inr (1, 7)), .inl (fu + 1), .inl pe])) := ⟨_, rfl⟩
    rw [← e21]
    have c22 : h20[4]? = some (.inr (0, .inl (f4_1.set fu.toNatClampNeg w))) := by rw [e21, List.getElem?_set_ne (by first | decide | omega)]; exact c14
    have c23 : h20[5]? = some (.inr (0, .inl (f5_2.set fu.toNatClampNeg 0))) := by rw [e21, List.getElem?_set_ne (by first | decide | omega)]; exact c15
    have c24 : h20[3]? = some (.inl (6, [.inr (.inr (1, 4)), .inr (.inr (1, 5)), .inr (.inr (1, 6)), .inr (.inr (1, 7)), .inl (fu + 1), .inl pe])) := by rw [e21, List.getElem?_set_self (List.getElem?_eq_some_iff.mp c16).1]
    have hI25 : zx_I h20 := by rw [e21]; exact zi_set hI17 (show zc_way 3 _ from ⟨_, _, rfl, by omega, by omega, by omega, by omega⟩) (by decide) (by decide)
    have fr26 : ∀ i, i ∉ ([3, 4, 5] : List Nat) → h20[i]? = h[i]? := fun i hi => Eq.trans (b := h12[i]?) (by rw [e21, List.getElem?_set_ne (fun z => hi (by rw [← z]; decide))]) (fr19 i hi)
    refine zw_iret dX6_addFurlong_39 rfl rfl ?_
    exact hq _ h20 hI25 fr26
  · have g11t : ¬ (q).toInt = (0 : Int32).toInt := fun z => g11 (Int32.toInt_inj.mp z)
    refine zw_ic (v := 1) (pc' := 23) dX6_addFurlong_22 rfl rfl ?_
    refine zw_goto (tgt := 27) dX6_addFurlong_23 rfl ?_
    refine zw_ias (pc' := 28) dX6_addFurlong_27 rfl c6 (zi_in (by have := l5_2; omega)) ?_
    obtain ⟨h27, e28⟩ : ∃ z, z = h3.set 5 (.inr (0, .inl (f5_2.set fu.toNatClampNeg 1))) := ⟨_, rfl⟩
    rw [← e28]
    have c29 : h27[4]? = some (.inr (0, .inl (f4_1.set fu.toNatClampNeg w))) := by rw [e28, List.getElem?_set_ne (by first | decide | omega)]; exact c5
    have c30 : h27[5]? = some (.inr (0, .inl (f5_2.set fu.toNatClampNeg 1))) := by rw [e28, List.getElem?_set_self (List.getElem?_eq_some_iff.mp c6).1]
    have c31 : h27[3]? = some (.inl (6, [.inr (.inr (1, 4)), .inr (.inr (1, 5)), .inr (.inr (1, 6)), .inr (.inr (1, 7)), .inl fu, .inl pe])) := by rw [e28, List.getElem?_set_ne (by first | decide | omega)]; exact c7
    have hI32 : zx_I h27 := by rw [e28]; exact zi_set hI8 (show zc_row 24 _ from ⟨_, rfl, by rw [List.length_set]; exact l5_2⟩) (by decide) (by decide)
    have l33 := (List.length_set (as := f5_2) (i := fu.toNatClampNeg) (a := 1)).trans l5_2
    have fr34 : ∀ i, i ∉ ([3, 4, 5] : List Nat) → h27[i]? = h[i]? := fun i hi => Eq.trans (b := h3[i]?) (by rw [e28, List.getElem?_set_ne (fun z => hi (by rw [← z]; decide))]) (fr10 i hi)
    refine zx_W_ins (pc' := 29) dX6_addFurlong_28 rfl (fun _ => rfl) rfl ?_
    refine zx_W_ins (pc' := 30) dX6_addFurlong_29 rfl (fun _ => rfl) rfl ?_
    refine zw_gf (pc' := 33) dX6_addFurlong_30 rfl rfl c31 rfl ?_
    refine zx_W_ins (pc' := 34) dX6_addFurlong_33 rfl (fun _ => rfl) rfl ?_
    refine zw_ic (v := 1) (pc' := 35) dX6_addFurlong_34 rfl rfl ?_
    refine zx_W_ins (pc' := 36) dX6_addFurlong_35 rfl (fun _ => rfl) rfl ?_
    refine zw_pf (pc' := 39) dX6_addFurlong_36 rfl rfl c31 rfl (fs' := [.inr (.inr (1, 4)), .inr (.inr (1, 5)), .inr (.inr (1, 6)), .inr (.inr (1, 7)), .inl (fu + 1), .inl pe]) rfl ?_
    obtain ⟨h35, e36⟩ : ∃ z, z = h27.set 3 (.inl (6, [.inr (.inr (1, 4)), .inr (.inr (1, 5)), .inr (.inr (1, 6)), .inr (.inr (1, 7)), .inl (fu + 1), .inl pe])) := ⟨_, rfl⟩
    rw [← e36]
    have c37 : h35[4]? = some (.inr (0, .inl (f4_1.set fu.toNatClampNeg w))) := by rw [e36, List.getElem?_set_ne (by first | decide | omega)]; exact c29
    have c38 : h35[5]? = some (.inr (0, .inl (f5_2.set fu.toNatClampNeg 1))) := by rw [e36, List.getElem?_set_ne (by first | decide | omega)]; exact c30
    have c39 : h35[3]? = some (.inl (6, [.inr (.inr (1, 4)), .inr (.inr (1, 5)), .inr (.inr (1, 6)), .inr (.inr (1, 7)), .inl (fu + 1), .inl pe])) := by rw [e36, List.getElem?_set_self (List.getElem?_eq_some_iff.mp c31).1]
    have hI40 : zx_I h35 := by rw [e36]; exact zi_set hI32 (show zc_way 3 _ from ⟨_, _, rfl, by omega, by omega, by omega, by omega⟩) (by decide) (by decide)
    have fr41 : ∀ i, i ∉ ([3, 4, 5] : List Nat) → h35[i]? = h[i]? := fun i hi => Eq.trans (b := h27[i]?) (by rw [e36, List.getElem?_set_ne (fun z => hi (by rw [← z]; decide))]) (fr34 i hi)
    refine zw_iret dX6_addFurlong_39 rfl rfl ?_
    exact hq _ h35 hI40 fr41
def zt_75 : zx_MT := (7, yX7_furlong, cX7_furlong, 3, (some FieldType.int), 2, 0)
theorem zm_75 : zx_m 75 = zt_75 := rfl
theorem dX7_furlong_0 : decode cX7_furlong 0 = .ok (.iload_n 1, 1) := by decide +kernel
theorem dX7_furlong_1 : decode cX7_furlong 1 = .ok (.bipush (-3), 2) := by decide +kernel
theorem dX7_furlong_3 : decode cX7_furlong 3 = .ok (.if_icmp .lt 8, 3) := by decide +kernel
theorem dX7_furlong_6 : decode cX7_furlong 6 = .ok (.iload_n 1, 1) := by decide +kernel
theorem dX7_furlong_7 : decode cX7_furlong 7 = .ok (.iconst 3, 1) := by decide +kernel
theorem dX7_furlong_8 : decode cX7_furlong 8 = .ok (.if_icmp .le 10, 3) := by decide +kernel
theorem dX7_furlong_11 : decode cX7_furlong 11 = .ok (.aload_n 0, 1) := by decide +kernel
theorem dX7_furlong_12 : decode cX7_furlong 12 = .ok (.bipush 6, 2) := by decide +kernel
theorem dX7_furlong_14 : decode cX7_furlong 14 = .ok (.invokevirtual 82, 3) := by decide +kernel
theorem dX7_furlong_17 : decode cX7_furlong 17 = .ok (.ireturn, 1) := by decide +kernel
theorem dX7_furlong_18 : decode cX7_furlong 18 = .ok (.aload_n 0, 1) := by decide +kernel
theorem dX7_furlong_19 : decode cX7_furlong 19 = .ok (.getfield 23, 3) := by decide +kernel
theorem dX7_furlong_22 : decode cX7_furlong 22 = .ok (.getfield 30, 3) := by decide +kernel
theorem dX7_furlong_25 : decode cX7_furlong 25 = .ok (.getfield 146, 3) := by decide +kernel
theorem dX7_furlong_28 : decode cX7_furlong 28 = .ok (.bipush 24, 2) := by decide +kernel
theorem dX7_furlong_30 : decode cX7_furlong 30 = .ok (.if_icmp .lt 10, 3) := by decide +kernel
theorem dX7_furlong_33 : decode cX7_furlong 33 = .ok (.aload_n 0, 1) := by decide +kernel
theorem dX7_furlong_34 : decode cX7_furlong 34 = .ok (.bipush 7, 2) := by decide +kernel
theorem dX7_furlong_36 : decode cX7_furlong 36 = .ok (.invokevirtual 82, 3) := by decide +kernel
theorem dX7_furlong_39 : decode cX7_furlong 39 = .ok (.ireturn, 1) := by decide +kernel
theorem dX7_furlong_40 : decode cX7_furlong 40 = .ok (.aload_n 0, 1) := by decide +kernel
theorem dX7_furlong_41 : decode cX7_furlong 41 = .ok (.getfield 23, 3) := by decide +kernel
theorem dX7_furlong_44 : decode cX7_furlong 44 = .ok (.getfield 30, 3) := by decide +kernel
theorem dX7_furlong_47 : decode cX7_furlong 47 = .ok (.iload_n 1, 1) := by decide +kernel
theorem dX7_furlong_48 : decode cX7_furlong 48 = .ok (.iload_n 2, 1) := by decide +kernel
theorem dX7_furlong_49 : decode cX7_furlong 49 = .ok (.invokevirtual 149, 3) := by decide +kernel
theorem dX7_furlong_52 : decode cX7_furlong 52 = .ok (.ireturn, 1) := by decide +kernel
theorem zc_75 {d : Nat} {h : List zx_C} {w : Int32} {q : Int32} {Q : Option zx_V → List zx_C → Prop} (hI : zx_I h)    (hq : ∀ (v : Int32) (h2 : List zx_C), zx_I h2 → (∀ i, i ∉ ([3, 4, 5, 46] : List Nat) → h2[i]? = h[i]?) → Q (some (.inl v)) h2) : zx_M (d + 1) 75 [.inr (.inr (1, 0)), .inl w, .inl q] h Q := by
  have el_m3 : ((-3) : Int32).toInt = -3 := by decide
  have el_3 : (3 : Int32).toInt = 3 := by decide
  have el_6 : (6 : Int32).toInt = 6 := by decide
  have el_7 : (7 : Int32).toInt = 7 := by decide
  have el_24 : (24 : Int32).toInt = 24 := by decide
  obtain ⟨x1, c0_1, it1, lf1, rfl, hit1⟩ := zi_g hI 0 (by decide)
  obtain ⟨x2, c2_2, bg2, mo2, le2, na2, on2, bi2, ra2, wo2, he2, mi2, se2, rfl, hh2, hk2⟩ := zi_g hI 2 (by decide)
  obtain ⟨x3, c3_3, fu3, pe3, rfl, hf3, hg3, hp3, hq3⟩ := zi_g hI 3 (by decide)
  have fr0 : ∀ i, i ∉ ([3, 4, 5, 46] : List Nat) → h[i]? = h[i]? := fun _ _ => rfl
  refine zx_M_of (Nat.le_of_ble_eq_true rfl) zm_75 (L := [some (.inr (.inr (1, 0))), some (.inl w), some (.inl q)]) rfl ?_
  refine zx_W_ins (pc' := 1) dX7_furlong_0 rfl (fun _ => rfl) rfl ?_
  refine zw_bi (v := (-3)) (pc' := 3) dX7_furlong_1 rfl rfl ?_
  refine zw_icmp_lt (tgt := 11) (pc' := 6) dX7_furlong_3 rfl rfl (fun g4 => ?_) (fun g4 => ?_)
  · refine zx_W_ins (pc' := 12) dX7_furlong_11 rfl (fun _ => rfl) rfl ?_
    refine zw_bi (v := 6) (pc' := 14) dX7_furlong_12 rfl rfl ?_
    refine zw_iv (k := 109) (pc' := 17) dX7_furlong_14 rfl rfl rfl rfl c0_1 rfl rfl (zc_109 hI (by omega) (fun v5 h6 hI7 fr8 hvv5 _ => ?_))
    show zx_W _ _ _ _ _ _ _ [.inl v5] _ _
    have fr9 : ∀ i, i ∉ ([3, 4, 5, 46] : List Nat) → h6[i]? = h[i]? := fun i hi => Eq.trans (fr8 i (fun z => hi (by first | exact absurd z List.not_mem_nil | (simp only [List.mem_cons, List.not_mem_nil, or_false] at z ⊢; omega)))) (fr0 i hi)
    have c10 : h6[0]? = some (.inl (7, [.inr (.inr (1, 1)), .inr (.inr (1, 2)), .inr (.inr (1, 9)), .inr (.inr (1, 16)), .inr (.inr (1, 18)), .inr (.inr (1, 21)), .inr (.inr (1, 35)), .inr (.inr (1, 44)), .inr (.inr (1, 46)), .inl it1, .inl lf1])) := by rw [fr8 0 (by decide)]; exact c0_1
    have c11 : h6[2]? = some (.inl (5, [.inr (.inr (1, 3)), .inr (.inr (1, 8)), .inl bg2, .inl mo2, .inl le2, .inl na2, .inl on2, .inl bi2, .inl ra2, .inl wo2, .inl he2, .inl mi2, .inl se2])) := by rw [fr8 2 (by decide)]; exact c2_2
    have c12 : h6[3]? = some (.inl (6, [.inr (.inr (1, 4)), .inr (.inr (1, 5)), .inr (.inr (1, 6)), .inr (.inr (1, 7)), .inl fu3, .inl pe3])) := by rw [fr8 3 (by decide)]; exact c3_3
    obtain ⟨x13, c46_13, f46_13, rfl, l46_13⟩ := zi_g hI7 46 (by decide)
    refine zw_iret dX7_furlong_17 rfl rfl ?_
    exact hq _ h6 hI7 fr9
  · refine zx_W_ins (pc' := 7) dX7_furlong_6 rfl (fun _ => rfl) rfl ?_
    refine zw_ic (v := 3) (pc' := 8) dX7_furlong_7 rfl rfl ?_
    refine zw_icmp_le (tgt := 18) (pc' := 11) dX7_furlong_8 rfl rfl (fun g14 => ?_) (fun g14 => ?_)
    · refine zx_W_ins (pc' := 19) dX7_furlong_18 rfl (fun _ => rfl) rfl ?_
      refine zw_gf (pc' := 22) dX7_furlong_19 rfl rfl c0_1 rfl ?_
      refine zw_gf (pc' := 25) dX7_furlong_22 rfl rfl c2_2 rfl ?_
      refine zw_gf (pc' := 28) dX7_furlong_25 rfl rfl c3_3 rfl ?_
      refine zw_bi (v := 24) (pc' := 30) dX7_furlong_28 rfl rfl ?_
      refine zw_icmp_lt (tgt := 40) (pc' := 33) dX7_furlong_30 rfl rfl (fun g15 => ?_) (fun g15 => ?_)
      · refine zx_W_ins (pc' := 41) dX7_furlong_40 rfl (fun _ => rfl) rfl ?_
        refine zw_gf (pc' := 44) dX7_furlong_41 rfl rfl c0_1 rfl ?_
        refine zw_gf (pc' := 47) dX7_furlong_44 rfl rfl c2_2 rfl ?_
        refine zx_W_ins (pc' := 48) dX7_furlong_47 rfl (fun _ => rfl) rfl ?_
        refine zx_W_ins (pc' := 49) dX7_furlong_48 rfl (fun _ => rfl) rfl ?_
        refine zw_iv (k := 66) (pc' := 52) dX7_furlong_49 rfl rfl rfl rfl c3_3 rfl rfl (zc_addF_3 hI c3_3 (by omega) (fun v16 h17 hI18 fr19 _ => ?_))
        show zx_W _ _ _ _ _ _ _ [.inl v16] _ _
        have fr20 : ∀ i, i ∉ ([3, 4, 5, 46] : List Nat) → h17[i]? = h[i]? := fun i hi => Eq.trans (fr19 i (fun z => hi (by first | exact absurd z List.not_mem_nil | (simp only [List.mem_cons, List.not_mem_nil, or_false] at z ⊢; omega)))) (fr0 i hi)
        have c21 : h17[0]? = some (.inl (7, [.inr (.inr (1, 1)), .inr (.inr (1, 2)), .inr (.inr (1, 9)), .inr (.inr (1, 16)), .inr (.inr (1, 18)), .inr (.inr (1, 21)), .inr (.inr (1, 35)), .inr (.inr (1, 44)), .inr (.inr (1, 46)), .inl it1, .inl lf1])) := by rw [fr19 0 (by decide)]; exact c0_1
        have c22 : h17[2]? = some (.inl (5, [.inr (.inr (1, 3)), .inr (.inr (1, 8)), .inl bg2, .inl mo2, .inl le2, .inl na2, .inl on2, .inl bi2, .inl ra2, .inl wo2, .inl he2, .inl mi2, .inl se2])) := by rw [fr19 2 (by decide)]; exact c2_2
        obtain ⟨x23, c3_23, fu23, pe23, rfl, hf23, hg23, hp23, hq23⟩ := zi_g hI18 3 (by decide)
        obtain ⟨x24, c4_24, f4_24, rfl, l4_24⟩ := zi_g hI18 4 (by decide)
        obtain ⟨x25, c5_25, f5_25, rfl, l5_25⟩ := zi_g hI18 5 (by decide)
        refine zw_iret dX7_furlong_52 rfl rfl ?_
        exact hq _ h17 hI18 fr20
      · refine zx_W_ins (pc' := 34) dX7_furlong_33 rfl (fun _ => rfl) rfl ?_
        refine zw_bi (v := 7) (pc' := 36) dX7_furlong_34 rfl rfl ?_
        refine zw_iv (k := 109) (pc' := 39) dX7_furlong_36 rfl rfl rfl rfl c0_1 rfl rfl (zc_109 hI (by omega) (fun v26 h27 hI28 fr29 hvv26 _ => ?_))
        show zx_W _ _ _ _ _ _ _ [.inl v26] _ _
        have fr30 : ∀ i, i ∉ ([3, 4, 5, 46] : List Nat) → h27[i]? = h[i]? := fun i hi => Eq.trans (fr29 i (fun z => hi (by first | exact absurd z List.not_mem_nil | (simp only [List.mem_cons, List.not_mem_nil, or_false] at z ⊢; omega)))) (fr0 i hi)
        have c31 : h27[0]? = some (.inl (7, [.inr (.inr (1, 1)), .inr (.inr (1, 2)), .inr (.inr (1, 9)), .inr (.inr (1, 16)), .inr (.inr (1, 18)), .inr (.inr (1, 21)), .inr (.inr (1, 35)), .inr (.inr (1, 44)), .inr (.inr (1, 46)), .inl it1, .inl lf1])) := by rw [fr29 0 (by decide)]; exact c0_1
        have c32 : h27[2]? = some (.inl (5, [.inr (.inr (1, 3)), .inr (.inr (1, 8)), .inl bg2, .inl mo2, .inl le2, .inl na2, .inl on2, .inl bi2, .inl ra2, .inl wo2, .inl he2, .inl mi2, .inl se2])) := by rw [fr29 2 (by decide)]; exact c2_2
        have c33 : h27[3]? = some (.inl (6, [.inr (.inr (1, 4)), .inr (.inr (1, 5)), .inr (.inr (1, 6)), .inr (.inr (1, 7)), .inl fu3, .inl pe3])) := by rw [fr29 3 (by decide)]; exact c3_3
        obtain ⟨x34, c46_34, f46_34, rfl, l46_34⟩ := zi_g hI28 46 (by decide)
        refine zw_iret dX7_furlong_39 rfl rfl ?_
        exact hq _ h27 hI28 fr30
    · refine zx_W_ins (pc' := 12) dX7_furlong_11 rfl (fun _ => rfl) rfl ?_
      refine zw_bi (v := 6) (pc' := 14) dX7_furlong_12 rfl rfl ?_
      refine zw_iv (k := 109) (pc' := 17) dX7_furlong_14 rfl rfl rfl rfl c0_1 rfl rfl (zc_109 hI (by omega) (fun v35 h36 hI37 fr38 hvv35 _ => ?_))
      show zx_W _ _ _ _ _ _ _ [.inl v35] _ _
      have fr39 : ∀ i, i ∉ ([3, 4, 5, 46] : List Nat) → h36[i]? = h[i]? := fun i hi => Eq.trans (fr38 i (fun z => hi (by first | exact absurd z List.not_mem_nil | (simp only [List.mem_cons, List.not_mem_nil, or_false] at z ⊢; omega)))) (fr0 i hi)
      have c40 : h36[0]? = some (.inl (7, [.inr (.inr (1, 1)), .inr (.inr (1, 2)), .inr (.inr (1, 9)), .inr (.inr (1, 16)), .inr (.inr (1, 18)), .inr (.inr (1, 21)), .inr (.inr (1, 35)), .inr (.inr (1, 44)), .inr (.inr (1, 46)), .inl it1, .inl lf1])) := by rw [fr38 0 (by decide)]; exact c0_1
      have c41 : h36[2]? = some (.inl (5, [.inr (.inr (1, 3)), .inr (.inr (1, 8)), .inl bg2, .inl mo2, .inl le2, .inl na2, .inl on2, .inl bi2, .inl ra2, .inl wo2, .inl he2, .inl mi2, .inl se2])) := by rw [fr38 2 (by decide)]; exact c2_2
      have c42 : h36[3]? = some (.inl (6, [.inr (.inr (1, 4)), .inr (.inr (1, 5)), .inr (.inr (1, 6)), .inr (.inr (1, 7)), .inl fu3, .inl pe3])) := by rw [fr38 3 (by decide)]; exact c3_3
      obtain ⟨x43, c46_43, f46_43, rfl, l46_43⟩ := zi_g hI37 46 (by decide)
      refine zw_iret dX7_furlong_17 rfl rfl ?_
      exact hq _ h36 hI37 fr39
