/-! part 14: what the statement gives of the start: laid by wip/p2/start.py -/
def zx_fl : List Cond := flatC (Jvm.Cond.and given_1 narrow_1)
def zx_fat (p : Nat) (w : Cond) : Bool := match zx_fl[p]? with
  | some w' => decide (w' = w)
  | none => false
theorem zx_fat_mem {p : Nat} {w : Cond} (h : zx_fat p w = true) : w ∈ zx_fl := by
  unfold zx_fat at h
  split at h
  · rename_i w' e
    have e2 : w' = w := by simpa using h
    subst e2
    exact List.mem_of_getElem? e
  · cases h
def zx_sr : List (Nat × Nat × Nat × Nat × List Nat) := [(87, 88, 89, 90, [91, 92]), (93, 94, 95, 96, [97, 98, 99, 100]), (102, 103, 104, 105, [106, 107, 108, 109, 110]), (113, 114, 115, 116, [117, 118, 119, 120, 121, 122]), (126, 127, 128, 129, [130, 131, 132, 133, 134]), (139, 140, 141, 142, [143, 144, 145]), (151, 152, 153, 154, [155, 156, 157]), (164, 165, 166, 167, [168, 169, 170, 171]), (179, 180, 181, 182, [183, 184, 185]), (194, 195, 196, 197, [198, 199, 200, 201]), (211, 212, 213, 214, [215, 216, 217, 218, 219, 220, 221, 222]), (233, 234, 235, 236, [237, 238, 239, 240, 241])]
def zx_ne : List (Nat × Nat × Nat) := [(0, 1, 101), (0, 2, 111), (0, 3, 123), (0, 4, 135), (0, 5, 146), (0, 6, 158), (0, 7, 172), (0, 8, 186), (0, 9, 202), (0, 10, 223), (0, 11, 242), (1, 2, 112), (1, 3, 124), (1, 4, 136), (1, 5, 147), (1, 6, 159), (1, 7, 173), (1, 8, 187), (1, 9, 203), (1, 10, 224), (1, 11, 243), (2, 3, 125), (2, 4, 137), (2, 5, 148), (2, 6, 160), (2, 7, 174), (2, 8, 188), (2, 9, 204), (2, 10, 225), (2, 11, 244), (3, 4, 138), (3, 5, 149), (3, 6, 161), (3, 7, 175), (3, 8, 189), (3, 9, 205), (3, 10, 226), (3, 11, 245), (4, 5, 150), (4, 6, 162), (4, 7, 176), (4, 8, 190), (4, 9, 206), (4, 10, 227), (4, 11, 246), (5, 6, 163), (5, 7, 177), (5, 8, 191), (5, 9, 207), (5, 10, 228), (5, 11, 247), (6, 7, 178), (6, 8, 192), (6, 9, 208), (6, 10, 229), (6, 11, 248), (7, 8, 193), (7, 9, 209), (7, 10, 230), (7, 11, 249), (8, 9, 210), (8, 10, 231), (8, 11, 250), (9, 10, 232), (9, 11, 251), (10, 11, 252)]
def zx_ar4 : List (Nat × Nat × List Nat) := [(5, 6, [7, 8, 9, 10, 11, 12, 13]), (15, 16, [17, 18, 19, 20, 21, 22, 23]), (25, 26, [27, 28, 29, 30, 31]), (33, 34, [35, 36, 37, 38, 39]), (46, 47, [48, 49, 50, 51, 52, 53, 54, 55, 56, 57, 58, 59, 60, 61, 62, 63, 64, 65, 66, 67, 68])]
def zx_sp : List (Nat × Nat) := [(467, 81), (480, 81), (518, 81), (520, 81), (944, 87), (602, 92), (618, 94)]
def zx_tm (i : Nat) : Term := .string RX4 ((zx_st[i]?).getD ("", 0, 0)).2.1
def zx_fv (i : Nat) : Term := .field (zx_tm i) "java/lang/String" "value" "[B"
def zx_ks (i : Nat) : Bool := match zx_sr[i]? with
  | some (a, b, c, d, e) => zx_fat a (.exactly (zx_tm i) "java/lang/String") && (zx_fat b (.eq (.field (zx_tm i) "java/lang/String" "coder" "B") (.int 0)) && (zx_fat c (.arrayOf (zx_fv i) .byte) && (zx_fat d (.eq (.length (zx_fv i)) (.int (Int32.ofNat (zx_sl.getD i 0)))) && (decide (e.length = zx_sl.getD i 0) && e.zipIdx.all (fun q => zx_fat q.1 (.eq (.elem (zx_fv i) (.int (Int32.ofNat q.2))) (.int ((zx_sb.getD i []).getD q.2 0))))))))
  | none => false
set_option maxRecDepth 100000 in
theorem zx_ks_0 : zx_ks 0 = true := by decide +kernel
set_option maxRecDepth 100000 in
theorem zx_ks_1 : zx_ks 1 = true := by decide +kernel
set_option maxRecDepth 100000 in
theorem zx_ks_2 : zx_ks 2 = true := by decide +kernel
set_option maxRecDepth 100000 in
theorem zx_ks_3 : zx_ks 3 = true := by decide +kernel
set_option maxRecDepth 100000 in
theorem zx_ks_4 : zx_ks 4 = true := by decide +kernel
set_option maxRecDepth 100000 in
theorem zx_ks_5 : zx_ks 5 = true := by decide +kernel
set_option maxRecDepth 100000 in
theorem zx_ks_6 : zx_ks 6 = true := by decide +kernel
set_option maxRecDepth 100000 in
theorem zx_ks_7 : zx_ks 7 = true := by decide +kernel
set_option maxRecDepth 100000 in
theorem zx_ks_8 : zx_ks 8 = true := by decide +kernel
set_option maxRecDepth 100000 in
theorem zx_ks_9 : zx_ks 9 = true := by decide +kernel
set_option maxRecDepth 100000 in
theorem zx_ks_10 : zx_ks 10 = true := by decide +kernel
set_option maxRecDepth 100000 in
theorem zx_ks_11 : zx_ks 11 = true := by decide +kernel
theorem zx_ks_all {i : Nat} (h : i < 12) : zx_ks i = true := by
  rcases (show i = 0 ∨ i = 1 ∨ i = 2 ∨ i = 3 ∨ i = 4 ∨ i = 5 ∨ i = 6 ∨ i = 7 ∨ i = 8 ∨ i = 9 ∨ i = 10 ∨ i = 11 by omega) with rfl | rfl | rfl | rfl | rfl | rfl | rfl | rfl | rfl | rfl | rfl | rfl
  · exact zx_ks_0
  · exact zx_ks_1
  · exact zx_ks_2
  · exact zx_ks_3
  · exact zx_ks_4
  · exact zx_ks_5
  · exact zx_ks_6
  · exact zx_ks_7
  · exact zx_ks_8
  · exact zx_ks_9
  · exact zx_ks_10
  · exact zx_ks_11
set_option maxRecDepth 100000 in
theorem zx_kn : zx_ne.all (fun q => zx_fat q.2.2 (.not (.eq (zx_tm q.1) (zx_tm q.2.1)))) = true := by decide +kernel
set_option maxRecDepth 100000 in
theorem zx_kn2 : (List.range 12).all (fun i => (List.range 12).all (fun j => decide (i < j → ∃ q ∈ zx_ne, q.1 = i ∧ q.2.1 = j))) = true := by decide +kernel
def zx_tg (g : Nat) : Term := .static (zx_sx g).1 (zx_sx g).2.1 (zx_sx g).2.2
def zx_kg (g : Nat) : Bool := match zx_ar4[g]?, zx_sp[g]? with
  | some (a, b, e), some (c, d) => zx_fat a (.arrayOf (zx_tg g) .int) && (zx_fat b (.eq (.length (zx_tg g)) (.int (Int32.ofNat (zx_sa.getD g []).length))) && (decide (e.length = (zx_sa.getD g []).length) && (e.zipIdx.all (fun q => zx_fat q.1 (.eq (.elem (zx_tg g) (.int (Int32.ofNat q.2))) (.int ((zx_sa.getD g []).getD q.2 0)))) && (zx_at c (.laysStatic (zx_sx g).1 (zx_sx g).2.1 (zx_sx g).2.2) && zx_at d (.initialized (zx_sx g).1)))))
  | _, _ => false
set_option maxRecDepth 100000 in
theorem zx_kg_0 : zx_kg 0 = true := by decide +kernel
set_option maxRecDepth 100000 in
theorem zx_kg_1 : zx_kg 1 = true := by decide +kernel
set_option maxRecDepth 100000 in
theorem zx_kg_2 : zx_kg 2 = true := by decide +kernel
set_option maxRecDepth 100000 in
theorem zx_kg_3 : zx_kg 3 = true := by decide +kernel
set_option maxRecDepth 100000 in
theorem zx_kg_4 : zx_kg 4 = true := by decide +kernel
theorem zx_kg_all {i : Nat} (h : i < 5) : zx_kg i = true := by
  rcases (show i = 0 ∨ i = 1 ∨ i = 2 ∨ i = 3 ∨ i = 4 by omega) with rfl | rfl | rfl | rfl | rfl
  · exact zx_kg_0
  · exact zx_kg_1
  · exact zx_kg_2
  · exact zx_kg_3
  · exact zx_kg_4
set_option maxRecDepth 100000 in
theorem zx_kst5 : (zx_fat 40 (.eq (zx_tg 5) (.int 1)) && (zx_at 602 (.laysStatic (zx_sx 5).1 (zx_sx 5).2.1 (zx_sx 5).2.2) && (zx_at 92 (.initialized (zx_sx 5).1) && (zx_fat 41 (.isRef (zx_tg 6)) && (zx_at 618 (.laysStatic (zx_sx 6).1 (zx_sx 6).2.1 (zx_sx 6).2.2) && zx_at 94 (.initialized (zx_sx 6).1)))))) = true := by decide +kernel
theorem zx_strings {args : Array Value} {s : State} {A : Nat → Prop} (hf : ∀ w ∈ zx_fl, w.before args s = true) (hA : ∀ a : Nat, a < s.heap.size → ¬ A a) : ∃ adK adV : Nat → Nat, vk_S 12 zx_sl zx_sb adK adV A s s.heap ∧ ∀ i : Nat, i < 12 → (zx_tm i).eval args s none [] s = some (.ref (adK i)) := by
  have key : ∀ i : Nat, i < 12 → (Cond.exactly (zx_tm i) "java/lang/String").before args s = true ∧ (Cond.eq (.field (zx_tm i) "java/lang/String" "coder" "B") (.int 0)).before args s = true ∧ (Cond.arrayOf (zx_fv i) .byte).before args s = true ∧ (Cond.eq (.length (zx_fv i)) (.int (Int32.ofNat (zx_sl.getD i 0)))).before args s = true ∧ ∀ j : Nat, j < zx_sl.getD i 0 → (Cond.eq (.elem (zx_fv i) (.int (Int32.ofNat j))) (.int ((zx_sb.getD i []).getD j 0))).before args s = true := by
    intro i hi
    have h1 := zx_ks_all hi
    unfold zx_ks at h1
    split at h1
    · rename_i a b c d e h2
      simp only [Bool.and_eq_true, decide_eq_true_eq] at h1
      obtain ⟨g1, g2, g3, g4, g5, g6⟩ := h1
      refine ⟨hf _ (zx_fat_mem g1), hf _ (zx_fat_mem g2), hf _ (zx_fat_mem g3), hf _ (zx_fat_mem g4), fun j hj => ?_⟩
      have hj2 : j < e.length := by rw [g5]; exact hj
      have h3 := List.all_eq_true.mp g6 (e[j], j) (List.mem_zipIdx_iff_getElem?.mpr (List.getElem?_eq_getElem hj2))
      exact hf _ (zx_fat_mem h3)
    · cases h1
  refine vk_Sof (tm := zx_tm) ?_ (fun i hi => (key i hi).1) (fun i hi => (key i hi).2.1) (fun i hi => (key i hi).2.2.1) (fun i hi => (key i hi).2.2.2.1) (fun i hi => (key i hi).2.2.2.2) ?_ hA
  · intro i hi
    rcases (show i = 0 ∨ i = 1 ∨ i = 2 ∨ i = 3 ∨ i = 4 ∨ i = 5 ∨ i = 6 ∨ i = 7 ∨ i = 8 ∨ i = 9 ∨ i = 10 ∨ i = 11 by omega) with rfl | rfl | rfl | rfl | rfl | rfl | rfl | rfl | rfl | rfl | rfl | rfl <;> decide
  · intro i j hi hj hij
    have h1 := fun (a b : Nat) (ha : a < 12) (hb : b < 12) (hab : a < b) => (of_decide_eq_true (List.all_eq_true.mp (List.all_eq_true.mp zx_kn2 a (List.mem_range.mpr ha)) b (List.mem_range.mpr hb))) hab
    rcases Nat.lt_or_gt_of_ne hij with h2 | h2
    · obtain ⟨q, hq, rfl, rfl⟩ := h1 i j hi hj h2
      exact Or.inl (hf _ (zx_fat_mem (List.all_eq_true.mp zx_kn q hq)))
    · obtain ⟨q, hq, rfl, rfl⟩ := h1 j i hj hi h2
      exact Or.inr (hf _ (zx_fat_mem (List.all_eq_true.mp zx_kn q hq)))
theorem zx_rows {args : Array Value} {s : State} {A : Nat → Prop} (hf : ∀ w ∈ zx_fl, w.before args s = true) (hts : ∀ w ∈ lw_tbl, w.before args s = true) (hA : ∀ a : Nat, a < s.heap.size → ¬ A a) {g : Nat} (hg : g < 5) : ∃ t : Nat, va_Z (zx_sx g).1 (zx_sx g).2.1 (zx_sx g).2.2 (.ref t) A s s.heap ∧ va_T .int t (zx_sa.getD g []).length (fun j => .int ((zx_sa.getD g []).getD j 0)) A s s.heap := by
  have h1 := zx_kg_all hg
  unfold zx_kg at h1
  split at h1
  · rename_i a b e c d h2 h3
    simp only [Bool.and_eq_true, decide_eq_true_eq] at h1
    obtain ⟨g1, g2, g3, g4, g5, g6⟩ := h1
    obtain ⟨t, ht, hT⟩ := va_Tof (ty := .int) (f := fun j => .int ((zx_sa.getD g []).getD j 0)) (A := A) (N := (zx_sa.getD g []).length) (by rcases (show g = 0 ∨ g = 1 ∨ g = 2 ∨ g = 3 ∨ g = 4 by omega) with rfl | rfl | rfl | rfl | rfl <;> decide) (hf _ (zx_fat_mem g1)) (va_eqt (hf _ (zx_fat_mem g2))) (fun j hj => by
      have hj2 : j < e.length := by rw [g3]; exact hj
      have h4 := List.all_eq_true.mp g4 (e[j], j) (List.mem_zipIdx_iff_getElem?.mpr (List.getElem?_eq_getElem hj2))
      exact va_eqt (hf _ (zx_fat_mem h4))) hA
    exact ⟨t, va_Zof (hts _ (zx_at_mem g5)) (hts _ (zx_at_mem g6)) ht hA, hT⟩
  · cases h1
theorem zx_start {args : Array Value} {s : State} {b L : Nat} {xs : Nat → Int32} (hf : ∀ w ∈ zx_fl, w.before args s = true) (hts : ∀ w ∈ lw_tbl, w.before args s = true) (hX : va_X b L xs s s.heap) (hb : b < s.heap.size) :
    ∃ (fx : Nat → Nat → Nat) (vq : Value) (ct : Nat → ClassId) (D : va_G), fx 5 0 = b ∧ zx_St fx vq (fun q : Nat => s.heap.size ≤ q) (some (L, xs)) s s.heap ∧ va_K D zx_cl (zx_tys ct) s := by
  have hA : ∀ a : Nat, a < s.heap.size → ¬ (fun q : Nat => s.heap.size ≤ q) a := fun a h => Nat.not_le.mpr h
  obtain ⟨adK, adV, hS, hE⟩ := zx_strings (A := fun q : Nat => s.heap.size ≤ q) hf hA
  obtain ⟨t0, z0, r0⟩ := zx_rows hf hts hA (g := 0) (by decide)
  obtain ⟨t1, z1, r1⟩ := zx_rows hf hts hA (g := 1) (by decide)
  obtain ⟨t2, z2, r2⟩ := zx_rows hf hts hA (g := 2) (by decide)
  obtain ⟨t3, z3, r3⟩ := zx_rows hf hts hA (g := 3) (by decide)
  obtain ⟨t4, z4, r4⟩ := zx_rows hf hts hA (g := 4) (by decide)
  have h5 := zx_kst5
  simp only [Bool.and_eq_true] at h5
  obtain ⟨g1, g2, g3, g4, g5, g6⟩ := h5
  have hz5 : va_Z (zx_sx 5).1 (zx_sx 5).2.1 (zx_sx 5).2.2 (.int 1) (fun q : Nat => s.heap.size ≤ q) s s.heap := va_Zof (hts _ (zx_at_mem g2)) (hts _ (zx_at_mem g3)) (va_eqi (hf _ (zx_fat_mem g1))) hA
  have hz6 : ∃ vq : Value, va_Z (zx_sx 6).1 (zx_sx 6).2.1 (zx_sx 6).2.2 vq (fun q : Nat => s.heap.size ≤ q) s s.heap ∧ (vq = .null ∨ ∃ t, vq = .ref t) := by
    rcases va_Zqof (A := fun q : Nat => s.heap.size ≤ q) (hts _ (zx_at_mem g5)) (hts _ (zx_at_mem g6)) (hf _ (zx_fat_mem g4)) hA with h | ⟨t, h⟩
    · exact ⟨_, h, Or.inl rfl⟩
    · exact ⟨_, h, Or.inr ⟨t, rfl⟩⟩
  obtain ⟨vq, hq1, hq2⟩ := hz6
  have hG : ∀ w ∈ zx_G, w.before args s = true := fun w hw => hts w (List.mem_filter.mp hw).1
  have hXX := zx_ckX
  simp only [Bool.and_eq_true] at hXX
  obtain ⟨c0, k0, p0, a1, a2, a3⟩ := Cond.arrayClass_spec (hG _ (zx_inG_mem hXX.1))
  obtain ⟨c1, k1, p1, b1, b2, b3⟩ := Cond.arrayClass_spec (hG _ (zx_inG_mem hXX.2.1))
  obtain ⟨p2, c2, k2, d1, -, d2, d3, d4⟩ := Cond.arrayOver_spec (hts _ (zx_at_mem zx_ckY.1))
  obtain ⟨p3, c3, k3, e1, -, e2, e3, e4⟩ := Cond.arrayOver_spec (hts _ (zx_at_mem zx_ckY.2))
  have hkn : ∀ i : Nat, i < 9 → ∃ (cC : ClassId) (iS : Nat → Nat), u_Kn s (zx_R9 i) (zx_T8 i) (zx_fn i) cC iS := by
    intro i hi
    have hpI := List.all_eq_true.mp zx_ckP i (List.mem_range.mpr hi)
    split at hpI
    · rw [Bool.and_eq_true] at hpI
      exact u_known (ws := zx_G) hG (zx_hin hi) (hG _ (zx_inG_mem hpI.1))
    · cases hpI
  have hkn2 : ∀ i : Nat, ∃ q : ClassId × (Nat → Nat), i < 9 → u_Kn s (zx_R9 i) (zx_T8 i) (zx_fn i) q.1 q.2 := by
    intro i
    by_cases hi : i < 9
    · obtain ⟨a, b, h⟩ := hkn i hi
      exact ⟨(a, b), fun _ => h⟩
    · exact ⟨(c0, fun _ => 0), fun h => absurd h hi⟩
  obtain ⟨dd, hdd⟩ := Classical.axiomOfChoice hkn2
  refine ⟨fun t i => if t = 2 then adK i else if t = 3 then adV i else if t = 4 then (if i = 0 then t0 else if i = 1 then t1 else if i = 2 then t2 else if i = 3 then t3 else t4) else b, vq, fun t => if t = 0 then c0 else if t = 1 then c1 else if t = 2 then c2 else c3, (fun i => (dd i).1, fun i => (dd i).2), rfl, ⟨?_, ?_, ?_, ?_, hS, ?_, hz5, hq1, hq2, fun q e => by cases e; exact ⟨hX, hb, Nat.not_le.mpr hb⟩⟩, ⟨?_, ?_⟩⟩
  · intro w hw
    have h1 := zx_nw_k hw
    have h2 := hts w (List.mem_filter.mp hw).1
    cases w <;> first | exact va_Nw.of rfl h2 | (exact absurd h1 (by intro z; cases z))
  · exact va_AO.of (hts _ (zx_at_mem zx_ckY.1))
  · exact va_AO.of (hts _ (zx_at_mem zx_ckY.2))
  · intro i q hi
    have hi12 : i < 12 := (List.getElem?_eq_some_iff.mp hi).1
    have h1 := List.all_eq_true.mp zx_ckS q (List.mem_of_getElem? hi)
    have h2 := hE i hi12
    unfold zx_tm at h2
    rw [hi] at h2
    exact vk_R.of (hts _ (zx_at_mem h1)) h2
  · intro i hi
    rcases (show i = 0 ∨ i = 1 ∨ i = 2 ∨ i = 3 ∨ i = 4 by omega) with rfl | rfl | rfl | rfl | rfl
    · exact ⟨z0, r0⟩
    · exact ⟨z1, r1⟩
    · exact ⟨z2, r2⟩
    · exact ⟨z3, r3⟩
    · exact ⟨z4, r4⟩
  · intro c q hc
    have hc9 : c < 9 := (List.getElem?_eq_some_iff.mp hc).1
    rw [zx_clk hc9] at hc
    cases hc
    exact hdd c hc9
  · intro k q hk
    have hk4 : k < 4 := (List.getElem?_eq_some_iff.mp hk).1
    rcases (show k = 0 ∨ k = 1 ∨ k = 2 ∨ k = 3 by omega) with rfl | rfl | rfl | rfl
    · cases hk
      exact ⟨fun n z => ⟨fun k h => (by cases h), k0, a2, p0, a3⟩, a1⟩
    · cases hk
      exact ⟨fun n z => ⟨fun k h => (by cases h), k1, b2, p1, b3⟩, b1⟩
    · cases hk
      exact ⟨fun n z => ⟨fun k h => (by cases h), k2, d2, p2, d3⟩, k2, p2, d2, d3, d1, d4⟩
    · cases hk
      exact ⟨fun n z => ⟨fun k h => (by cases h), k3, e2, p3, e3⟩, k3, p3, e2, e3, e1, e4⟩
