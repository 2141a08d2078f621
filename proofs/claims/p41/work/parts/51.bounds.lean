section
/-! part 51: bounds behind an act; copies; persons and furlongs more -/
theorem zB2_rO {f : zS} {car : Int} {j : Nat} (h : zB2 f) : zB2 (zrestO f car j) := by
  intro k hk
  rw [zrestO_n (by decide), zrestO_n (by decide)]
  exact h k hk
theorem zB2_rA {f : zS} {j : Nat} (h : zB2 f) : zB2 (zrestA f j) := by
  intro k hk
  rw [zrestA_n (by decide), zrestA_n (by decide)]
  exact h k hk
theorem zB2_u4 {f : zS} {k : Nat} {x : Int} (h : zB2 f) : zB2 (zU f 4 k x) := by
  intro j hj
  rw [zU_o (by omega), zU_o (by omega)]
  exact h j hj
theorem zB2_c2 {f : zS} (h : zB2 f) : zB2 (zcar2 f) := by
  unfold zcar2
  split
  · exact zB2_u5 h
  · exact h
theorem zB3_rO {f : zS} {car : Int} {j : Nat} (h : zB3 f) : zB3 (zrestO f car j) := by
  intro k hk
  have b := h k hk
  rw [zrestO_n (by decide), zrestO_n (by decide)]
  refine ⟨b.1, b.2.1, b.2.2.1, b.2.2.2.1, ?_⟩
  unfold zrestO
  split
  · unfold zrest1
    split <;> (try split at *) <;> (try split at *) <;> omega
  · exact b.2.2.2.2
theorem zB3_rA {f : zS} {j : Nat} (h : zB3 f) : zB3 (zrestA f j) := by
  intro k hk
  have b := h k hk
  rw [zrestA_n (by decide), zrestA_n (by decide)]
  refine ⟨b.1, b.2.1, b.2.2.1, b.2.2.2.1, ?_⟩
  unfold zrestA
  split
  · split <;> omega
  · exact b.2.2.2.2
theorem zslope_b {f : zS} (h : zB2 f) (hh : 0 ≤ f 5 10 ∧ f 5 10 < 24) : -3 ≤ zslope f ∧ zslope f ≤ 3 := by
  have := h (f 5 10).toNat (by omega)
  unfold zslope
  omega
theorem zB_walkd {f : zS} (hm : 1 ≤ f 5 0 ∧ f 5 0 ≤ 9 ∧ 1 ≤ f 5 1 ∧ f 5 1 ≤ 9 ∧ 1 ≤ f 5 2 ∧ f 5 2 ≤ 99 ∧ 0 ≤ f 5 3 ∧ f 5 3 ≤ 9 ∧ 0 ≤ f 5 4 ∧ f 5 4 ≤ 9) (hn : 0 ≤ f 5 5 ∧ f 5 5 ≤ 24 ∧ 0 ≤ f 5 6 ∧ f 5 6 ≤ 6 ∧ -1 ≤ f 5 7 ∧ f 5 7 ≤ 5 ∧ 1 ≤ f 5 8 ∧ f 5 8 ≤ 12) (hk : 0 ≤ f 5 10 ∧ f 5 10 < f 5 5 ∧ 0 ≤ f 5 11 ∧ f 5 11 ≤ 910 + 12 * f 5 10 ∧ -2147483648 ≤ f 5 12 ∧ f 5 12 < 2147483648) (h2 : zB2 f) (h3 : zB3 f) : zB (zwalkd f) := by
  have sb := zslope_b h2 (by omega)
  refine ⟨?_, zB2_u5 (zB2_rO (zB2_u5 (zB2_u5 (zB2_u5 h2)))), zB3_u5 (zB3_rO (zB3_u5 (zB3_u5 (zB3_u5 h3))))⟩
  show zB1 (f 5 0) (f 5 1) (f 5 2) (f 5 3) (f 5 4) (f 5 5) (f 5 6) (f 5 7) (f 5 8 - 1) 0 (f 5 10 + 1) (f 5 11 + (9 + zslope f)) (f 5 12)
  omega
theorem zB_carry {f : zS} {a : Nat} (hB : zB f) (hc : zcarryOk f a) : zB (zcarry f a) := by
  have h1 := hB.1
  have h2 := hB.2.1
  have h3 := hB.2.2
  have c1 := hc.1
  have c2 := hc.2.1
  have c5 : f 4 a + zload f a (zslope f) ≤ f 5 2 := hc.2.2.2.2
  have sb := zslope_b h2 (by omega)
  have b := h3 a (by omega)
  have lb := zload_b (f := f) (p := a) (v := zslope f) sb (by omega)
  refine ⟨?_, zB2_u5 (zB2_rO (zB2_u5 (zB2_c2 (zB2_u5 (zB2_u4 h2))))), zB3_u5 (zB3_rO (zB3_u5 (zB3_c2 (zB3_u5 (zB3_u4 h3 (by omega))))))⟩
  have e : ∀ k, ¬ k = 8 → ¬ k = 9 → zcar2 (zcar1 f a) 5 k = f 5 k := fun k k8 k9 => by
    rw [zcar2_o (by omega)]
    unfold zcar1
    rw [zU_o (by omega), zU_o (by omega)]
  have e9 : zcar2 (zcar1 f a) 5 9 = f 5 9 + 1 := by
    rw [zcar2_o (by omega)]
    rfl
  have e8 : 0 ≤ zcar2 (zcar1 f a) 5 8 ∧ zcar2 (zcar1 f a) 5 8 ≤ 11 := by
    unfold zcar2
    split
    · rename_i g
      have g2 : f 5 8 < f 5 0 := g.2
      show 0 ≤ f 5 8 + 1 ∧ f 5 8 + 1 ≤ 11
      omega
    · show 0 ≤ f 5 8 ∧ f 5 8 ≤ 11
      omega
  show zB1 (zcar2 (zcar1 f a) 5 0) (zcar2 (zcar1 f a) 5 1) (zcar2 (zcar1 f a) 5 2) (zcar2 (zcar1 f a) 5 3) (zcar2 (zcar1 f a) 5 4) (zcar2 (zcar1 f a) 5 5) (zcar2 (zcar1 f a) 5 6) (zcar2 (zcar1 f a) 5 7) (zcar2 (zcar1 f a) 5 8) (zcar2 (zcar1 f a) 5 9) (f 5 10 + 1) (zcar2 (zcar1 f a) 5 11 + (if 3 < 6 + zslope f + (if zcar2 (zcar1 f a) 5 9 = 1 then 1 else 0) then 6 + zslope f + (if zcar2 (zcar1 f a) 5 9 = 1 then 1 else 0) else 3)) (zcar2 (zcar1 f a) 5 12)
  rw [e 0 (by decide) (by decide), e 1 (by decide) (by decide), e 2 (by decide) (by decide), e 3 (by decide) (by decide), e 4 (by decide) (by decide), e 5 (by decide) (by decide), e 6 (by decide) (by decide), e 7 (by decide) (by decide), e 11 (by decide) (by decide), e 12 (by decide) (by decide), e9]
  have t : 0 ≤ (if 3 < 6 + zslope f + (if f 5 9 + 1 = 1 then 1 else 0) then 6 + zslope f + (if f 5 9 + 1 = 1 then 1 else 0) else 3) ∧ (if 3 < 6 + zslope f + (if f 5 9 + 1 = 1 then 1 else 0) then 6 + zslope f + (if f 5 9 + 1 = 1 then 1 else 0) else 3) ≤ 12 := by
    split <;> (try split) <;> omega
  omega
theorem zB_resta {f : zS} (hB : zB f) (hr : f 5 11 ≤ 900) : zB (zresta f) := by
  have h1 := hB.1
  refine ⟨?_, zB2_rA (zB2_u5 (zB2_u5 (zB2_u5 hB.2.1))), zB3_rA (zB3_u5 (zB3_u5 (zB3_u5 hB.2.2)))⟩
  show zB1 (f 5 0) (f 5 1) (f 5 2) (f 5 3) (f 5 4) (f 5 5) (f 5 6) (f 5 7) (if f 5 8 < f 5 0 then f 5 0 else f 5 8) 0 (f 5 10) (f 5 11 + 10) (f 5 12)
  have t : 0 ≤ (if f 5 8 < f 5 0 then f 5 0 else f 5 8) ∧ (if f 5 8 < f 5 0 then f 5 0 else f 5 8) ≤ 11 := by split <;> omega
  omega
theorem zB_act {f : zS} {a : Int} (hB : zB f) (ha : zmay f a) : zB (zact f a) := by
  have h1 := hB.1
  have h2 := hB.2.1
  have h3 := hB.2.2
  unfold zact
  rcases ha with z | z | z | z | z
  · rw [if_pos z.1]
    have w := z.2.1.1
    exact zB_walkd (by omega) (by omega) (by omega) h2 h3
  · rw [if_neg (by omega), if_pos z.1]
    have w := z.2.1.1
    have t : 1 ≤ (if f 5 0 + 2 < f 5 8 + 2 then f 5 0 + 2 else f 5 8 + 2) ∧ (if f 5 0 + 2 < f 5 8 + 2 then f 5 0 + 2 else f 5 8 + 2) ≤ 12 := by split <;> omega
    refine zB_walkd ?_ ?_ ?_ (zB2_u5 (zB2_u5 h2)) (zB3_u5 (zB3_u5 h3))
    · show 1 ≤ f 5 0 ∧ f 5 0 ≤ 9 ∧ 1 ≤ f 5 1 ∧ f 5 1 ≤ 9 ∧ 1 ≤ f 5 2 ∧ f 5 2 ≤ 99 ∧ 0 ≤ f 5 3 - 1 ∧ f 5 3 - 1 ≤ 9 ∧ 0 ≤ f 5 4 ∧ f 5 4 ≤ 9
      omega
    · show 0 ≤ f 5 5 ∧ f 5 5 ≤ 24 ∧ 0 ≤ f 5 6 ∧ f 5 6 ≤ 6 ∧ -1 ≤ f 5 7 ∧ f 5 7 ≤ 5 ∧ 1 ≤ (if f 5 0 + 2 < f 5 8 + 2 then f 5 0 + 2 else f 5 8 + 2) ∧ (if f 5 0 + 2 < f 5 8 + 2 then f 5 0 + 2 else f 5 8 + 2) ≤ 12
      omega
    · show 0 ≤ f 5 10 ∧ f 5 10 < f 5 5 ∧ 0 ≤ f 5 11 ∧ f 5 11 ≤ 910 + 12 * f 5 10 ∧ -2147483648 ≤ f 5 12 ∧ f 5 12 < 2147483648
      omega
  · rw [if_neg (by omega), if_neg (by omega), if_pos z.1]
    have w := z.2.1.1
    have t : 1 ≤ (if f 5 0 + 2 < f 5 8 + 1 then f 5 0 + 2 else f 5 8 + 1) ∧ (if f 5 0 + 2 < f 5 8 + 1 then f 5 0 + 2 else f 5 8 + 1) ≤ 12 := by split <;> omega
    refine zB_walkd ?_ ?_ ?_ (zB2_u5 (zB2_u5 h2)) (zB3_u5 (zB3_u5 h3))
    · show 1 ≤ f 5 0 ∧ f 5 0 ≤ 9 ∧ 1 ≤ f 5 1 ∧ f 5 1 ≤ 9 ∧ 1 ≤ f 5 2 ∧ f 5 2 ≤ 99 ∧ 0 ≤ f 5 3 ∧ f 5 3 ≤ 9 ∧ 0 ≤ f 5 4 - 1 ∧ f 5 4 - 1 ≤ 9
      omega
    · show 0 ≤ f 5 5 ∧ f 5 5 ≤ 24 ∧ 0 ≤ f 5 6 ∧ f 5 6 ≤ 6 ∧ -1 ≤ f 5 7 ∧ f 5 7 ≤ 5 ∧ 1 ≤ (if f 5 0 + 2 < f 5 8 + 1 then f 5 0 + 2 else f 5 8 + 1) ∧ (if f 5 0 + 2 < f 5 8 + 1 then f 5 0 + 2 else f 5 8 + 1) ≤ 12
      omega
    · show 0 ≤ f 5 10 ∧ f 5 10 < f 5 5 ∧ 0 ≤ f 5 11 ∧ f 5 11 ≤ 910 + 12 * f 5 10 ∧ -2147483648 ≤ f 5 12 ∧ f 5 12 < 2147483648
      omega
  · rw [if_neg (by omega), if_neg (by omega), if_neg (by omega), if_pos z.1]
    exact zB_resta hB z.2.1
  · rw [if_neg z.1, if_neg z.2.1, if_neg z.2.2.1, if_neg z.2.2.2.1]
    have c := z.2.2.2.2
    have c1 := c.1
    refine zB_carry hB ?_
    rw [show ((a.toNat : Nat) : Int) = a by omega]
    exact c
end
section
/-! part 52: the class's copies, what is asked, persons and furlongs more: laid by wip/flat/w52.py -/
def zcopy (f g : zS) : zS := fun c k => if c = 4 then g 4 k else if c = 5 then (if k = 5 ∨ k = 6 then f 5 k else g 5 k) else f c k
def zcopyw (f g : zS) : zS := fun c k => if c ≤ 3 then g c k else if c = 5 ∧ (k = 5 ∨ k = 6) then g 5 k else f c k
def zaddF (f : zS) (s t : Int) : zS := zU (zU (zU f 0 (f 5 5).toNat s) 1 (f 5 5).toNat t) 5 5 (f 5 5 + 1)
def zaddP (f : zS) (k a : Int) : zS := zU (zU (zU (zU f 2 (f 5 6).toNat k) 3 (f 5 6).toNat a) 4 (f 5 6).toNat 0) 5 6 (f 5 6 + 1)
def zask (f : zS) (w : Nat) (v : Int) : zS := if w = 0 then zU (zU f 5 0 v) 5 8 (if v < f 5 8 then v else f 5 8) else zU f 5 w v
theorem zf_cp1 {m : zf_Me} {x y sp dp n a : Nat} (h : ¬ a = y) : (zf_cp m x y sp dp n).1 a = m.1 a := if_neg h
theorem zf_cp2 {m : zf_Me} {x y n : Nat} {b : Nat} (h : b < n) : (zf_cp m x y 0 0 n).1 y b = m.1 x b := by
  show (if y = y then _ else _ : Nat → Int32) b = _
  rw [if_pos rfl]
  show (if 0 ≤ b ∧ b < 0 + n then m.1 x (0 + (b - 0)) else m.1 y b) = _
  rw [if_pos (by omega), show 0 + (b - 0) = b by omega]
theorem zN_eq {n k : Nat} {a b : Nat → Int32} (h : ∀ j, j < n → a j = b j) : zN n a k = zN n b k := by
  unfold zN
  by_cases e : k < n
  · rw [if_pos e, if_pos e, h k e]
  · rw [if_neg e, if_neg e]
theorem zfr_cp {P : Nat → Prop} {m m' : zf_Me} {x y sp dp n : Nat} (h : zfr P m m') (hc : P y) : zfr P m (zf_cp m' x y sp dp n) := ⟨fun i hi => (zf_cp1 (fun e => hi (by rw [e]; exact hc))).trans (h.1 i hi), h.2⟩
section
variable {w y r w1 y1 r1 : Nat} {m : zf_Me}
theorem zs_43 (hd : zD w y r) (hw : ¬ w1 = w ∧ ¬ w1 = r ∧ ¬ r1 = w ∧ ¬ r1 = r) {Q : zf_Me → Prop} (hq : ∀ m', zv w y r m' = zcopy (zv w y r m) (zv w1 y1 r1 m) → zfw w r m m' → Q m') : wp_43 w y r w1 y1 r1 m Q := by
  intro m1 q1 m3 q3 m5 q5 m7 q7 m9 q9 m11 q11 m13 q13 m15 q15 m17 q17 m19 q19 m21 q21 m23 q23
  have f1 : zfw w r m m1 := by rw [q1]; exact zfr_cp zfr_refl (Or.inr rfl)
  have d1 : m1.1 w1 = m.1 w1 := f1.1 w1 (by omega)
  have f3 : zfw w r m m3 := by rw [q3]; exact zfr_u f1 (Or.inl rfl)
  have d3 : m3.1 w1 = m.1 w1 := f3.1 w1 (by omega)
  have f5 : zfw w r m m5 := by rw [q5]; exact zfr_u f3 (Or.inl rfl)
  have d5 : m5.1 w1 = m.1 w1 := f5.1 w1 (by omega)
  have f7 : zfw w r m m7 := by rw [q7]; exact zfr_u f5 (Or.inl rfl)
  have d7 : m7.1 w1 = m.1 w1 := f7.1 w1 (by omega)
  have f9 : zfw w r m m9 := by rw [q9]; exact zfr_u f7 (Or.inl rfl)
  have d9 : m9.1 w1 = m.1 w1 := f9.1 w1 (by omega)
  have f11 : zfw w r m m11 := by rw [q11]; exact zfr_u f9 (Or.inl rfl)
  have d11 : m11.1 w1 = m.1 w1 := f11.1 w1 (by omega)
  have f13 : zfw w r m m13 := by rw [q13]; exact zfr_u f11 (Or.inl rfl)
  have d13 : m13.1 w1 = m.1 w1 := f13.1 w1 (by omega)
  have f15 : zfw w r m m15 := by rw [q15]; exact zfr_u f13 (Or.inl rfl)
  have d15 : m15.1 w1 = m.1 w1 := f15.1 w1 (by omega)
  have f17 : zfw w r m m17 := by rw [q17]; exact zfr_u f15 (Or.inl rfl)
  have d17 : m17.1 w1 = m.1 w1 := f17.1 w1 (by omega)
  have f19 : zfw w r m m19 := by rw [q19]; exact zfr_u f17 (Or.inl rfl)
  have d19 : m19.1 w1 = m.1 w1 := f19.1 w1 (by omega)
  have f21 : zfw w r m m21 := by rw [q21]; exact zfr_u f19 (Or.inl rfl)
  have d21 : m21.1 w1 = m.1 w1 := f21.1 w1 (by omega)
  have f23 : zfw w r m m23 := by rw [q23]; exact zfr_u f21 (Or.inl rfl)
  have d23 : m23.1 w1 = m.1 w1 := f23.1 w1 (by omega)
  have s2 : m23.1 w 2 = m.1 w1 2 := by rw [q23, zf_u4 (by decide), q21, zf_u4 (by decide), q19, zf_u4 (by decide), q17, zf_u4 (by decide), q15, zf_u4 (by decide), q13, zf_u4 (by decide), q11, zf_u4 (by decide), q9, zf_u4 (by decide), q7, zf_u4 (by decide), q5, zf_u4 (by decide), q3, zf_u3, d1]
  have s3 : m23.1 w 3 = m.1 w1 3 := by rw [q23, zf_u4 (by decide), q21, zf_u4 (by decide), q19, zf_u4 (by decide), q17, zf_u4 (by decide), q15, zf_u4 (by decide), q13, zf_u4 (by decide), q11, zf_u4 (by decide), q9, zf_u4 (by decide), q7, zf_u4 (by decide), q5, zf_u3, d3]
  have s4 : m23.1 w 4 = m.1 w1 4 := by rw [q23, zf_u4 (by decide), q21, zf_u4 (by decide), q19, zf_u4 (by decide), q17, zf_u4 (by decide), q15, zf_u4 (by decide), q13, zf_u4 (by decide), q11, zf_u4 (by decide), q9, zf_u4 (by decide), q7, zf_u3, d5]
  have s5 : m23.1 w 5 = m.1 w1 5 := by rw [q23, zf_u4 (by decide), q21, zf_u4 (by decide), q19, zf_u4 (by decide), q17, zf_u4 (by decide), q15, zf_u4 (by decide), q13, zf_u4 (by decide), q11, zf_u4 (by decide), q9, zf_u3, d7]
  have s6 : m23.1 w 6 = m.1 w1 6 := by rw [q23, zf_u4 (by decide), q21, zf_u4 (by decide), q19, zf_u4 (by decide), q17, zf_u4 (by decide), q15, zf_u4 (by decide), q13, zf_u4 (by decide), q11, zf_u3, d9]
  have s7 : m23.1 w 7 = m.1 w1 7 := by rw [q23, zf_u4 (by decide), q21, zf_u4 (by decide), q19, zf_u4 (by decide), q17, zf_u4 (by decide), q15, zf_u4 (by decide), q13, zf_u3, d11]
  have s8 : m23.1 w 8 = m.1 w1 8 := by rw [q23, zf_u4 (by decide), q21, zf_u4 (by decide), q19, zf_u4 (by decide), q17, zf_u4 (by decide), q15, zf_u3, d13]
  have s9 : m23.1 w 9 = m.1 w1 9 := by rw [q23, zf_u4 (by decide), q21, zf_u4 (by decide), q19, zf_u4 (by decide), q17, zf_u3, d15]
  have s10 : m23.1 w 10 = m.1 w1 10 := by rw [q23, zf_u4 (by decide), q21, zf_u4 (by decide), q19, zf_u3, d17]
  have s11 : m23.1 w 11 = m.1 w1 11 := by rw [q23, zf_u4 (by decide), q21, zf_u3, d19]
  have s12 : m23.1 w 12 = m.1 w1 12 := by rw [q23, zf_u3, d21]
  have sr : ∀ k, k < 6 → m23.1 r k = m.1 r1 k := fun k hk => by rw [q23, zf_u1 (by omega), q21, zf_u1 (by omega), q19, zf_u1 (by omega), q17, zf_u1 (by omega), q15, zf_u1 (by omega), q13, zf_u1 (by omega), q11, zf_u1 (by omega), q9, zf_u1 (by omega), q7, zf_u1 (by omega), q5, zf_u1 (by omega), q3, zf_u1 (by omega), q1, zf_cp2 hk]
  refine hq m23 ?_ f23
  funext c k
  match c with
  | 0 => show zN 24 (m23.1 (y + 1)) k = zN 24 (m.1 (y + 1)) k; rw [f23.1 _ (by omega)]
  | 1 => show zN 24 (m23.1 (y + 2)) k = zN 24 (m.1 (y + 2)) k; rw [f23.1 _ (by omega)]
  | 2 => show zN 6 (m23.1 (y + 3)) k = zN 6 (m.1 (y + 3)) k; rw [f23.1 _ (by omega)]
  | 3 => show zN 6 (m23.1 (y + 4)) k = zN 6 (m.1 (y + 4)) k; rw [f23.1 _ (by omega)]
  | 4 => show zN 6 (m23.1 r) k = zN 6 (m.1 r1) k; exact zN_eq sr
  | 5 =>
    match k with
    | 0 => show (m23.1 w 3).toInt = (m.1 w1 3).toInt; rw [s3]
    | 1 => show (m23.1 w 5).toInt = (m.1 w1 5).toInt; rw [s5]
    | 2 => show (m23.1 w 9).toInt = (m.1 w1 9).toInt; rw [s9]
    | 3 => show (m23.1 w 7).toInt = (m.1 w1 7).toInt; rw [s7]
    | 4 => show (m23.1 w 8).toInt = (m.1 w1 8).toInt; rw [s8]
    | 5 => show (m23.1 y 4).toInt = (m.1 y 4).toInt; rw [f23.1 _ (by omega)]
    | 6 => show (m23.1 y 5).toInt = (m.1 y 5).toInt; rw [f23.1 _ (by omega)]
    | 7 => show (m23.1 w 2).toInt = (m.1 w1 2).toInt; rw [s2]
    | 8 => show (m23.1 w 4).toInt = (m.1 w1 4).toInt; rw [s4]
    | 9 => show (m23.1 w 6).toInt = (m.1 w1 6).toInt; rw [s6]
    | 10 => show (m23.1 w 10).toInt = (m.1 w1 10).toInt; rw [s10]
    | 11 => show (m23.1 w 11).toInt = (m.1 w1 11).toInt; rw [s11]
    | 12 => show (m23.1 w 12).toInt = (m.1 w1 12).toInt; rw [s12]
    | n + 13 => show (0 : Int) = (if n + 13 = 5 ∨ n + 13 = 6 then (0 : Int) else 0); split <;> rfl
  | n + 6 => rfl
theorem zcopy_same {m : zf_Me} : zcopy (zv w y r m) (zv w1 y r1 m) = zv w1 y r1 m := by
  funext c k
  match c with
  | 0 => rfl
  | 1 => rfl
  | 2 => rfl
  | 3 => rfl
  | 4 => rfl
  | 5 =>
    match k with
    | 0 => rfl
    | 1 => rfl
    | 2 => rfl
    | 3 => rfl
    | 4 => rfl
    | 5 => rfl
    | 6 => rfl
    | 7 => rfl
    | 8 => rfl
    | 9 => rfl
    | 10 => rfl
    | 11 => rfl
    | 12 => rfl
    | n + 13 => show (if n + 13 = 5 ∨ n + 13 = 6 then (0 : Int) else 0) = 0; split <;> rfl
  | n + 6 => rfl
/-- a copy on the same way -/
theorem zs_43s (hd : zD w y r) (hw : ¬ w1 = w ∧ ¬ w1 = r ∧ ¬ r1 = w ∧ ¬ r1 = r) {Q : zf_Me → Prop} (hq : ∀ m', zv w y r m' = zv w1 y r1 m → zfw w r m m' → Q m') : wp_43 w y r w1 y r1 m Q :=
  zs_43 hd hw (fun m' z f => hq m' (z.trans zcopy_same) f)
abbrev zfy (y : Nat) (m m' : zf_Me) : Prop := zfr (fun a => y ≤ a ∧ a ≤ y + 4) m m'
theorem zs_63 (hd : zD w y r) (hw : y1 + 4 < y ∨ y + 4 < y1) {Q : zf_Me → Prop} (hq : ∀ m', zv w y r m' = zcopyw (zv w y r m) (zv w1 y1 r1 m) → zfy y m m' → Q m') : wp_63 y y1 m Q := by
  intro m1 q1 m3 q3 m5 q5 m7 q7 m9 q9 m11 q11
  have f1 : zfy y m m1 := by rw [q1]; exact zfr_cp zfr_refl (by omega)
  have f3 : zfy y m m3 := by rw [q3]; exact zfr_cp f1 (by omega)
  have f5 : zfy y m m5 := by rw [q5]; exact zfr_cp f3 (by omega)
  have f7 : zfy y m m7 := by rw [q7]; exact zfr_cp f5 (by omega)
  have f9 : zfy y m m9 := by rw [q9]; exact zfr_u f7 (by omega)
  have f11 : zfy y m m11 := by rw [q11]; exact zfr_u f9 (by omega)
  have s1 : ∀ k, k < 24 → m11.1 (y + 1) k = m.1 (y1 + 1) k := fun k hk => by rw [q11, zf_u1 (by omega), q9, zf_u1 (by omega), q7, zf_cp1 (by omega), q5, zf_cp1 (by omega), q3, zf_cp1 (by omega), q1, zf_cp2 hk]
  have s2 : ∀ k, k < 24 → m11.1 (y + 2) k = m.1 (y1 + 2) k := fun k hk => by rw [q11, zf_u1 (by omega), q9, zf_u1 (by omega), q7, zf_cp1 (by omega), q5, zf_cp1 (by omega), q3, zf_cp2 hk, f1.1 _ (by omega)]
  have s3 : ∀ k, k < 6 → m11.1 (y + 3) k = m.1 (y1 + 3) k := fun k hk => by rw [q11, zf_u1 (by omega), q9, zf_u1 (by omega), q7, zf_cp1 (by omega), q5, zf_cp2 hk, f3.1 _ (by omega)]
  have s4 : ∀ k, k < 6 → m11.1 (y + 4) k = m.1 (y1 + 4) k := fun k hk => by rw [q11, zf_u1 (by omega), q9, zf_u1 (by omega), q7, zf_cp2 hk, f5.1 _ (by omega)]
  have t4 : m11.1 y 4 = m.1 y1 4 := by rw [q11, zf_u4 (by decide), q9, zf_u3, f7.1 _ (by omega)]
  have t5 : m11.1 y 5 = m.1 y1 5 := by rw [q11, zf_u3, f9.1 _ (by omega)]
  refine hq m11 ?_ f11
  funext c k
  match c with
  | 0 => show zN 24 (m11.1 (y + 1)) k = zN 24 (m.1 (y1 + 1)) k; exact zN_eq s1
  | 1 => show zN 24 (m11.1 (y + 2)) k = zN 24 (m.1 (y1 + 2)) k; exact zN_eq s2
  | 2 => show zN 6 (m11.1 (y + 3)) k = zN 6 (m.1 (y1 + 3)) k; exact zN_eq s3
  | 3 => show zN 6 (m11.1 (y + 4)) k = zN 6 (m.1 (y1 + 4)) k; exact zN_eq s4
  | 4 => show zN 6 (m11.1 r) k = zN 6 (m.1 r) k; rw [f11.1 _ (by omega)]
  | 5 =>
    match k with
    | 0 => show (m11.1 w 3).toInt = (m.1 w 3).toInt; rw [f11.1 _ (by omega)]
    | 1 => show (m11.1 w 5).toInt = (m.1 w 5).toInt; rw [f11.1 _ (by omega)]
    | 2 => show (m11.1 w 9).toInt = (m.1 w 9).toInt; rw [f11.1 _ (by omega)]
    | 3 => show (m11.1 w 7).toInt = (m.1 w 7).toInt; rw [f11.1 _ (by omega)]
    | 4 => show (m11.1 w 8).toInt = (m.1 w 8).toInt; rw [f11.1 _ (by omega)]
    | 5 => show (m11.1 y 4).toInt = (m.1 y1 4).toInt; rw [t4]
    | 6 => show (m11.1 y 5).toInt = (m.1 y1 5).toInt; rw [t5]
    | 7 => show (m11.1 w 2).toInt = (m.1 w 2).toInt; rw [f11.1 _ (by omega)]
    | 8 => show (m11.1 w 4).toInt = (m.1 w 4).toInt; rw [f11.1 _ (by omega)]
    | 9 => show (m11.1 w 6).toInt = (m.1 w 6).toInt; rw [f11.1 _ (by omega)]
    | 10 => show (m11.1 w 10).toInt = (m.1 w 10).toInt; rw [f11.1 _ (by omega)]
    | 11 => show (m11.1 w 11).toInt = (m.1 w 11).toInt; rw [f11.1 _ (by omega)]
    | 12 => show (m11.1 w 12).toInt = (m.1 w 12).toInt; rw [f11.1 _ (by omega)]
    | n + 13 => show (0 : Int) = (if 5 ≤ 3 then _ else if 5 = 5 ∧ (n + 13 = 5 ∨ n + 13 = 6) then (0 : Int) else 0); rw [if_neg (by decide)]; split <;> rfl
  | n + 6 => show (0 : Int) = (if n + 6 ≤ 3 then _ else if n + 6 = 5 ∧ _ then _ else 0); rw [if_neg (by omega), if_neg (by omega)]
theorem zcopy_both {f g : zS} (h : ∀ c k, 5 < c → f c k = g c k) : zcopy (zcopyw f g) g = g := by
  funext c k
  unfold zcopy zcopyw
  by_cases e4 : c = 4
  · rw [if_pos e4, e4]
  · rw [if_neg e4]
    by_cases e5 : c = 5
    · rw [if_pos e5]
      subst e5
      by_cases ek : k = 5 ∨ k = 6
      · rw [if_pos ek, if_neg (by decide), if_pos ⟨rfl, ek⟩]
      · rw [if_neg ek]
    · rw [if_neg e5]
      by_cases e3 : c ≤ 3
      · rw [if_pos e3]
      · rw [if_neg e3, if_neg (fun z => e5 z.1)]
        exact h c k (by omega)
theorem zv_6 (a b d : Nat) (m : zf_Me) (n k : Nat) : zv a b d m (n + 6) k = 0 := rfl
theorem zv_hi {m m' : zf_Me} {a b d w y r : Nat} (c k : Nat) (h : 5 < c) : zv a b d m c k = zv w y r m' c k := by
  have e : c = (c - 6) + 6 := by omega
  rw [e, zv_6, zv_6]
/-- way and walk copied -/
theorem zs_63_43 (hd : zD w y r) (hw : y1 + 4 < y ∨ y + 4 < y1) (hx : ¬ w1 = w ∧ ¬ w1 = r ∧ ¬ r1 = w ∧ ¬ r1 = r) (h1 : (w1 < y ∨ y + 4 < w1) ∧ (r1 < y ∨ y + 4 < r1) ∧ (w < y1 ∨ y1 + 4 < w) ∧ (r < y1 ∨ y1 + 4 < r)) {Q : zf_Me → Prop} (hq : ∀ m', zv w y r m' = zv w1 y1 r1 m → zfr (fun a => (a = w ∨ a = r) ∨ (y ≤ a ∧ a ≤ y + 4)) m m' → Q m') : wp_63 y y1 m (fun m2 => wp_43 w y r w1 y1 r1 m2 Q) := by
  refine zs_63 (w := w) (r := r) (w1 := w1) (r1 := r1) hd hw (fun m2 z2 f2 => zs_43 hd hx (fun m3 z3 f3 => hq m3 ?_ ?_))
  · have e : zv w1 y1 r1 m2 = zv w1 y1 r1 m := zv_fr (f2.1 _ (by omega)) (fun a _ _ => f2.1 _ (by omega)) (f2.1 _ (by omega))
    rw [z3, z2, e]
    exact zcopy_both (fun c k h => zv_hi c k h)
  · exact zfr_trans (zfr_mono f2 (fun a ha => Or.inr ha)) (zfr_mono f3 (fun a ha => Or.inl ha))
theorem zs_44 (hd : zD w y r) (hp : 0 ≤ (m.1 y 5).toInt ∧ (m.1 y 5).toInt < 6) {k a : Int32} {Q : Int32 → zf_Me → Prop} (hq : ∀ m', zv w y r m' = zaddP (zv w y r m) k.toInt a.toInt → zfr (fun a => a = r ∨ (y ≤ a ∧ a ≤ y + 4)) m m' → Q (m.1 y 5) m') : wp_44 w y r k a m Q := by
  have e1 : (1 : Int32).toInt = 1 := rfl
  have e0 : (0 : Int32).toInt = 0 := rfl
  refine ⟨hp, fun m1 q1 => ?_⟩
  have f1 : zfr (fun a => a = r ∨ (y ≤ a ∧ a ≤ y + 4)) m m1 := by rw [q1]; exact zfr_u zfr_refl (Or.inr (by omega))
  have c1 : m1.1 y 5 = m.1 y 5 := by rw [q1, zf_u1 (by omega)]
  rw [c1]
  refine ⟨hp, fun m3 q3 => ?_⟩
  have f3 : zfr (fun a => a = r ∨ (y ≤ a ∧ a ≤ y + 4)) m m3 := by rw [q3]; exact zfr_u f1 (Or.inr (by omega))
  have c3 : m3.1 y 5 = m.1 y 5 := by rw [q3, zf_u1 (by omega), c1]
  rw [c3]
  refine ⟨hp, fun m5 q5 m7 q7 => ?_⟩
  have f5 : zfr (fun a => a = r ∨ (y ≤ a ∧ a ≤ y + 4)) m m5 := by rw [q5]; exact zfr_u f3 (Or.inl rfl)
  have c5 : m5.1 y 5 = m.1 y 5 := by rw [q5, zf_u1 (by omega), c3]
  rw [c5]
  refine hq m7 ?_ (by rw [q7]; exact zfr_u f5 (Or.inr (by omega)))
  rw [q7, zv_y5 hd, q5, zv_a4 hd (by omega), q3, zv_a3 hd (by omega), q1, zv_a2 hd (by omega), ← q1, ← q3, ← q5, c5, fb_addI (by omega) (by omega), e0, e1]
  rfl
theorem zs_66 (hd : zD w y r) (hp : 0 ≤ (m.1 y 4).toInt ∧ (m.1 y 4).toInt < 24) {s t : Int32} {Q : Int32 → zf_Me → Prop} (hq : ∀ m', zv w y r m' = zaddF (zv w y r m) s.toInt (if t.toInt = 0 then 0 else 1) → zfy y m m' → Q (m.1 y 4) m') : wp_66 y s t m Q := by
  have e1 : (1 : Int32).toInt = 1 := rfl
  have e0 : (0 : Int32).toInt = 0 := rfl
  refine ⟨hp, fun m1 q1 => ?_⟩
  have f1 : zfy y m m1 := by rw [q1]; exact zfr_u zfr_refl (by omega)
  have c1 : m1.1 y 4 = m.1 y 4 := by rw [q1, zf_u1 (by omega)]
  rw [c1]
  have fin : ∀ u : Int32, u.toInt = (if t.toInt = 0 then 0 else 1) → wq_66_27 y s t u (m.1 y 4) m1 Q := by
    intro u hu
    refine ⟨hp, fun m3 q3 m5 q5 => ?_⟩
    have f3 : zfy y m m3 := by rw [q3]; exact zfr_u f1 (by omega)
    have c3 : m3.1 y 4 = m.1 y 4 := by rw [q3, zf_u1 (by omega), c1]
    rw [c3]
    refine hq m5 ?_ (by rw [q5]; exact zfr_u f3 (by omega))
    rw [q5, zv_y4 hd, q3, zv_a1 hd (by omega), q1, zv_a0 hd (by omega), ← q1, ← q3, c3, fb_addI (by omega) (by omega), e1, hu]
    rfl
  exact ⟨fun g => fin 0 (by rw [if_pos g]; rfl), fun g => fin 1 (by rw [if_neg g]; rfl)⟩
theorem zs_45 {q : Int32} (hq0 : 0 ≤ q.toInt ∧ q.toInt < 5) {Q : Int32 → zf_Me → Prop} (hq : ∀ x : Int32, x.toInt = zv w y r m 5 q.toInt.toNat → Q x m) : wp_45 w y r q m Q := by
  refine ⟨fun g => hq _ ?_, fun g => hq _ ?_, fun g => hq _ ?_, fun g => hq _ ?_, fun g => hq _ ?_⟩
  · rw [show q.toInt.toNat = 4 by omega]; rfl
  · rw [g]; rfl
  · rw [g]; rfl
  · rw [g]; rfl
  · rw [g]; rfl
theorem zs_46 (hd : zD w y r) {q v : Int32} (hq0 : 0 ≤ q.toInt ∧ q.toInt < 5) {Q : zf_Me → Prop} (hq : ∀ m', zv w y r m' = zask (zv w y r m) q.toInt.toNat v.toInt → zfw w r m m' → Q m') : wp_46 w y r q v m Q := by
  refine ⟨fun g m1 q1 => hq _ ?_ ?_, fun g m3 q3 m5 q5 => hq _ ?_ ?_, fun g m1 q1 => hq _ ?_ ?_, fun g m1 q1 => hq _ ?_ ?_, fun g m1 q1 => hq _ ?_ ?_⟩
  · rw [q1, zv_w8 hd, show q.toInt.toNat = 4 by omega]; rfl
  · rw [q1]; exact zfr_u zfr_refl (Or.inl rfl)
  · rw [q5, zv_w4 hd, zi_min, q3, zv_w3 hd, zf_u4 (by decide), g]; rfl
  · rw [q5, q3]; exact zfr_u (zfr_u zfr_refl (Or.inl rfl)) (Or.inl rfl)
  · rw [q1, zv_w5 hd, g]; rfl
  · rw [q1]; exact zfr_u zfr_refl (Or.inl rfl)
  · rw [q1, zv_w9 hd, g]; rfl
  · rw [q1]; exact zfr_u zfr_refl (Or.inl rfl)
  · rw [q1, zv_w7 hd, g]; rfl
  · rw [q1]; exact zfr_u zfr_refl (Or.inl rfl)
end
end
section
/-! part 53: rules as functions; the class's rules keep to them -/
def zwho (f : zS) (t : Int) : Nat → Nat → Int
  | 0, _ => -1
  | k + 1, i => if zcarryOk f ((t + i) % f 5 6) then (t + i) % f 5 6 else zwho f t k (i + 1)
def zfresh (f : zS) : Nat → Int
  | 0 => -1
  | j + 1 => if zcarryOk f j ∧ (zfresh f j = -1 ∨ f 4 j < f 4 (zfresh f j).toNat) then j else zfresh f j
def zfirst (f : zS) (rule t : Int) : Int := if rule = 0 then zwho f t (f 5 6).toNat 0 else zfresh f (f 5 6).toNat
def zrest (f : zS) (p : Int) : Int := if p = -1 then (if zmay f 6 then 6 else if zmay f 9 then 9 else -1) else p
def zchoose (f : zS) (rule t : Int) : Int := if 2 ≤ rule ∧ zmay f 6 then 6 else if rule = 3 ∧ zmay f 7 then 7 else if rule = 3 ∧ zmay f 8 then 8 else zrest f (zfirst f rule t)
def zturn1 (f : zS) (rule t : Int) : Int := if rule = 0 ∧ ¬ zwho f t (f 5 6).toNat 0 = -1 then zwho f t (f 5 6).toNat 0 else t
abbrev zRS : Type := zS × Int × Int × Int
def znext (s : zRS) (rule a : Int) : zRS := (zact s.1 a, (if ¬ a = 9 ∧ 0 < s.1 5 6 ∧ zact s.1 a 1 (zact s.1 a 5 10 - 1).toNat = 1 then (zturn1 s.1 rule s.2.1 + 1) % s.1 5 6 else zturn1 s.1 rule s.2.1), s.2.2.1 + 1, (if s.2.2.2 < zgr (zact s.1 a) (s.1 5 6).toNat then zgr (zact s.1 a) (s.1 5 6).toNat else s.2.2.2))
def zstp (s : zRS) (rule : Int) : Option zRS := if s.2.2.1 < 60 ∧ s.1 5 10 < s.1 5 5 ∧ ¬ zchoose s.1 rule s.2.1 = -1 then some (znext s rule (zchoose s.1 rule s.2.1)) else none
def zgo (rule : Int) : Nat → zRS → zRS
  | 0, s => s
  | n + 1, s => match zstp s rule with
    | none => s
    | some s' => zgo rule n s'
def zbeg (f : zS) : zRS := (f, 0, 0, zgr f (f 5 6).toNat)
def zRB (s : zRS) : Prop := zB s.1 ∧ (0 ≤ s.2.1 ∧ s.2.1 ≤ 5) ∧ (0 ≤ s.2.2.1 ∧ s.2.2.1 ≤ 60) ∧ 0 ≤ s.2.2.2 ∧ s.2.2.2 ≤ 99
theorem zgr_b {f : zS} (h : zB3 f) : ∀ n, n ≤ 6 → 0 ≤ zgr f n ∧ zgr f n ≤ 99
  | 0, _ => ⟨Int.le_refl 0, (by decide : (0 : Int) ≤ 99)⟩
  | n + 1, hn => by
    have i := zgr_b h n (by omega)
    have b := h n (by omega)
    unfold zgr
    split <;> omega
theorem zact_people {f : zS} {a : Int} : zact f a 5 6 = f 5 6 := by
  unfold zact
  split
  · rfl
  · split
    · rfl
    · split
      · rfl
      · split
        · rfl
        · show zcar2 (zcar1 f a.toNat) 5 6 = _
          rw [zcar2_o (by decide)]
          rfl
theorem zact_furlongs {f : zS} {a : Int} : zact f a 5 5 = f 5 5 := by
  unfold zact
  split
  · rfl
  · split
    · rfl
    · split
      · rfl
      · split
        · rfl
        · show zcar2 (zcar1 f a.toNat) 5 5 = _
          rw [zcar2_o (by decide)]
          rfl
theorem zact_here {f : zS} {a : Int} : zact f a 5 10 = if a = 9 then f 5 10 else f 5 10 + 1 := by
  unfold zact
  split
  · rw [if_neg (c := a = 9) (by omega)]; rfl
  · split
    · rw [if_neg (c := a = 9) (by omega)]; rfl
    · split
      · rw [if_neg (c := a = 9) (by omega)]; rfl
      · split
        · rfl
        · rfl
theorem zcar_may {f : zS} {p : Int} (hB : zB f) (h : zcarryOk f p) : zmay f p := by
  have := hB.1
  have := h.1
  exact Or.inr (Or.inr (Or.inr (Or.inr ⟨by omega, by omega, by omega, by omega, h⟩)))
theorem zwho_ok (f : zS) (t : Int) : ∀ k i, zwho f t k i = -1 ∨ zcarryOk f (zwho f t k i)
  | 0, _ => Or.inl rfl
  | k + 1, i => by
    unfold zwho
    split
    · rename_i h
      exact Or.inr h
    · exact zwho_ok f t k (i + 1)
theorem zfresh_ok (f : zS) : ∀ j, zfresh f j = -1 ∨ zcarryOk f (zfresh f j)
  | 0 => Or.inl rfl
  | j + 1 => by
    unfold zfresh
    split
    · rename_i h
      exact Or.inr h.1
    · exact zfresh_ok f j
theorem zfirst_ok (f : zS) (rule t : Int) : zfirst f rule t = -1 ∨ zcarryOk f (zfirst f rule t) := by
  unfold zfirst
  split
  · exact zwho_ok f t _ _
  · exact zfresh_ok f _
theorem zchoose_may {f : zS} {rule t : Int} (hB : zB f) (h : ¬ zchoose f rule t = -1) : zmay f (zchoose f rule t) := by
  unfold zchoose at h ⊢
  split
  · rename_i g; exact g.2
  · rename_i g1
    rw [if_neg g1] at h
    split
    · rename_i g; exact g.2
    · rename_i g2
      rw [if_neg g2] at h
      split
      · rename_i g; exact g.2
      · rename_i g3
        rw [if_neg g3] at h
        unfold zrest at h ⊢
        split
        · rename_i g4
          rw [if_pos g4] at h
          split
          · rename_i g; exact g
          · rename_i g5
            rw [if_neg g5] at h
            split
            · rename_i g; exact g
            · rename_i g6
              rw [if_neg g6] at h
              exact absurd rfl h
        · rename_i g4
          rcases zfirst_ok f rule t with z | z
          · exact absurd z g4
          · exact zcar_may hB z
theorem zturn1_b {f : zS} {rule t : Int} (hB : zB f) (h : 0 ≤ t ∧ t ≤ 5) : 0 ≤ zturn1 f rule t ∧ zturn1 f rule t ≤ 5 := by
  have b := hB.1
  unfold zturn1
  split
  · rename_i g
    rcases zwho_ok f t (f 5 6).toNat 0 with z | z
    · exact absurd z g.2
    · have := z.1
      omega
  · exact h
theorem zRB_next {s : zRS} {rule a : Int} (h : zRB s) (ha : zmay s.1 a) (hn : s.2.2.1 < 60) : zRB (znext s rule a) := by
  obtain ⟨f, t, n, w⟩ := s
  have hB : zB f := h.1
  have t1 : 0 ≤ t ∧ t ≤ 5 := h.2.1
  have t2 : 0 ≤ n ∧ n ≤ 60 := h.2.2.1
  have t3 : 0 ≤ w ∧ w ≤ 99 := h.2.2.2
  have b := hB.1
  have hB2 := zB_act hB ha
  have g := zgr_b hB2.2.2 (f 5 6).toNat (by omega)
  have q := zturn1_b (rule := rule) hB t1
  have hn' : n < 60 := hn
  refine ⟨hB2, ?_, ?_, ?_⟩
  · show 0 ≤ (if _ then _ else _ : Int) ∧ (if _ then _ else _ : Int) ≤ 5
    split
    · rename_i z
      have p : 0 < f 5 6 := z.2.1
      have m1 := Int.emod_nonneg (zturn1 f rule t + 1) (show f 5 6 ≠ 0 by omega)
      have m2 := Int.emod_lt_of_pos (zturn1 f rule t + 1) p
      show 0 ≤ (zturn1 f rule t + 1) % f 5 6 ∧ (zturn1 f rule t + 1) % f 5 6 ≤ 5
      omega
    · exact q
  · show 0 ≤ n + 1 ∧ n + 1 ≤ 60
    omega
  · show 0 ≤ (if w < zgr (zact f a) (f 5 6).toNat then zgr (zact f a) (f 5 6).toNat else w) ∧ (if w < zgr (zact f a) (f 5 6).toNat then zgr (zact f a) (f 5 6).toNat else w) ≤ 99
    split <;> omega
theorem zRB_stp {s s' : zRS} {rule : Int} (h : zRB s) (e : zstp s rule = some s') : zRB s' := by
  unfold zstp at e
  split at e
  · rename_i g
    cases e
    exact zRB_next h (zchoose_may h.1 g.2.2) g.1
  · cases e
theorem zRB_go {rule : Int} : ∀ (n : Nat) {s : zRS}, zRB s → zRB (zgo rule n s)
  | 0, s, h => h
  | n + 1, s, h => by
    unfold zgo
    split
    · exact h
    · rename_i s' e
      exact zRB_go n (zRB_stp h e)
theorem zRB_beg {f : zS} (h : zB f) : zRB (zbeg f) := by
  have b := h.1
  have g := zgr_b h.2.2 (f 5 6).toNat (by omega)
  exact ⟨h, ⟨Int.le_refl 0, (by decide : (0 : Int) ≤ 5)⟩, ⟨Int.le_refl 0, (by decide : (0 : Int) ≤ 60)⟩, g⟩
def zrs (m : zf_Me) : zRS := (zv 19 3 20 m, (m.1 18 1).toInt, (m.1 18 2).toInt, (m.1 18 3).toInt)
abbrev zfR (m m' : zf_Me) : Prop := zfr (fun a => a = 18 ∨ a = 19 ∨ a = 20) m m'
theorem zd19 : zD 19 3 20 := by decide
theorem zv19_18 {m : zf_Me} {k : Nat} {x : Int32} : zv 19 3 20 (zf_u m 18 k x) = zv 19 3 20 m := zv_fr (zf_u1 (by decide)) (fun a _ _ => zf_u1 (by omega)) (zf_u1 (by decide))
section
variable {m : zf_Me}
theorem zs_12 (hB : zB (zv 19 3 20 m)) {Q : Int32 → zf_Me → Prop} (hq : ∀ x : Int32, x.toInt = zfresh (zv 19 3 20 m) (m.1 3 5).toInt.toNat → Q x m) : wp_12 m Q := by
  have e1 : (1 : Int32).toInt = 1 := rfl
  have e0 : (0 : Int32).toInt = 0 := rfl
  have b := zB_v hB
  have lp : ∀ (n : Nat) (v1 v2 : Int32), 0 ≤ v2.toInt → v2.toInt ≤ (m.1 3 5).toInt → (m.1 3 5).toInt - v2.toInt < n → v1.toInt = zfresh (zv 19 3 20 m) v2.toInt.toNat → wq_12_4 Q n v1 v2 m := by
    intro n
    induction n with
    | zero => intro v1 v2 h0 h1 h2; omega
    | succ n ih =>
      intro v1 v2 h0 h1 h2 h3
      have s := fb_addI (x := v2) (y := 1) (by omega) (by omega)
      have e2 : (v2 + 1).toInt.toNat = v2.toInt.toNat + 1 := by omega
      have ej : ((v2.toInt.toNat : Nat) : Int) = v2.toInt := by omega
      have go : ∀ x : Int32, v2.toInt < (m.1 3 5).toInt → x.toInt = zfresh (zv 19 3 20 m) (v2.toInt.toNat + 1) → wq_12_4 Q n x (v2 + 1) m := fun x hl hx => ih x _ (by omega) (by omega) (by omega) (by rw [e2]; exact hx)
      have st : zfresh (zv 19 3 20 m) (v2.toInt.toNat + 1) = if zcarryOk (zv 19 3 20 m) v2.toInt ∧ (zfresh (zv 19 3 20 m) v2.toInt.toNat = -1 ∨ zv 19 3 20 m 4 v2.toInt.toNat < zv 19 3 20 m 4 (zfresh (zv 19 3 20 m) v2.toInt.toNat).toNat) then v2.toInt else zfresh (zv 19 3 20 m) v2.toInt.toNat := by
        show (if zcarryOk (zv 19 3 20 m) ((v2.toInt.toNat : Nat) : Int) ∧ _ then ((v2.toInt.toNat : Nat) : Int) else _) = _
        rw [ej]
      refine ⟨fun g => hq v1 (by rw [h3, show v2.toInt = (m.1 3 5).toInt by omega]), fun g => zs_53 hB (fun b1 h1b => ⟨fun e => go v1 g ?_, fun e => ⟨fun g2 => go v2 g ?_, fun g2 => ?_⟩⟩)⟩
      · rw [st, if_neg (fun z => by rw [h1b.mpr z.1] at e; cases e), h3]
      · rw [st, if_pos ⟨h1b.mp e, Or.inl (by rw [← h3, g2])⟩]
      · have ok := (zfresh_ok (zv 19 3 20 m) v2.toInt.toNat).resolve_left (fun z => g2 (by rw [h3, z]))
        have hb : 0 ≤ v1.toInt ∧ v1.toInt < (m.1 3 5).toInt := by
          rw [h3]
          exact ok.1
        have a1 : zv 19 3 20 m 4 v2.toInt.toNat = (m.1 20 v2.toInt.toNat).toInt := zN_lt (by omega)
        have a2 : zv 19 3 20 m 4 v1.toInt.toNat = (m.1 20 v1.toInt.toNat).toInt := zN_lt (by omega)
        refine ⟨⟨by omega, by omega⟩, ⟨by omega, by omega⟩, fun g3 => go v1 g ?_, fun g3 => go v2 g ?_⟩
        · rw [st, if_neg (fun z => ?_), h3]
          rcases z.2 with z | z
          · exact g2 (by rw [h3, z])
          · rw [← h3, a1, a2] at z
            omega
        · have lt : zv 19 3 20 m 4 v2.toInt.toNat < zv 19 3 20 m 4 (zfresh (zv 19 3 20 m) v2.toInt.toNat).toNat := by
            rw [← h3, a1, a2]
            omega
          rw [st, if_pos ⟨h1b.mp e, Or.inr lt⟩]
  exact ⟨7, lp 7 (-1) 0 (by omega) (by omega) (by omega) rfl⟩
theorem zs_11 (hB : zB (zv 19 3 20 m)) (ht : 0 ≤ (m.1 18 1).toInt ∧ (m.1 18 1).toInt ≤ 5) {Q : Int32 → zf_Me → Prop} (hq : ∀ (x : Int32) (m' : zf_Me), x.toInt = zwho (zv 19 3 20 m) (m.1 18 1).toInt (m.1 3 5).toInt.toNat 0 → (x.toInt = -1 → m' = m) → (¬ x.toInt = -1 → m' = zf_u m 18 1 x) → Q x m') : wp_11 m Q := by
  have e1 : (1 : Int32).toInt = 1 := rfl
  have e0 : (0 : Int32).toInt = 0 := rfl
  have b := zB_v hB
  have lp : ∀ (n : Nat) (v2 : Int32), 0 ≤ v2.toInt → v2.toInt ≤ (m.1 3 5).toInt → (m.1 3 5).toInt - v2.toInt < n → zwho (zv 19 3 20 m) (m.1 18 1).toInt (m.1 3 5).toInt.toNat 0 = zwho (zv 19 3 20 m) (m.1 18 1).toInt ((m.1 3 5).toInt - v2.toInt).toNat v2.toInt.toNat → wq_11_13 Q n (m.1 3 5) v2 m := by
    intro n
    induction n with
    | zero => intro v2 h0 h1 h2; omega
    | succ n ih =>
      intro v2 h0 h1 h2 h3
      have s := fb_addI (x := v2) (y := 1) (by omega) (by omega)
      have e2 : (v2 + 1).toInt.toNat = v2.toInt.toNat + 1 := by omega
      have s2 := fb_addI (x := m.1 18 1) (y := v2) (by omega) (by omega)
      refine ⟨fun g => hq (-1) m ?_ (fun _ => rfl) (fun z => absurd rfl z), fun g => ⟨by omega, ?_⟩⟩
      · rw [h3, show ((m.1 3 5).toInt - v2.toInt).toNat = 0 by omega]
        rfl
      · have rm := zf_remG (x := m.1 18 1 + v2) (y := m.1 3 5) (by omega) (by omega)
        rw [s2] at rm
        have st : zwho (zv 19 3 20 m) (m.1 18 1).toInt ((m.1 3 5).toInt - v2.toInt).toNat v2.toInt.toNat = if zcarryOk (zv 19 3 20 m) (((m.1 18 1).toInt + v2.toInt) % (m.1 3 5).toInt) then ((m.1 18 1).toInt + v2.toInt) % (m.1 3 5).toInt else zwho (zv 19 3 20 m) (m.1 18 1).toInt ((m.1 3 5).toInt - (v2 + 1).toInt).toNat (v2 + 1).toInt.toNat := by
          rw [show ((m.1 3 5).toInt - v2.toInt).toNat = ((m.1 3 5).toInt - (v2 + 1).toInt).toNat + 1 by omega, e2]
          show (if zcarryOk (zv 19 3 20 m) (((m.1 18 1).toInt + ((v2.toInt.toNat : Nat) : Int)) % (m.1 3 5).toInt) then _ else _) = _
          rw [show ((v2.toInt.toNat : Nat) : Int) = v2.toInt by omega]
          rfl
        refine zs_53 hB (fun b1 hb1 => ⟨fun e => ih _ (by omega) (by omega) (by omega) ?_, fun e m3 q3 => hq _ m3 ?_ (fun z => ?_) (fun _ => q3)⟩)
        · rw [h3, st, if_neg (fun z => by rw [← rm] at z; rw [hb1.mpr z] at e; cases e)]
        · rw [h3, st, if_pos (by rw [← rm]; exact hb1.mp e), rm]
        · have := Int.emod_nonneg ((m.1 18 1).toInt + v2.toInt) (show (m.1 3 5).toInt ≠ 0 by omega)
          rw [rm] at z
          omega
  refine ⟨7, lp 7 0 (by omega) (by omega) (by omega) ?_⟩
  rw [e0, Int.sub_zero]
  rfl
/-- the act that a rule chooses; the turn -/
theorem zs_10 (hB : zB (zv 19 3 20 m)) (ht : 0 ≤ (m.1 18 1).toInt ∧ (m.1 18 1).toInt ≤ 5) {rule : Int32} {Q : Int32 → zf_Me → Prop} (hq : ∀ (x : Int32) (m' : zf_Me), x.toInt = zchoose (zv 19 3 20 m) rule.toInt (m.1 18 1).toInt → zv 19 3 20 m' = zv 19 3 20 m → (m'.1 18 1).toInt = zturn1 (zv 19 3 20 m) rule.toInt (m.1 18 1).toInt → m'.1 18 2 = m.1 18 2 → m'.1 18 3 = m.1 18 3 → zfR m m' → Q x m') : wp_10 rule m Q := by
  have e6 : (6 : Int32).toInt = 6 := rfl
  have e7 : (7 : Int32).toInt = 7 := rfl
  have e8 : (8 : Int32).toInt = 8 := rfl
  have e9 : (9 : Int32).toInt = 9 := rfl
  have en : (-1 : Int32).toInt = -1 := rfl
  -- behind the choice of a person
  have t75 : ∀ (x : Int32) (m' : zf_Me), x.toInt = zfirst (zv 19 3 20 m) rule.toInt (m.1 18 1).toInt → zchoose (zv 19 3 20 m) rule.toInt (m.1 18 1).toInt = zrest (zv 19 3 20 m) (zfirst (zv 19 3 20 m) rule.toInt (m.1 18 1).toInt) → zv 19 3 20 m' = zv 19 3 20 m → (m'.1 18 1).toInt = zturn1 (zv 19 3 20 m) rule.toInt (m.1 18 1).toInt → m'.1 18 2 = m.1 18 2 → m'.1 18 3 = m.1 18 3 → zfR m m' → wq_10_75 rule x m' Q := by
    intro x m' hx hc hz h1 h2 h3 hf
    refine ⟨fun g => ?_, fun g => hq x m' (by rw [hc, hx]; unfold zrest; rw [if_neg (by omega)]) hz h1 h2 h3 hf⟩
    have c : zchoose (zv 19 3 20 m) rule.toInt (m.1 18 1).toInt = if zmay (zv 19 3 20 m) 6 then 6 else if zmay (zv 19 3 20 m) 9 then 9 else -1 := by
      rw [hc]
      unfold zrest
      rw [if_pos (by omega)]
    refine zs_52 (by rw [hz]; exact hB) (fun b1 k1 => ⟨fun e => zs_52 (by rw [hz]; exact hB) (fun b2 k2 => ⟨fun e2 => hq (-1) m' ?_ hz h1 h2 h3 hf, fun e2 => hq 9 m' ?_ hz h1 h2 h3 hf⟩), fun e => hq 6 m' ?_ hz h1 h2 h3 hf⟩)
    · rw [hz] at k1 k2
      rw [c, if_neg (fun z => by rw [k1.mpr z] at e; cases e), if_neg (fun z => by rw [k2.mpr z] at e2; cases e2), en]
    · rw [hz] at k1 k2
      rw [c, if_neg (fun z => by rw [k1.mpr z] at e; cases e), if_pos (show zmay (zv 19 3 20 m) 9 from k2.mp e2), e9]
    · rw [hz] at k1
      rw [c, if_pos (show zmay (zv 19 3 20 m) 6 from k1.mp e), e6]
  have t60 : zchoose (zv 19 3 20 m) rule.toInt (m.1 18 1).toInt = zrest (zv 19 3 20 m) (zfirst (zv 19 3 20 m) rule.toInt (m.1 18 1).toInt) → wq_10_60 rule m Q := by
    intro hc
    refine ⟨fun g => zs_12 hB (fun x hx => t75 x m ?_ hc rfl ?_ rfl rfl zfr_refl), fun g => zs_11 hB ht (fun x m' hx n1 n2 => ?_)⟩
    · rw [hx]
      unfold zfirst
      rw [if_neg g]
      rfl
    · unfold zturn1
      rw [if_neg (fun z => g z.1)]
    · have fx : x.toInt = zfirst (zv 19 3 20 m) rule.toInt (m.1 18 1).toInt := by
        rw [hx]
        unfold zfirst
        rw [if_pos g]
        rfl
      have ft : zturn1 (zv 19 3 20 m) rule.toInt (m.1 18 1).toInt = if x.toInt = -1 then (m.1 18 1).toInt else x.toInt := by
        unfold zturn1
        rw [show zwho (zv 19 3 20 m) (m.1 18 1).toInt (zv 19 3 20 m 5 6).toNat 0 = x.toInt from hx.symm]
        by_cases k : x.toInt = -1
        · rw [if_neg (fun z => z.2 k), if_pos k]
        · rw [if_pos ⟨g, k⟩, if_neg k]
      by_cases k : x.toInt = -1
      · rw [n1 k]
        exact t75 x m fx hc rfl (by rw [ft, if_pos k]) rfl rfl zfr_refl
      · rw [n2 k]
        refine t75 x _ fx hc zv19_18 (by rw [ft, if_neg k, zf_u3]) (zf_u4 (by decide)) (zf_u4 (by decide)) (zfr_u zfr_refl (Or.inl rfl))
  have nt : ∀ {b : Bool} {p : Prop}, (b = true ↔ p) → b = false → ¬ p := fun h e z => by rw [h.mpr z] at e; cases e
  have tu : ¬ rule.toInt = 0 → (m.1 18 1).toInt = zturn1 (zv 19 3 20 m) rule.toInt (m.1 18 1).toInt := fun g => by
    unfold zturn1
    rw [if_neg (fun z => g z.1)]
  have t20 : ¬ (2 ≤ rule.toInt ∧ zmay (zv 19 3 20 m) 6) → wq_10_20 rule m Q := by
    intro n1
    have t40 : ¬ (rule.toInt = 3 ∧ zmay (zv 19 3 20 m) 7) → wq_10_40 rule m Q := by
      intro n2
      refine ⟨fun g => t60 ?_, fun g => zs_52 hB (fun b1 k1 => ⟨fun e => t60 ?_, fun e => hq 8 m ?_ rfl (tu (by omega)) rfl rfl zfr_refl⟩)⟩
      · unfold zchoose
        rw [if_neg n1, if_neg n2, if_neg (fun z => g z.1)]
      · unfold zchoose
        rw [if_neg n1, if_neg n2, if_neg (fun z => nt k1 e z.2)]
      · unfold zchoose
        rw [if_neg n1, if_neg n2, if_pos ⟨g, k1.mp e⟩, e8]
    refine ⟨fun g => t40 (fun z => g z.1), fun g => zs_52 hB (fun b1 k1 => ⟨fun e => t40 (fun z => nt k1 e z.2), fun e => hq 7 m ?_ rfl (tu (by omega)) rfl rfl zfr_refl⟩)⟩
    unfold zchoose
    rw [if_neg n1, if_pos ⟨g, k1.mp e⟩, e7]
  refine ⟨fun g => t20 (fun z => by omega), fun g => zs_52 hB (fun b1 k1 => ⟨fun e => t20 (fun z => nt k1 e z.2), fun e => hq 6 m ?_ rfl (tu (by omega)) rfl rfl zfr_refl⟩)⟩
  unfold zchoose
  rw [if_pos ⟨g, k1.mp e⟩, e6]
end
end
section
/-! part 54: the class's steps by a rule, to the end -/
section
variable {m : zf_Me}
theorem zs_9 (hR : zRB (zrs m)) {rule : Int32} {Q : Bool → zf_Me → Prop} (hq : ∀ (b : Bool) (m' : zf_Me), (b = true → zstp (zrs m) rule.toInt = some (zrs m')) → (b = false → zstp (zrs m) rule.toInt = none ∧ zrs m' = zrs m) → zfR m m' → Q b m') : wp_9 rule m Q := by
  have e1 : (1 : Int32).toInt = 1 := rfl
  have e0 : (0 : Int32).toInt = 0 := rfl
  have hB : zB (zv 19 3 20 m) := hR.1
  have ht : 0 ≤ (m.1 18 1).toInt ∧ (m.1 18 1).toInt ≤ 5 := hR.2.1
  have hn : 0 ≤ (m.1 18 2).toInt ∧ (m.1 18 2).toInt ≤ 60 := hR.2.2.1
  have hw : 0 ≤ (m.1 18 3).toInt ∧ (m.1 18 3).toInt ≤ 99 := hR.2.2.2
  have b := zB_v hB
  have no : zstp (zrs m) rule.toInt = none → wq_9_27 rule m Q := fun h =>
    ⟨fun g => absurd rfl g, fun _ => hq false m (fun z => nomatch z) (fun _ => ⟨h, rfl⟩) zfr_refl⟩
  refine ⟨fun g => no ?_, fun g => zs_47 (fun b1 k1 => ⟨fun e => no ?_, fun e => zs_10 hB ht (fun x mc hx hz h1 h2 h3 hf => ?_)⟩)⟩
  · unfold zstp
    exact if_neg (fun z => by have q : (m.1 18 2).toInt < 60 := z.1; omega)
  · unfold zstp
    exact if_neg (fun z => by have q : (m.1 19 10).toInt < (m.1 3 4).toInt := z.2.1; exact (k1.mp e) q)
  · have hh : (m.1 19 10).toInt < (m.1 3 4).toInt := Decidable.byContradiction (fun z => by rw [k1.mpr z] at e; cases e)
    refine ⟨fun g2 => ?_, fun g2 => hq false mc (fun z => nomatch z) (fun _ => ⟨?_, ?_⟩) hf⟩
    · have hc : ¬ zchoose (zv 19 3 20 m) rule.toInt (m.1 18 1).toInt = -1 := by rw [← hx]; exact g2
      have hm := zchoose_may hB hc
      have yes : zstp (zrs m) rule.toInt = some (znext (zrs m) rule.toInt (zchoose (zv 19 3 20 m) rule.toInt (m.1 18 1).toInt)) := by
        unfold zstp
        exact if_pos ⟨g, hh, hc⟩
      rw [← hx] at hm yes
      have hB2 := zB_act hB hm
      have b2 := hB2.1
      have t1b := zturn1_b (rule := rule.toInt) hB ht
      have gb := zgr_b hB2.2.2 (m.1 3 5).toInt.toNat (by omega)
      refine zs_56 zd19 (by rw [hz]; exact hB) (by rw [hz]; exact hm) (fun m2 z2 f2 m3 q3 => ?_)
      rw [hz] at z2
      have z3 : zv 19 3 20 m3 = zact (zv 19 3 20 m) x.toInt := by rw [q3, zv19_18, z2]
      have p3 : (m3.1 3 5).toInt = (m.1 3 5).toInt := by
        show zv 19 3 20 m3 5 6 = _
        rw [z3, zact_people]
        rfl
      have s2 : m2.1 18 = mc.1 18 := f2.1 18 (by decide)
      have n3 : (m3.1 18 2).toInt = (m.1 18 2).toInt + 1 := by rw [q3, zf_u3, fb_addI (by rw [s2, h2]; omega) (by rw [s2, h2]; omega), s2, h2, e1]
      have w3 : m3.1 18 3 = m.1 18 3 := by rw [q3, zf_u4 (by decide), s2, h3]
      have t3 : (m3.1 18 1).toInt = zturn1 (zv 19 3 20 m) rule.toInt (m.1 18 1).toInt := by rw [q3, zf_u4 (by decide), s2, h1]
      have f3 : zfR m m3 := by
        rw [q3]
        exact zfr_u (zfr_trans hf (zfr_mono f2 (fun a ha => by omega))) (Or.inl rfl)
      refine zs_49 (by rw [z3]; exact hB2) (fun x5 hx5 m7 q7 => ?_)
      rw [z3, p3] at hx5
      have z7 : zv 19 3 20 m7 = zact (zv 19 3 20 m) x.toInt := by rw [q7, zv19_18, z3]
      have p7 : (m7.1 3 5).toInt = (m.1 3 5).toInt := by
        show zv 19 3 20 m7 5 6 = _
        rw [z7, zact_people]
        rfl
      have f7 : zfR m m7 := by
        rw [q7]
        exact zfr_u f3 (Or.inl rfl)
      have n7 : (m7.1 18 2).toInt = (m.1 18 2).toInt + 1 := by rw [q7, zf_u4 (by decide), n3]
      have w7 : (m7.1 18 3).toInt = if (m.1 18 3).toInt < zgr (zact (zv 19 3 20 m) x.toInt) (m.1 3 5).toInt.toNat then zgr (zact (zv 19 3 20 m) x.toInt) (m.1 3 5).toInt.toNat else (m.1 18 3).toInt := by rw [q7, zf_u3, zi_max, w3, hx5]
      have t7 : (m7.1 18 1).toInt = zturn1 (zv 19 3 20 m) rule.toInt (m.1 18 1).toInt := by rw [q7, zf_u4 (by decide), t3]
      have h7 : (m7.1 19 10).toInt = zact (zv 19 3 20 m) x.toInt 5 10 := by rw [← z7]; rfl
      have done : ∀ m', zv 19 3 20 m' = zv 19 3 20 m7 → m'.1 18 2 = m7.1 18 2 → m'.1 18 3 = m7.1 18 3 → zfR m m' → (m'.1 18 1).toInt = (znext (zrs m) rule.toInt x.toInt).2.1 → Q true m' := by
        intro m' a1 a2 a3 a4 a5
        refine hq true m' (fun _ => ?_) (fun z => nomatch z) a4
        rw [yes]
        congr 1
        unfold zrs
        rw [a1, a2, a3, z7, a5, n7, w7]
        rfl
      have keep : ¬ (¬ x.toInt = 9 ∧ 0 < (m.1 3 5).toInt ∧ zact (zv 19 3 20 m) x.toInt 1 (zact (zv 19 3 20 m) x.toInt 5 10 - 1).toNat = 1) → Q true m7 := fun k => done m7 rfl rfl rfl f7 (by
        rw [t7]
        exact (if_neg k).symm)
      have ah := zact_here (f := zv 19 3 20 m) (a := x.toInt)
      refine ⟨fun k => keep (fun z => z.1 k), fun k => ⟨fun k2 => keep (fun z => by have := z.2.1; omega), fun k2 => ?_⟩⟩
      rw [if_neg k] at ah
      have ah2 : zact (zv 19 3 20 m) x.toInt 5 10 = (m.1 19 10).toInt + 1 := ah
      have s7 := fb_subI (x := m7.1 19 10) (y := 1) (by omega) (by omega)
      have a1 : (m7.1 5 (m7.1 19 10 - 1).toInt.toNat).toInt = zact (zv 19 3 20 m) x.toInt 1 (zact (zv 19 3 20 m) x.toInt 5 10 - 1).toNat := by
        rw [s7, e1, h7, ← z7]
        exact (zN_lt (by rw [z7]; omega)).symm
      refine ⟨⟨by omega, by omega⟩, fun k3 => keep (fun z => k3 (by rw [a1]; exact z.2.2)), fun k3 => ⟨by omega, fun m9 q9 => ?_⟩⟩
      refine done m9 (by rw [q9, zv19_18]) (by rw [q9, zf_u4 (by decide)]) (by rw [q9, zf_u4 (by decide)]) (by rw [q9]; exact zfr_u f7 (Or.inl rfl)) ?_
      have s9 := fb_addI (x := m7.1 18 1) (y := 1) (by omega) (by omega)
      have r9 := zf_remG (x := m7.1 18 1 + 1) (y := m7.1 3 5) (by omega) (by omega)
      rw [q9, zf_u3, r9, s9, t7, p7, e1]
      have kk : ¬ x.toInt = 9 ∧ 0 < (m.1 3 5).toInt ∧ zact (zv 19 3 20 m) x.toInt 1 (zact (zv 19 3 20 m) x.toInt 5 10 - 1).toNat = 1 := ⟨k, by omega, by rw [← a1]; exact k3⟩
      exact (if_pos kk).symm
    · unfold zstp
      exact if_neg (fun z => z.2.2 (by rw [← g2, hx]; rfl))
    · have hw0 : zwho (zv 19 3 20 m) (m.1 18 1).toInt (m.1 3 5).toInt.toNat 0 = -1 ∨ ¬ rule.toInt = 0 := by
        by_cases r0 : rule.toInt = 0
        · left
          have c : zchoose (zv 19 3 20 m) rule.toInt (m.1 18 1).toInt = -1 := by rw [← hx, g2]
          unfold zchoose at c
          rw [if_neg (by omega), if_neg (by omega), if_neg (by omega)] at c
          unfold zrest zfirst at c
          rw [if_pos r0] at c
          split at c
          · rename_i k; exact k
          · exact c
        · exact Or.inr r0
      have t1 : (mc.1 18 1).toInt = (m.1 18 1).toInt := by
        rw [h1]
        unfold zturn1
        refine if_neg (fun z => ?_)
        rcases hw0 with k | k
        · exact z.2 k
        · exact k z.1
      unfold zrs
      rw [hz, t1, h2, h3]
theorem zs_8 (hR : zRB (zrs m)) {rule : Int32} {Q : zf_Me → Prop} (hq : ∀ m' : zf_Me, zrs m' = zgo rule.toInt 60 (zrs m) → zfR m m' → Q m') : wp_8 rule m Q := by
  have e1 : (1 : Int32).toInt = 1 := rfl
  have e0 : (0 : Int32).toInt = 0 := rfl
  have lp : ∀ (n : Nat) (v : Int32) (mj : zf_Me), 0 ≤ v.toInt → v.toInt ≤ 60 → 60 - v.toInt < n → zRB (zrs mj) → zfR m mj → zgo rule.toInt 60 (zrs m) = zgo rule.toInt (60 - v.toInt).toNat (zrs mj) → wq_8_2 rule Q n v mj := by
    intro n
    induction n with
    | zero => intro v mj h0 h1 h2; omega
    | succ n ih =>
      intro v mj h0 h1 h2 hj hf hg
      have s := fb_addI (x := v) (y := 1) (by omega) (by omega)
      refine ⟨fun g => hq mj ?_ hf, fun g => zs_9 hj (fun b m' y1 n1 f1 => ⟨fun e => ?_, fun e => ?_⟩)⟩
      · rw [hg, show (60 - v.toInt).toNat = 0 by omega]
        rfl
      · have z := y1 e
        refine ih _ m' (by omega) (by omega) (by omega) (zRB_stp hj z) (zfr_trans hf f1) ?_
        rw [hg, show (60 - v.toInt).toNat = (60 - (v + 1).toInt).toNat + 1 by omega]
        show (match zstp (zrs mj) rule.toInt with | none => zrs mj | some s' => zgo rule.toInt (60 - (v + 1).toInt).toNat s') = _
        rw [z]
      · have z := n1 e
        refine hq m' ?_ (zfr_trans hf f1)
        rw [hg, z.2, show (60 - v.toInt).toNat = (60 - (v + 1).toInt).toNat + 1 by omega]
        show _ = (match zstp (zrs mj) rule.toInt with | none => zrs mj | some s' => zgo rule.toInt (60 - (v + 1).toInt).toNat s')
        rw [z.1]
  refine ⟨62, lp 62 0 m (by omega) (by omega) (by omega) hR zfr_refl ?_⟩
  rw [e0]
  rfl
/-- a rule begins, from any walk on the way -/
theorem zs_7 {w r : Nat} (hw : ¬ w = 19 ∧ ¬ w = 20 ∧ ¬ r = 19 ∧ ¬ r = 20) (hB : zB (zv w 3 r m)) {Q : zf_Me → Prop} (hq : ∀ m' : zf_Me, zrs m' = zbeg (zv w 3 r m) → zfR m m' → Q m') : wp_7 w 3 r m Q := by
  have e0 : (0 : Int32).toInt = 0 := rfl
  refine zs_43s zd19 (by omega) (fun m2 z2 f2 m3 q3 m5 q5 => ?_)
  have z5 : zv 19 3 20 m5 = zv w 3 r m := by rw [q5, zv19_18, q3, zv19_18, z2]
  have f5 : zfR m m5 := by
    rw [q5, q3]
    exact zfr_u (zfr_u (zfr_mono f2 (fun a ha => by omega)) (Or.inl rfl)) (Or.inl rfl)
  refine zs_49 (by rw [z5]; exact hB) (fun x hx m9 q9 => hq m9 ?_ (by rw [q9]; exact zfr_u f5 (Or.inl rfl)))
  have p5 : (m5.1 3 5).toInt = (zv w 3 r m) 5 6 := by
    rw [← z5]
    rfl
  have a1 : (m9.1 18 1).toInt = 0 := by rw [q9, zf_u4 (by decide), q5, zf_u4 (by decide), q3, zf_u3, e0]
  have a2 : (m9.1 18 2).toInt = 0 := by rw [q9, zf_u4 (by decide), q5, zf_u3, e0]
  have a3 : (m9.1 18 3).toInt = zgr (zv w 3 r m) ((zv w 3 r m) 5 6).toNat := by rw [q9, zf_u3, hx, z5, p5]
  have a0 : zv 19 3 20 m9 = zv w 3 r m := by rw [q9, zv19_18, z5]
  unfold zrs zbeg
  rw [a0, a1, a2, a3]
end
end
section
/-! part 55: the class between calls (JX); its small methods, shelves -/
abbrev zfc (m m' : zf_Me) : Prop := ∀ a, 63 ≤ a → m'.1 a = m.1 a ∧ m'.2 a = m.2 a
abbrev zq (m m' : zf_Me) : Prop := zfr (fun a => 16 ≤ a ∧ a ≤ 43 ∨ a = 46) m m'
def zsz (m : zf_Me) : Prop := ∀ j, j < 8 → 0 ≤ (m.1 (47 + 2 * j) 2).toInt ∧ (m.1 (47 + 2 * j) 2).toInt ≤ 160
def JX (m : zf_Me) : Prop := zB (zv 2 3 8 m) ∧ zB (zv 9 10 15 m) ∧ zsz m
theorem zd2 : zD 2 3 8 := by decide
theorem zd9 : zD 9 10 15 := by decide
theorem zd16 : zD 16 3 17 := by decide
theorem zd36 : zD 36 37 42 := by decide
theorem zfc_of {P : Nat → Prop} {m m' : zf_Me} (h : zfr P m m') (hp : ∀ a, P a → a < 63) : zfc m m' := fun a ha => ⟨h.1 a (fun z => by have := hp a z; omega), by rw [h.2]⟩
theorem zv_of {P : Nat → Prop} {m m' : zf_Me} {w y r : Nat} (h : zfr P m m') (hw : ¬ P w) (hy : ∀ a, y ≤ a → a ≤ y + 4 → ¬ P a) (hr : ¬ P r) : zv w y r m' = zv w y r m := zv_fr (h.1 _ hw) (fun a h1 h2 => h.1 a (hy a h1 h2)) (h.1 _ hr)
theorem zq_now {m m' : zf_Me} (h : zq m m') : zv 2 3 8 m' = zv 2 3 8 m := zv_of h (by omega) (fun a _ _ => by omega) (by omega)
theorem JX_q {m m' : zf_Me} (hJ : JX m) (h : zq m m') : JX m' := by
  refine ⟨by rw [zq_now h]; exact hJ.1, ?_, fun j hj => ?_⟩
  · rw [zv_of h (w := 9) (y := 10) (r := 15) (by omega) (fun a _ _ => by omega) (by omega)]
    exact hJ.2.1
  · rw [h.1 _ (by omega)]
    exact hJ.2.2 j hj
theorem zfc_q {m m' : zf_Me} (h : zq m m') : zfc m m' := zfc_of h (fun a ha => by omega)
theorem zfR_q {m m' : zf_Me} (h : zfR m m') : zq m m' := zfr_mono h (fun a ha => by omega)
section
variable {m : zf_Me}
theorem zs_109 {w : Int32} (hw : 0 ≤ w.toInt ∧ w.toInt < 8) {Q : Int32 → zf_Me → Prop} (hq : ∀ m', zfr (fun a => a = 46) m m' → Q (-w) m') : wp_109 w m Q :=
  ⟨hw, hw, fun m1 q1 => hq m1 (by rw [q1]; exact zfr_u zfr_refl rfl)⟩
theorem zk_109 {w : Int32} (hw : 0 ≤ w.toInt ∧ w.toInt < 8) {Q : Int32 → zf_Me → Prop} (K : ∀ v m', zq m m' → Q v m') : wp_109 w m Q :=
  zs_109 hw (fun m' f => K _ m' (zfr_mono f (fun a ha => by omega)))
theorem zk_110 {w : Int32} (hw : 0 ≤ w.toInt ∧ w.toInt < 8) {Q : Int32 → zf_Me → Prop} (K : ∀ v m', zq m m' → Q v m') : wp_110 w m Q :=
  ⟨hw, hw, fun m1 q1 => K _ m1 (by rw [q1]; exact zfr_u zfr_refl (by omega))⟩
theorem zs_114 {v : Int32} {Q : Bool → zf_Me → Prop} (ht : 0 ≤ v.toInt ∧ v.toInt < 8 → Q true m) (hf : ¬ (0 ≤ v.toInt ∧ v.toInt < 8) → Q false m) : wp_114 v m Q :=
  ⟨fun g => hf (by omega), fun g => ⟨fun g2 => hf (by omega), fun g2 => ht (by omega)⟩⟩
theorem zs_115 {v : Int32} {Q : Bool → zf_Me → Prop} (ht : 0 ≤ v.toInt ∧ v.toInt < 7 → Q true m) (hf : ¬ (0 ≤ v.toInt ∧ v.toInt < 7) → Q false m) : wp_115 v m Q :=
  ⟨fun g => hf (by omega), fun g => ⟨fun g2 => hf (by omega), fun g2 => ht (by omega)⟩⟩
theorem zs_116 {v : Int32} {Q : Bool → zf_Me → Prop} (ht : 0 ≤ v.toInt ∧ v.toInt < 4 → Q true m) (hf : ¬ (0 ≤ v.toInt ∧ v.toInt < 4) → Q false m) : wp_116 v m Q :=
  ⟨fun g => hf (by omega), fun g => ⟨fun g2 => hf (by omega), fun g2 => ht (by omega)⟩⟩
theorem zs_111 {v : Int32} {Q : Int32 → zf_Me → Prop} (h0 : (0 ≤ v.toInt ∧ v.toInt < 8) → 100 ≤ (m.1 (47 + 2 * v.toInt.toNat) 1).toInt → Q 0 m) (h1 : ¬ (0 ≤ v.toInt ∧ v.toInt < 8) → Q 1 m) (h2 : (0 ≤ v.toInt ∧ v.toInt < 8) → (m.1 (47 + 2 * v.toInt.toNat) 1).toInt < 100 → ¬ (m.1 (47 + 2 * v.toInt.toNat) 1).toInt = -1 → Q 2 m) (h3 : (0 ≤ v.toInt ∧ v.toInt < 8) → (m.1 (47 + 2 * v.toInt.toNat) 1).toInt = -1 → Q 3 m) : wp_111 v m Q :=
  zs_114 (fun g => ⟨fun _ => ⟨g, fun k => ⟨fun _ => ⟨g, fun k2 => h2 g k k2, fun k2 => h3 g k2⟩, fun z => (nomatch z)⟩, fun k => ⟨fun z => (nomatch z), fun _ => h0 g k⟩⟩, fun z => (nomatch z)⟩) (fun g => ⟨fun z => (nomatch z), fun _ => h1 g⟩)
/-- only ints of shelves, longs of shelves -/
def zfS (m m' : zf_Me) : Prop := (∀ a, ¬ (47 ≤ a ∧ a ≤ 62) → m'.1 a = m.1 a) ∧ (∀ a, 63 ≤ a → m'.2 a = m.2 a)
theorem zfS_c {m m' : zf_Me} (h : zfS m m') : zfc m m' := fun a ha => ⟨h.1 a (by omega), h.2 a ha⟩
theorem JX_S {m m' : zf_Me} (hJ : JX m) (h : zfS m m') (hz : zsz m') : JX m' := by
  refine ⟨?_, ?_, hz⟩
  · rw [show zv 2 3 8 m' = zv 2 3 8 m from zv_fr (h.1 _ (by omega)) (fun a _ _ => h.1 _ (by omega)) (h.1 _ (by omega))]
    exact hJ.1
  · rw [show zv 9 10 15 m' = zv 9 10 15 m from zv_fr (h.1 _ (by omega)) (fun a _ _ => h.1 _ (by omega)) (h.1 _ (by omega))]
    exact hJ.2.1
theorem zs_22 {j : Nat} (hj : j < 8) {o n : Int32} (hn : 0 ≤ n.toInt ∧ n.toInt ≤ 160) {Q : zf_Me → Prop} (hq : ∀ m', (∀ a, ¬ a = 47 + 2 * j → m'.1 a = m.1 a) → m'.1 (47 + 2 * j) 1 = 100 + o → m'.1 (47 + 2 * j) 2 = n → (∀ a, ¬ a = 48 + 2 * j → m'.2 a = m.2 a) → (∀ k, k < n.toInt.toNat → m'.2 (48 + 2 * j) k = 0) → Q m') : wp_22 (47 + 2 * j) (48 + 2 * j) o n m Q := by
  have e1 : (1 : Int32).toInt = 1 := rfl
  have e0 : (0 : Int32).toInt = 0 := rfl
  intro m1 q1 m3 q3
  have lp : ∀ (k : Nat) (v : Int32) (mj : zf_Me), 0 ≤ v.toInt → v.toInt ≤ n.toInt → n.toInt - v.toInt < k → mj.1 = m3.1 → (∀ a, ¬ a = 48 + 2 * j → mj.2 a = m.2 a) → (∀ k, k < v.toInt.toNat → mj.2 (48 + 2 * j) k = 0) → wq_22_15 (47 + 2 * j) (48 + 2 * j) o n Q k v mj := by
    intro k
    induction k with
    | zero => intro v mj h0 h1 h2; omega
    | succ k ih =>
      intro v mj h0 h1 h2 hi hl hz
      have s := fb_addI (x := v) (y := 1) (by omega) (by omega)
      refine ⟨fun g => hq mj (fun a ha => ?_) ?_ ?_ hl (fun k hk => hz k (by omega)), fun g => ⟨⟨by omega, by omega⟩, fun m5 q5 => ih _ m5 (by omega) (by omega) (by omega) (by rw [q5]; exact hi) (fun a ha => ?_) (fun k hk => ?_)⟩⟩
      · rw [hi, q3, zf_u1 ha, q1, zf_u1 ha]
      · rw [hi, q3, zf_u4 (by decide), q1, zf_u3]
      · rw [hi, q3, zf_u3]
      · rw [q5]
        show (if a = 48 + 2 * j then _ else mj.2 a) = m.2 a
        rw [if_neg ha]
        exact hl a ha
      · rw [q5]
        show (if 48 + 2 * j = 48 + 2 * j then (fun b => if b = v.toInt.toNat then (0 : Int64) else mj.2 (48 + 2 * j) b) else _ : Nat → Int64) k = 0
        rw [if_pos rfl]
        show (if k = v.toInt.toNat then (0 : Int64) else mj.2 (48 + 2 * j) k) = 0
        split
        · rfl
        · exact hz k (by omega)
  exact ⟨162, lp 162 0 m3 (by omega) (by omega) (by omega) rfl (fun a _ => by rw [q3, q1]; rfl) (fun k hk => by omega)⟩
def zrowA (s o n : Int) : Int := if ¬ (0 ≤ s ∧ s < 8) then -1 else if n < 0 then -4 else if ¬ (0 ≤ o ∧ o < 4) then -6 else if 160 < n then -7 else 1
theorem zs_20 {c r : Nat} {i : Int32} {Q : Bool → zf_Me → Prop} (ht : 0 ≤ i.toInt ∧ i.toInt < (m.1 c 2).toInt → Q true m) (hf : ¬ (0 ≤ i.toInt ∧ i.toInt < (m.1 c 2).toInt) → Q false m) : wp_20 c r i m Q :=
  ⟨fun g => hf (by omega), fun g => ⟨fun g2 => hf (by omega), fun g2 => ht (by omega)⟩⟩
theorem zfS_l {c i : Nat} {x : Int64} (hc : c < 63) : zfS m (zf_ul m c i x) := ⟨fun _ _ => rfl, fun a ha => if_neg (by omega)⟩
theorem zs_21 {c r : Nat} {i n : Int32} (hz : 0 ≤ (m.1 c 2).toInt ∧ (m.1 c 2).toInt ≤ 160) {Q : Bool → zf_Me → Prop} (ht : 0 ≤ i.toInt ∧ 0 ≤ n.toInt ∧ i.toInt + n.toInt ≤ (m.1 c 2).toInt → Q true m) (hf : ¬ (0 ≤ i.toInt ∧ 0 ≤ n.toInt ∧ i.toInt + n.toInt ≤ (m.1 c 2).toInt) → Q false m) : wp_21 c r i n m Q := by
  refine ⟨fun g => hf (by omega), fun g => ⟨fun g2 => hf (by omega), fun g2 => ⟨fun g3 => hf (by omega), fun g3 => ?_⟩⟩⟩
  have s := fb_subI (x := m.1 c 2) (y := n) (by omega) (by omega)
  exact ⟨fun g4 => hf (by omega), fun g4 => ht (by omega)⟩
theorem zs_65t {y : Nat} {v : Int32} {Q : Bool → zf_Me → Prop} (ht : 0 ≤ v.toInt ∧ v.toInt < (m.1 y 5).toInt → Q true m) (hf : ¬ (0 ≤ v.toInt ∧ v.toInt < (m.1 y 5).toInt) → Q false m) : wp_65 y v m Q :=
  ⟨fun g => hf (by omega), fun g => ⟨fun g2 => hf (by omega), fun g2 => ht (by omega)⟩⟩
theorem zs_64t {y : Nat} {v : Int32} {Q : Bool → zf_Me → Prop} (ht : 0 ≤ v.toInt ∧ v.toInt < (m.1 y 4).toInt → Q true m) (hf : ¬ (0 ≤ v.toInt ∧ v.toInt < (m.1 y 4).toInt) → Q false m) : wp_64 y v m Q :=
  ⟨fun g => hf (by omega), fun g => ⟨fun g2 => hf (by omega), fun g2 => ht (by omega)⟩⟩
end
end
section
/-! part 56: the class's simple calls keep to JX -/
theorem zB_addF {f : zS} {s t : Int} (hB : zB f) (hf : f 5 5 < 24) (hs : -3 ≤ s ∧ s ≤ 3) (ht : 0 ≤ t ∧ t ≤ 1) : zB (zaddF f s t) := by
  have h1 := hB.1
  refine ⟨?_, fun k hk => ?_, fun k hk => ?_⟩
  · show zB1 (f 5 0) (f 5 1) (f 5 2) (f 5 3) (f 5 4) (f 5 5 + 1) (f 5 6) (f 5 7) (f 5 8) (f 5 9) (f 5 10) (f 5 11) (f 5 12)
    omega
  · have b := hB.2.1 k hk
    unfold zaddF
    rw [zU_o (by omega), zU_o (by omega), zU_o (a := 1) (by omega)]
    by_cases e : k = (f 5 5).toNat
    · rw [e, zU_s, zU_s]
      omega
    · rw [zU_o (by omega), zU_o (by omega), zU_o (by omega)]
      exact b
  · have b := hB.2.2 k hk
    unfold zaddF
    rw [zU_o (by omega), zU_o (by omega), zU_o (by omega), zU_o (by omega), zU_o (by omega), zU_o (by omega), zU_o (by omega), zU_o (by omega), zU_o (by omega)]
    exact b
theorem zB_addP {f : zS} {k a : Int} (hB : zB f) (hf : f 5 6 < 6) (hs : 0 ≤ k ∧ k ≤ 6) (ht : 0 ≤ a ∧ a ≤ 9) : zB (zaddP f k a) := by
  have h1 := hB.1
  refine ⟨?_, fun j hj => ?_, fun j hj => ?_⟩
  · show zB1 (f 5 0) (f 5 1) (f 5 2) (f 5 3) (f 5 4) (f 5 5) (f 5 6 + 1) (f 5 7) (f 5 8) (f 5 9) (f 5 10) (f 5 11) (f 5 12)
    omega
  · have b := hB.2.1 j hj
    unfold zaddP
    rw [zU_o (by omega), zU_o (by omega), zU_o (by omega), zU_o (by omega), zU_o (by omega), zU_o (by omega), zU_o (by omega), zU_o (by omega)]
    exact b
  · have b := hB.2.2 j hj
    by_cases e : j = (f 5 6).toNat
    · have t2 : zaddP f k a 2 j = k := by
        unfold zaddP
        rw [zU_o (by omega), zU_o (by omega), zU_o (by omega), e, zU_s]
      have t3 : zaddP f k a 3 j = a := by
        unfold zaddP
        rw [zU_o (by omega), zU_o (by omega), e, zU_s]
      have t4 : zaddP f k a 4 j = 0 := by
        unfold zaddP
        rw [zU_o (by omega), e, zU_s]
      omega
    · have t2 : zaddP f k a 2 j = f 2 j := by
        unfold zaddP
        rw [zU_o (by omega), zU_o (by omega), zU_o (by omega), zU_o (by omega)]
      have t3 : zaddP f k a 3 j = f 3 j := by
        unfold zaddP
        rw [zU_o (by omega), zU_o (by omega), zU_o (by omega), zU_o (by omega)]
      have t4 : zaddP f k a 4 j = f 4 j := by
        unfold zaddP
        rw [zU_o (by omega), zU_o (by omega), zU_o (by omega), zU_o (by omega)]
      omega
def zlo (w : Nat) : Int := if w < 3 then 1 else 0
def zhi (w : Nat) : Int := if w = 2 then 99 else 9
theorem zk_lo : ∀ w : Nat, w < 5 → ((zx_sa.getD 2 []).getD w 0).toInt = zlo w ∧ ((zx_sa.getD 3 []).getD w 0).toInt = zhi w := by decide
theorem zB_ask {f : zS} {w : Nat} {v : Int} (hB : zB f) (hw : w < 5) (hv : zlo w ≤ v ∧ v ≤ zhi w) : zB (zask f w v) := by
  have h1 := hB.1
  unfold zask
  match w, hw with
  | 0, _ =>
    rw [if_pos rfl]
    have t : 0 ≤ (if v < f 5 8 then v else f 5 8) ∧ (if v < f 5 8 then v else f 5 8) ≤ 11 := by
      have : (1 : Int) ≤ v := hv.1
      split <;> omega
    refine ⟨?_, zB2_u5 (zB2_u5 hB.2.1), zB3_u5 (zB3_u5 hB.2.2)⟩
    show zB1 v (f 5 1) (f 5 2) (f 5 3) (f 5 4) (f 5 5) (f 5 6) (f 5 7) (if v < f 5 8 then v else f 5 8) (f 5 9) (f 5 10) (f 5 11) (f 5 12)
    have : (1 : Int) ≤ v := hv.1
    have : v ≤ 9 := hv.2
    omega
  | 1, _ =>
    refine ⟨?_, zB2_u5 hB.2.1, zB3_u5 hB.2.2⟩
    show zB1 (f 5 0) v (f 5 2) (f 5 3) (f 5 4) (f 5 5) (f 5 6) (f 5 7) (f 5 8) (f 5 9) (f 5 10) (f 5 11) (f 5 12)
    have : (1 : Int) ≤ v := hv.1
    have : v ≤ 9 := hv.2
    omega
  | 2, _ =>
    refine ⟨?_, zB2_u5 hB.2.1, zB3_u5 hB.2.2⟩
    show zB1 (f 5 0) (f 5 1) v (f 5 3) (f 5 4) (f 5 5) (f 5 6) (f 5 7) (f 5 8) (f 5 9) (f 5 10) (f 5 11) (f 5 12)
    have : (1 : Int) ≤ v := hv.1
    have : v ≤ 99 := hv.2
    omega
  | 3, _ =>
    refine ⟨?_, zB2_u5 hB.2.1, zB3_u5 hB.2.2⟩
    show zB1 (f 5 0) (f 5 1) (f 5 2) v (f 5 4) (f 5 5) (f 5 6) (f 5 7) (f 5 8) (f 5 9) (f 5 10) (f 5 11) (f 5 12)
    have : (0 : Int) ≤ v := hv.1
    have : v ≤ 9 := hv.2
    omega
  | 4, _ =>
    refine ⟨?_, zB2_u5 hB.2.1, zB3_u5 hB.2.2⟩
    show zB1 (f 5 0) (f 5 1) (f 5 2) (f 5 3) v (f 5 5) (f 5 6) (f 5 7) (f 5 8) (f 5 9) (f 5 10) (f 5 11) (f 5 12)
    have : (0 : Int) ≤ v := hv.1
    have : v ≤ 9 := hv.2
    omega
/-- changes of the truth alone -/
theorem JX_now {m m' : zf_Me} (hJ : JX m) (h : zfr (fun a => 2 ≤ a ∧ a ≤ 8 ∨ 16 ≤ a ∧ a ≤ 46) m m') (hB : zB (zv 2 3 8 m')) : JX m' := by
  refine ⟨hB, ?_, fun j hj => ?_⟩
  · rw [zv_of h (w := 9) (y := 10) (r := 15) (by omega) (fun a _ _ => by omega) (by omega)]
    exact hJ.2.1
  · rw [h.1 _ (by omega)]
    exact hJ.2.2 j hj
section
variable {m : zf_Me}
theorem zB_tire {f : zS} {k : Nat} {x : Int} (h : zB f) (hx : 0 ≤ x ∧ x ≤ 99) : zB (zU f 4 k x) := ⟨h.1, zB2_u4 h.2.1, zB3_u4 h.2.2 hx⟩
theorem zB_bag {f : zS} {x : Int} (h : zB f) (hx : -1 ≤ x ∧ x ≤ 5) : zB (zU f 5 7 x) := by
  have h1 := h.1
  refine ⟨?_, zB2_u5 h.2.1, zB3_u5 h.2.2⟩
  show zB1 (f 5 0) (f 5 1) (f 5 2) (f 5 3) (f 5 4) (f 5 5) (f 5 6) x (f 5 8) (f 5 9) (f 5 10) (f 5 11) (f 5 12)
  omega
end
end
