/-! part 51: bounds behind an act; copies; persons and furlongs more -/
theorem zB2_rO {f : zS} {car : Int} {j : Nat} (h : zB2 f) : zB2 (zrestO f car j) := by
  intro k hk
  rw [zrestO_n (by decide), zrestO_n (by decide)]
  exact h k hk
theorem zB2_rA {f : zS} {j : Nat} (h : zB2 f) : zB2 (zrestA f j) := by
  intro k hk
  rw [zrestA_n (by decide), zrestA_n (by decide)]
  exact h k hk
theorem zB2_u4 {f : zS} {k : Nat} {x : Int} (h : zB2 f) : zB2 (zU f 4 k x) := by
  intro j hj
  rw [zU_o (by omega), zU_o (by omega)]
  exact h j hj
theorem zB2_c2 {f : zS} (h : zB2 f) : zB2 (zcar2 f) := by
  unfold zcar2
  split
  · exact zB2_u5 h
  · exact h
theorem zB3_rO {f : zS} {car : Int} {j : Nat} (h : zB3 f) : zB3 (zrestO f car j) := by
  intro k hk
  have b := h k hk
  rw [zrestO_n (by decide), zrestO_n (by decide)]
  refine ⟨b.1, b.2.1, b.2.2.1, b.2.2.2.1, ?_⟩
  unfold zrestO
  split
  · unfold zrest1
    split <;> (try split at *) <;> (try split at *) <;> omega
  · exact b.2.2.2.2
theorem zB3_rA {f : zS} {j : Nat} (h : zB3 f) : zB3 (zrestA f j) := by
  intro k hk
  have b := h k hk
  rw [zrestA_n (by decide), zrestA_n (by decide)]
  refine ⟨b.1, b.2.1, b.2.2.1, b.2.2.2.1, ?_⟩
  unfold zrestA
  split
  · split <;> omega
  · exact b.2.2.2.2
theorem zslope_b {f : zS} (h : zB2 f) (hh : 0 ≤ f 5 10 ∧ f 5 10 < 24) : -3 ≤ zslope f ∧ zslope f ≤ 3 := by
  have := h (f 5 10).toNat (by omega)
  unfold zslope
  omega
theorem zB_walkd {f : zS} (hm : 1 ≤ f 5 0 ∧ f 5 0 ≤ 9 ∧ 1 ≤ f 5 1 ∧ f 5 1 ≤ 9 ∧ 1 ≤ f 5 2 ∧ f 5 2 ≤ 99 ∧ 0 ≤ f 5 3 ∧ f 5 3 ≤ 9 ∧ 0 ≤ f 5 4 ∧ f 5 4 ≤ 9) (hn : 0 ≤ f 5 5 ∧ f 5 5 ≤ 24 ∧ 0 ≤ f 5 6 ∧ f 5 6 ≤ 6 ∧ -1 ≤ f 5 7 ∧ f 5 7 ≤ 5 ∧ 1 ≤ f 5 8 ∧ f 5 8 ≤ 12) (hk : 0 ≤ f 5 10 ∧ f 5 10 < f 5 5 ∧ 0 ≤ f 5 11 ∧ f 5 11 ≤ 910 + 12 * f 5 10 ∧ -2147483648 ≤ f 5 12 ∧ f 5 12 < 2147483648) (h2 : zB2 f) (h3 : zB3 f) : zB (zwalkd f) := by
  have sb := zslope_b h2 (by omega)
  refine ⟨?_, zB2_u5 (zB2_rO (zB2_u5 (zB2_u5 (zB2_u5 h2)))), zB3_u5 (zB3_rO (zB3_u5 (zB3_u5 (zB3_u5 h3))))⟩
  show zB1 (f 5 0) (f 5 1) (f 5 2) (f 5 3) (f 5 4) (f 5 5) (f 5 6) (f 5 7) (f 5 8 - 1) 0 (f 5 10 + 1) (f 5 11 + (9 + zslope f)) (f 5 12)
  omega
theorem zB_carry {f : zS} {a : Nat} (hB : zB f) (hc : zcarryOk f a) : zB (zcarry f a) := by
  have h1 := hB.1
  have h2 := hB.2.1
  have h3 := hB.2.2
  have c1 := hc.1
  have c2 := hc.2.1
  have c5 : f 4 a + zload f a (zslope f) ≤ f 5 2 := hc.2.2.2.2
  have sb := zslope_b h2 (by omega)
  have b := h3 a (by omega)
  have lb := zload_b (f := f) (p := a) (v := zslope f) sb (by omega)
  refine ⟨?_, zB2_u5 (zB2_rO (zB2_u5 (zB2_c2 (zB2_u5 (zB2_u4 h2))))), zB3_u5 (zB3_rO (zB3_u5 (zB3_c2 (zB3_u5 (zB3_u4 h3 (by omega))))))⟩
  have e : ∀ k, ¬ k = 8 → ¬ k = 9 → zcar2 (zcar1 f a) 5 k = f 5 k := fun k k8 k9 => by
    rw [zcar2_o (by omega)]
    unfold zcar1
    rw [zU_o (by omega), zU_o (by omega)]
  have e9 : zcar2 (zcar1 f a) 5 9 = f 5 9 + 1 := by
    rw [zcar2_o (by omega)]
    rfl
  have e8 : 0 ≤ zcar2 (zcar1 f a) 5 8 ∧ zcar2 (zcar1 f a) 5 8 ≤ 11 := by
    unfold zcar2
    split
    · rename_i g
      have g2 : f 5 8 < f 5 0 := g.2
      show 0 ≤ f 5 8 + 1 ∧ f 5 8 + 1 ≤ 11
      omega
    · show 0 ≤ f 5 8 ∧ f 5 8 ≤ 11
      omega
  show zB1 (zcar2 (zcar1 f a) 5 0) (zcar2 (zcar1 f a) 5 1) (zcar2 (zcar1 f a) 5 2) (zcar2 (zcar1 f a) 5 3) (zcar2 (zcar1 f a) 5 4) (zcar2 (zcar1 f a) 5 5) (zcar2 (zcar1 f a) 5 6) (zcar2 (zcar1 f a) 5 7) (zcar2 (zcar1 f a) 5 8) (zcar2 (zcar1 f a) 5 9) (f 5 10 + 1) (zcar2 (zcar1 f a) 5 11 + (if 3 < 6 + zslope f + (if zcar2 (zcar1 f a) 5 9 = 1 then 1 else 0) then 6 + zslope f + (if zcar2 (zcar1 f a) 5 9 = 1 then 1 else 0) else 3)) (zcar2 (zcar1 f a) 5 12)
  rw [e 0 (by decide) (by decide), e 1 (by decide) (by decide), e 2 (by decide) (by decide), e 3 (by decide) (by decide), e 4 (by decide) (by decide), e 5 (by decide) (by decide), e 6 (by decide) (by decide), e 7 (by decide) (by decide), e 11 (by decide) (by decide), e 12 (by decide) (by decide), e9]
  have t : 0 ≤ (if 3 < 6 + zslope f + (if f 5 9 + 1 = 1 then 1 else 0) then 6 + zslope f + (if f 5 9 + 1 = 1 then 1 else 0) else 3) ∧ (if 3 < 6 + zslope f + (if f 5 9 + 1 = 1 then 1 else 0) then 6 + zslope f + (if f 5 9 + 1 = 1 then 1 else 0) else 3) ≤ 12 := by
    split <;> (try split) <;> omega
  omega
theorem zB_resta {f : zS} (hB : zB f) (hr : f 5 11 ≤ 900) : zB (zresta f) := by
  have h1 := hB.1
  refine ⟨?_, zB2_rA (zB2_u5 (zB2_u5 (zB2_u5 hB.2.1))), zB3_rA (zB3_u5 (zB3_u5 (zB3_u5 hB.2.2)))⟩
  show zB1 (f 5 0) (f 5 1) (f 5 2) (f 5 3) (f 5 4) (f 5 5) (f 5 6) (f 5 7) (if f 5 8 < f 5 0 then f 5 0 else f 5 8) 0 (f 5 10) (f 5 11 + 10) (f 5 12)
  have t : 0 ≤ (if f 5 8 < f 5 0 then f 5 0 else f 5 8) ∧ (if f 5 8 < f 5 0 then f 5 0 else f 5 8) ≤ 11 := by split <;> omega
  omega
theorem zB_act {f : zS} {a : Int} (hB : zB f) (ha : zmay f a) : zB (zact f a) := by
  have h1 := hB.1
  have h2 := hB.2.1
  have h3 := hB.2.2
  unfold zact
  rcases ha with z | z | z | z | z
  · rw [if_pos z.1]
    have w := z.2.1.1
    exact zB_walkd (by omega) (by omega) (by omega) h2 h3
  · rw [if_neg (by omega), if_pos z.1]
    have w := z.2.1.1
    have t : 1 ≤ (if f 5 0 + 2 < f 5 8 + 2 then f 5 0 + 2 else f 5 8 + 2) ∧ (if f 5 0 + 2 < f 5 8 + 2 then f 5 0 + 2 else f 5 8 + 2) ≤ 12 := by split <;> omega
    refine zB_walkd ?_ ?_ ?_ (zB2_u5 (zB2_u5 h2)) (zB3_u5 (zB3_u5 h3))
    · show 1 ≤ f 5 0 ∧ f 5 0 ≤ 9 ∧ 1 ≤ f 5 1 ∧ f 5 1 ≤ 9 ∧ 1 ≤ f 5 2 ∧ f 5 2 ≤ 99 ∧ 0 ≤ f 5 3 - 1 ∧ f 5 3 - 1 ≤ 9 ∧ 0 ≤ f 5 4 ∧ f 5 4 ≤ 9
      omega
    · show 0 ≤ f 5 5 ∧ f 5 5 ≤ 24 ∧ 0 ≤ f 5 6 ∧ f 5 6 ≤ 6 ∧ -1 ≤ f 5 7 ∧ f 5 7 ≤ 5 ∧ 1 ≤ (if f 5 0 + 2 < f 5 8 + 2 then f 5 0 + 2 else f 5 8 + 2) ∧ (if f 5 0 + 2 < f 5 8 + 2 then f 5 0 + 2 else f 5 8 + 2) ≤ 12
      omega
    · show 0 ≤ f 5 10 ∧ f 5 10 < f 5 5 ∧ 0 ≤ f 5 11 ∧ f 5 11 ≤ 910 + 12 * f 5 10 ∧ -2147483648 ≤ f 5 12 ∧ f 5 12 < 2147483648
      omega
  · rw [if_neg (by omega), if_neg (by omega), if_pos z.1]
    have w := z.2.1.1
    have t : 1 ≤ (if f 5 0 + 2 < f 5 8 + 1 then f 5 0 + 2 else f 5 8 + 1) ∧ (if f 5 0 + 2 < f 5 8 + 1 then f 5 0 + 2 else f 5 8 + 1) ≤ 12 := by split <;> omega
    refine zB_walkd ?_ ?_ ?_ (zB2_u5 (zB2_u5 h2)) (zB3_u5 (zB3_u5 h3))
    · show 1 ≤ f 5 0 ∧ f 5 0 ≤ 9 ∧ 1 ≤ f 5 1 ∧ f 5 1 ≤ 9 ∧ 1 ≤ f 5 2 ∧ f 5 2 ≤ 99 ∧ 0 ≤ f 5 3 ∧ f 5 3 ≤ 9 ∧ 0 ≤ f 5 4 - 1 ∧ f 5 4 - 1 ≤ 9
      omega
    · show 0 ≤ f 5 5 ∧ f 5 5 ≤ 24 ∧ 0 ≤ f 5 6 ∧ f 5 6 ≤ 6 ∧ -1 ≤ f 5 7 ∧ f 5 7 ≤ 5 ∧ 1 ≤ (if f 5 0 + 2 < f 5 8 + 1 then f 5 0 + 2 else f 5 8 + 1) ∧ (if f 5 0 + 2 < f 5 8 + 1 then f 5 0 + 2 else f 5 8 + 1) ≤ 12
      omega
    · show 0 ≤ f 5 10 ∧ f 5 10 < f 5 5 ∧ 0 ≤ f 5 11 ∧ f 5 11 ≤ 910 + 12 * f 5 10 ∧ -2147483648 ≤ f 5 12 ∧ f 5 12 < 2147483648
      omega
  · rw [if_neg (by omega), if_neg (by omega), if_neg (by omega), if_pos z.1]
    exact zB_resta hB z.2.1
  · rw [if_neg z.1, if_neg z.2.1, if_neg z.2.2.1, if_neg z.2.2.2.1]
    have c := z.2.2.2.2
    have c1 := c.1
    refine zB_carry hB ?_
    rw [show ((a.toNat : Nat) : Int) = a by omega]
    exact c
