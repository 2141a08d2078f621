/-! part 56: the class's simple calls keep to JX -/
theorem zB_addF {f : zS} {s t : Int} (hB : zB f) (hf : f 5 5 < 24) (hs : -3 ≤ s ∧ s ≤ 3) (ht : 0 ≤ t ∧ t ≤ 1) : zB (zaddF f s t) := by
  have h1 := hB.1
  refine ⟨?_, fun k hk => ?_, fun k hk => ?_⟩
  · show zB1 (f 5 0) (f 5 1) (f 5 2) (f 5 3) (f 5 4) (f 5 5 + 1) (f 5 6) (f 5 7) (f 5 8) (f 5 9) (f 5 10) (f 5 11) (f 5 12)
    omega
  · have b := hB.2.1 k hk
    unfold zaddF
    rw [zU_o (by omega), zU_o (by omega), zU_o (a := 1) (by omega)]
    by_cases e : k = (f 5 5).toNat
    · rw [e, zU_s, zU_s]
      omega
    · rw [zU_o (by omega), zU_o (by omega), zU_o (by omega)]
      exact b
  · have b := hB.2.2 k hk
    unfold zaddF
    rw [zU_o (by omega), zU_o (by omega), zU_o (by omega), zU_o (by omega), zU_o (by omega), zU_o (by omega), zU_o (by omega), zU_o (by omega), zU_o (by omega)]
    exact b
theorem zB_addP {f : zS} {k a : Int} (hB : zB f) (hf : f 5 6 < 6) (hs : 0 ≤ k ∧ k ≤ 6) (ht : 0 ≤ a ∧ a ≤ 9) : zB (zaddP f k a) := by
  have h1 := hB.1
  refine ⟨?_, fun j hj => ?_, fun j hj => ?_⟩
  · show zB1 (f 5 0) (f 5 1) (f 5 2) (f 5 3) (f 5 4) (f 5 5) (f 5 6 + 1) (f 5 7) (f 5 8) (f 5 9) (f 5 10) (f 5 11) (f 5 12)
    omega
  · have b := hB.2.1 j hj
    unfold zaddP
    rw [zU_o (by omega), zU_o (by omega), zU_o (by omega), zU_o (by omega), zU_o (by omega), zU_o (by omega), zU_o (by omega), zU_o (by omega)]
    exact b
  · have b := hB.2.2 j hj
    by_cases e : j = (f 5 6).toNat
    · have t2 : zaddP f k a 2 j = k := by
        unfold zaddP
        rw [zU_o (by omega), zU_o (by omega), zU_o (by omega), e, zU_s]
      have t3 : zaddP f k a 3 j = a := by
        unfold zaddP
        rw [zU_o (by omega), zU_o (by omega), e, zU_s]
      have t4 : zaddP f k a 4 j = 0 := by
        unfold zaddP
        rw [zU_o (by omega), e, zU_s]
      omega
    · have t2 : zaddP f k a 2 j = f 2 j := by
        unfold zaddP
        rw [zU_o (by omega), zU_o (by omega), zU_o (by omega), zU_o (by omega)]
      have t3 : zaddP f k a 3 j = f 3 j := by
        unfold zaddP
        rw [zU_o (by omega), zU_o (by omega), zU_o (by omega), zU_o (by omega)]
      have t4 : zaddP f k a 4 j = f 4 j := by
        unfold zaddP
        rw [zU_o (by omega), zU_o (by omega), zU_o (by omega), zU_o (by omega)]
      omega
def zlo (w : Nat) : Int := if w < 3 then 1 else 0
def zhi (w : Nat) : Int := if w = 2 then 99 else 9
theorem zk_lo : ∀ w : Nat, w < 5 → ((zx_sa.getD 2 []).getD w 0).toInt = zlo w ∧ ((zx_sa.getD 3 []).getD w 0).toInt = zhi w := by decide
theorem zB_ask {f : zS} {w : Nat} {v : Int} (hB : zB f) (hw : w < 5) (hv : zlo w ≤ v ∧ v ≤ zhi w) : zB (zask f w v) := by
  have h1 := hB.1
  unfold zask
  match w, hw with
  | 0, _ =>
    rw [if_pos rfl]
    have t : 0 ≤ (if v < f 5 8 then v else f 5 8) ∧ (if v < f 5 8 then v else f 5 8) ≤ 11 := by
      have : (1 : Int) ≤ v := hv.1
      split <;> omega
    refine ⟨?_, zB2_u5 (zB2_u5 hB.2.1), zB3_u5 (zB3_u5 hB.2.2)⟩
    show zB1 v (f 5 1) (f 5 2) (f 5 3) (f 5 4) (f 5 5) (f 5 6) (f 5 7) (if v < f 5 8 then v else f 5 8) (f 5 9) (f 5 10) (f 5 11) (f 5 12)
    have : (1 : Int) ≤ v := hv.1
    have : v ≤ 9 := hv.2
    omega
  | 1, _ =>
    refine ⟨?_, zB2_u5 hB.2.1, zB3_u5 hB.2.2⟩
    show zB1 (f 5 0) v (f 5 2) (f 5 3) (f 5 4) (f 5 5) (f 5 6) (f 5 7) (f 5 8) (f 5 9) (f 5 10) (f 5 11) (f 5 12)
    have : (1 : Int) ≤ v := hv.1
    have : v ≤ 9 := hv.2
    omega
  | 2, _ =>
    refine ⟨?_, zB2_u5 hB.2.1, zB3_u5 hB.2.2⟩
    show zB1 (f 5 0) (f 5 1) v (f 5 3) (f 5 4) (f 5 5) (f 5 6) (f 5 7) (f 5 8) (f 5 9) (f 5 10) (f 5 11) (f 5 12)
    have : (1 : Int) ≤ v := hv.1
    have : v ≤ 99 := hv.2
    omega
  | 3, _ =>
    refine ⟨?_, zB2_u5 hB.2.1, zB3_u5 hB.2.2⟩
    show zB1 (f 5 0) (f 5 1) (f 5 2) v (f 5 4) (f 5 5) (f 5 6) (f 5 7) (f 5 8) (f 5 9) (f 5 10) (f 5 11) (f 5 12)
    have : (0 : Int) ≤ v := hv.1
    have : v ≤ 9 := hv.2
    omega
  | 4, _ =>
    refine ⟨?_, zB2_u5 hB.2.1, zB3_u5 hB.2.2⟩
    show zB1 (f 5 0) (f 5 1) (f 5 2) (f 5 3) v (f 5 5) (f 5 6) (f 5 7) (f 5 8) (f 5 9) (f 5 10) (f 5 11) (f 5 12)
    have : (0 : Int) ≤ v := hv.1
    have : v ≤ 9 := hv.2
    omega
/-- changes of the truth alone -/
theorem JX_now {m m' : zf_Me} (hJ : JX m) (h : zfr (fun a => 2 ≤ a ∧ a ≤ 8 ∨ 16 ≤ a ∧ a ≤ 46) m m') (hB : zB (zv 2 3 8 m')) : JX m' := by
  refine ⟨hB, ?_, fun j hj => ?_⟩
  · rw [zv_of h (w := 9) (y := 10) (r := 15) (by omega) (fun a _ _ => by omega) (by omega)]
    exact hJ.2.1
  · rw [h.1 _ (by omega)]
    exact hJ.2.2 j hj
section
variable {m : zf_Me}
theorem zB_tire {f : zS} {k : Nat} {x : Int} (h : zB f) (hx : 0 ≤ x ∧ x ≤ 99) : zB (zU f 4 k x) := ⟨h.1, zB2_u4 h.2.1, zB3_u4 h.2.2 hx⟩
theorem zB_bag {f : zS} {x : Int} (h : zB f) (hx : -1 ≤ x ∧ x ≤ 5) : zB (zU f 5 7 x) := by
  have h1 := h.1
  refine ⟨?_, zB2_u5 h.2.1, zB3_u5 h.2.2⟩
  show zB1 (f 5 0) (f 5 1) (f 5 2) (f 5 3) (f 5 4) (f 5 5) (f 5 6) x (f 5 8) (f 5 9) (f 5 10) (f 5 11) (f 5 12)
  omega
end
