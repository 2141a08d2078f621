/-! part 68: the reference reads a way told in words -/
theorem zB_stile {f : zS} {k : Nat} {x : Int} (h : zB f) (hx : 0 ≤ x ∧ x ≤ 1) : zB (zU f 1 k x) := by
  refine ⟨h.1, fun j hj => ?_, fun j hj => ?_⟩
  · have b := h.2.1 j hj
    rw [zU_o (by omega)]
    by_cases e : j = k
    · rw [e, zU_s]
      rw [e] at b
      omega
    · rw [zU_o (by omega)]
      exact b
  · have b := h.2.2 j hj
    rw [zU_o (by omega), zU_o (by omega), zU_o (by omega)]
    exact b
abbrev zwa (k : Nat) : Int := (zwl.getD k 0).toInt
def zsl : List Nat := [0, 4, 10, 16, 24, 31, 36, 42, 47, 53, 63, 70, 75]
abbrev zst (k : Nat) : Nat := zsl.getD k 0
theorem zw_i0 : ∀ k, k < 12 → ∀ v, v < 75 → (zst k ≤ v ∧ v < zst (k + 1) ∧ zwa v = 0 → v + 1 = zst (k + 1)) := by decide +kernel
theorem zw_i1 : ∀ k, k < 12 → ∀ v, v < 75 → (zst k ≤ v ∧ v < zst (k + 1) ∧ ¬ zwa v = 0 → v + 1 < zst (k + 1)) := by decide +kernel
theorem zw_in (k : Nat) (hk : k < 12) (v : Nat) (hv : v < 75) (h1 : zst k ≤ v) (h2 : v < zst (k + 1)) : (zwa v = 0 → v + 1 = zst (k + 1)) ∧ (¬ zwa v = 0 → v + 1 < zst (k + 1)) := ⟨fun z => zw_i0 k hk v hv ⟨h1, h2, z⟩, fun z => zw_i1 k hk v hv ⟨h1, h2, z⟩⟩
theorem zw_st : ∀ k, k < 12 → zst k < zst (k + 1) ∧ zst (k + 1) ≤ 75 := by decide
abbrev zcoN (a k : Nat) : Prop := (a = 63 ∧ (k = 30 ∨ k = 32 ∨ k = 33)) ∨ a = 78
abbrev zgN (m m' : zf_Me) : Prop := zgr' zcoN m m'
abbrev zcoP (a k : Nat) : Prop := zcore a k ∨ (a = 63 ∧ (k = 30 ∨ k = 32 ∨ k = 33)) ∨ a = 64 ∨ a = 78
abbrev zgP (m m' : zf_Me) : Prop := zgr' zcoP m m'
theorem zwd_of {P : Nat → Nat → Prop} {m m' : zf_Me} (h : zgr' P m m') (hp : ∀ a k, P a k → ¬ a = 76 ∧ ¬ a = 77) (w : zwd m) : zwd m' := ⟨fun k hk => by rw [h.1 76 k (fun z => (hp 76 k z).1 rfl)]; exact w.1 k hk, fun k hk => by rw [h.1 77 k (fun z => (hp 77 k z).2 rfl)]; exact w.2 k hk⟩
section
variable {m : zf_Me}
theorem zw_76 (h : zwd m) {v : Int32} (hv : 0 ≤ v.toInt ∧ v.toInt < 75) : (m.1 76 v.toInt.toNat).toInt = zwa v.toInt.toNat := by
  rw [h.1 _ (by omega)]
/-- a number that the word w takes as its number i -/
def zok (f : zS) (w i n : Int) : Prop := (w = 0 ∨ w = 1 → n ≤ 3) ∧ (w = 3 → i = 0 → n ≤ 6) ∧ (w = 3 → ¬ i = 0 → n ≤ 9) ∧ (w = 4 → ¬ i = 1 → n < f 5 6) ∧ (w = 5 → n < f 5 6) ∧ (6 ≤ w → w ≤ 10 → zlo (w - 6).toNat ≤ n ∧ n ≤ zhi (w - 6).toNat) ∧ (w = 11 → n ≤ 9 ∧ zmay f n)
end
