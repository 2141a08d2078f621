/-! part 66: the reference's trials of its rules -/
theorem zB_bis {f : zS} {x : Int} (h : zB f) (hx : 0 ≤ x ∧ x ≤ 9) : zB (zU f 5 3 x) := by
  have h1 := h.1
  refine ⟨?_, zB2_u5 h.2.1, zB3_u5 h.2.2⟩
  show zB1 (f 5 0) (f 5 1) (f 5 2) x (f 5 4) (f 5 5) (f 5 6) (f 5 7) (f 5 8) (f 5 9) (f 5 10) (f 5 11) (f 5 12)
  omega
theorem zB_worn {f : zS} {x : Int} (h : zB f) (hx : 1 ≤ x ∧ x ≤ 99) : zB (zU f 5 2 x) := by
  have h1 := h.1
  refine ⟨?_, zB2_u5 h.2.1, zB3_u5 h.2.2⟩
  show zB1 (f 5 0) (f 5 1) x (f 5 3) (f 5 4) (f 5 5) (f 5 6) (f 5 7) (f 5 8) (f 5 9) (f 5 10) (f 5 11) (f 5 12)
  omega
section
variable {m : zf_Me}
theorem zs_tr (hB : zB (zr m)) {rule : Int32} (hr : 0 ≤ rule.toInt ∧ rule.toInt ≤ 3) {Q : zf_Me → Prop} (hq : ∀ m4, zgL m m4 → zrm m4 = zgo rule.toInt 60 (zbeg (zr m)) → zB (zr m4) → (∀ {R : zf_Me → Prop}, (∀ m6, zgL m m6 → zr m6 = zr m → m6.1 63 47 = m4.1 63 10 → m6.1 63 48 = m4.1 63 11 → m6.1 63 49 = m4.1 63 45 → R m6) → wp_182 m4 R) → Q m4) : wp_181 rule m Q := by
  refine zs_181 hB hr (fun m4 z4 a4 f4 e7 e8 e9 => hq m4 f4 z4 ?_ (fun k => zs_182 (fun m6 z6 f6 => k m6 ?_ ?_ ?_ ?_ ?_)))
  · have := (zRB_go (rule := rule.toInt) 60 (zRB_beg hB)).1
    rw [← z4] at this
    exact this
  · exact zgr_trans f4 (zgr_mono f6 (fun a k z => Or.inl z))
  · rw [z6]
    exact a4
  · rw [f6.1 63 47 (by omega), e7]
  · rw [f6.1 63 48 (by omega), e8]
  · rw [f6.1 63 49 (by omega), e9]
theorem zgL_t {a b c : zf_Me} (h : zgL a b) (k : zgL b c) : zgL a c := zgr_trans h k
end
