/-! part 69: the reference's way told in words -/
section
variable {m : zf_Me}
/-- what a sentence needs before its word may act -/
abbrev zoq (f : zS) (w : Int) : Prop := (w = 0 ∨ w = 1 → ¬ f 5 5 = 24) ∧ (w = 2 → ¬ f 5 5 = 0) ∧ (w = 3 → ¬ f 5 6 = 6)
abbrev zgd (m : zf_Me) (w : Int) (i : Nat) : Prop := 0 ≤ (m.1 78 i).toInt ∧ (m.1 78 i).toInt ≤ 99 ∧ zok (zr m) w i (m.1 78 i).toInt
end
