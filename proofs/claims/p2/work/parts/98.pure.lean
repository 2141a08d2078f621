/-! part 98: on every script the small machine's law answers 1 -/
theorem zx_pure {L : Nat} {xs : Nat → Int32} (hL : L ≤ 3072) : ∃ (n : Nat) (r : zx_R), zx_ex n 200 (some (L, xs)) zx_tl zx_sl0 = some r ∧ r.1 = some (.inl 1) ∧ r.2.2.1 ≤ 600000 ∧ r.2.2.2 ≤ 7302250 := sorry
