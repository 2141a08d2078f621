/-! part 59: the class reads a text: it keeps its bounds -/
abbrev zfT (m m' : zf_Me) : Prop := zfr (fun a => 35 ≤ a ∧ a ≤ 43) m m'
theorem zv36_35 {m : zf_Me} {k : Nat} {x : Int32} : zv 36 37 42 (zf_u m 35 k x) = zv 36 37 42 m := zv_fr (zf_u1 (by decide)) (fun a _ _ => zf_u1 (by omega)) (zf_u1 (by decide))
section
variable {m : zf_Me}
theorem zy_38 {w : Int32} {Q : Nat → zf_Me → Prop} (hq : ∀ t : Nat, t < 12 → (0 ≤ w.toInt → w.toInt < 12 → (t : Int) = w.toInt) → Q t m) : wp_38 w m Q :=
  ⟨fun g => hq 11 (by decide) (fun a b => by omega), fun g => hq 0 (by decide) (fun a b => by omega), fun g => hq 1 (by decide) (fun a b => by omega), fun g => hq 2 (by decide) (fun a b => by omega), fun g => hq 3 (by decide) (fun a b => by omega), fun g => hq 4 (by decide) (fun a b => by omega), fun g => hq 5 (by decide) (fun a b => by omega), fun g => hq 6 (by decide) (fun a b => by omega), fun g => hq 7 (by decide) (fun a b => by omega), fun g => hq 8 (by decide) (fun a b => by omega), fun g => hq 9 (by decide) (fun a b => by omega), fun g => hq 10 (by decide) (fun a b => by omega)⟩
theorem zk_lenb : ∀ a, a < 12 → zx_sl.getD a 0 ≤ 8 := by decide
end
