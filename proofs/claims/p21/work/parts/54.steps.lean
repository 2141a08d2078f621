/-! part 54: the class's steps by a rule, to the end -/
section
variable {m : zf_Me}
theorem zs_9 (hR : zRB (zrs m)) {rule : Int32} {Q : Bool → zf_Me → Prop} (hq : ∀ (b : Bool) (m' : zf_Me), (b = true → zstp (zrs m) rule.toInt = some (zrs m')) → (b = false → zstp (zrs m) rule.toInt = none ∧ zrs m' = zrs m) → zfR m m' → Q b m') : wp_9 rule m Q := by
  have e1 : (1 : Int32).toInt = 1 := rfl
  have e0 : (0 : Int32).toInt = 0 := rfl
  have hB : zB (zv 19 3 20 m) := hR.1
  have ht : 0 ≤ (m.1 18 1).toInt ∧ (m.1 18 1).toInt ≤ 5 := hR.2.1
  have hn : 0 ≤ (m.1 18 2).toInt ∧ (m.1 18 2).toInt ≤ 60 := hR.2.2.1
  have hw : 0 ≤ (m.1 18 3).toInt ∧ (m.1 18 3).toInt ≤ 99 := hR.2.2.2
  have b := zB_v hB
  have no : zstp (zrs m) rule.toInt = none → wq_9_27 rule m Q := fun h =>
    ⟨fun g => absurd rfl g, fun _ => hq false m (fun z => nomatch z) (fun _ => ⟨h, rfl⟩) zfr_refl⟩
  refine ⟨fun g => no ?_, fun g => zs_47 (fun b1 k1 => ⟨fun e => no ?_, fun e => zs_10 hB ht (fun x mc hx hz h1 h2 h3 hf => ?_)⟩)⟩
  · unfold zstp
    exact if_neg (fun z => by have q : (m.1 18 2).toInt < 60 := z.1; omega)
  · unfold zstp
    exact if_neg (fun z => by have q : (m.1 19 10).toInt < (m.1 3 4).toInt := z.2.1; exact (k1.mp e) q)
  · have hh : (m.1 19 10).toInt < (m.1 3 4).toInt := Decidable.byContradiction (fun z => by rw [k1.mpr z] at e; cases e)
    refine ⟨fun g2 => ?_, fun g2 => hq false mc (fun z => nomatch z) (fun _ => ⟨?_, ?_⟩) hf⟩
    · have hc : ¬ zchoose (zv 19 3 20 m) rule.toInt (m.1 18 1).toInt = -1 := by rw [← hx]; exact g2
      have hm := zchoose_may hB hc
      have yes : zstp (zrs m) rule.toInt = some (znext (zrs m) rule.toInt (zchoose (zv 19 3 20 m) rule.toInt (m.1 18 1).toInt)) := by
        unfold zstp
        exact if_pos ⟨g, hh, hc⟩
      rw [← hx] at hm yes
      have hB2 := zB_act hB hm
      have b2 := hB2.1
      have t1b := zturn1_b (rule := rule.toInt) hB ht
      have gb := zgr_b hB2.2.2 (m.1 3 5).toInt.toNat (by omega)
      refine zs_56 zd19 (by rw [hz]; exact hB) (by rw [hz]; exact hm) (fun m2 z2 f2 m3 q3 => ?_)
      rw [hz] at z2
      have z3 : zv 19 3 20 m3 = zact (zv 19 3 20 m) x.toInt := by rw [q3, zv19_18, z2]
      have p3 : (m3.1 3 5).toInt = (m.1 3 5).toInt := by
        show zv 19 3 20 m3 5 6 = _
        rw [z3, zact_people]
        rfl
      have s2 : m2.1 18 = mc.1 18 := f2.1 18 (by decide)
      have n3 : (m3.1 18 2).toInt = (m.1 18 2).toInt + 1 := by rw [q3, zf_u3, fb_addI (by rw [s2, h2]; omega) (by rw [s2, h2]; omega), s2, h2, e1]
      have w3 : m3.1 18 3 = m.1 18 3 := by rw [q3, zf_u4 (by decide), s2, h3]
      have t3 : (m3.1 18 1).toInt = zturn1 (zv 19 3 20 m) rule.toInt (m.1 18 1).toInt := by rw [q3, zf_u4 (by decide), s2, h1]
      have f3 : zfR m m3 := by
        rw [q3]
        exact zfr_u (zfr_trans hf (zfr_mono f2 (fun a ha => by omega))) (Or.inl rfl)
      refine zs_49 (by rw [z3]; exact hB2) (fun x5 hx5 m7 q7 => ?_)
      rw [z3, p3] at hx5
      have z7 : zv 19 3 20 m7 = zact (zv 19 3 20 m) x.toInt := by rw [q7, zv19_18, z3]
      have p7 : (m7.1 3 5).toInt = (m.1 3 5).toInt := by
        show zv 19 3 20 m7 5 6 = _
        rw [z7, zact_people]
        rfl
      have f7 : zfR m m7 := by
        rw [q7]
        exact zfr_u f3 (Or.inl rfl)
      have n7 : (m7.1 18 2).toInt = (m.1 18 2).toInt + 1 := by rw [q7, zf_u4 (by decide), n3]
      have w7 : (m7.1 18 3).toInt = if (m.1 18 3).toInt < zgr (zact (zv 19 3 20 m) x.toInt) (m.1 3 5).toInt.toNat then zgr (zact (zv 19 3 20 m) x.toInt) (m.1 3 5).toInt.toNat else (m.1 18 3).toInt := by rw [q7, zf_u3, zi_max, w3, hx5]
      have t7 : (m7.1 18 1).toInt = zturn1 (zv 19 3 20 m) rule.toInt (m.1 18 1).toInt := by rw [q7, zf_u4 (by decide), t3]
      have h7 : (m7.1 19 10).toInt = zact (zv 19 3 20 m) x.toInt 5 10 := by rw [← z7]; rfl
      have done : ∀ m', zv 19 3 20 m' = zv 19 3 20 m7 → m'.1 18 2 = m7.1 18 2 → m'.1 18 3 = m7.1 18 3 → zfR m m' → (m'.1 18 1).toInt = (znext (zrs m) rule.toInt x.toInt).2.1 → Q true m' := by
        intro m' a1 a2 a3 a4 a5
        refine hq true m' (fun _ => ?_) (fun z => nomatch z) a4
        rw [yes]
        congr 1
        unfold zrs
        rw [a1, a2, a3, z7, a5, n7, w7]
        rfl
      have keep : ¬ (¬ x.toInt = 9 ∧ 0 < (m.1 3 5).toInt ∧ zact (zv 19 3 20 m) x.toInt 1 (zact (zv 19 3 20 m) x.toInt 5 10 - 1).toNat = 1) → Q true m7 := fun k => done m7 rfl rfl rfl f7 (by
        rw [t7]
        exact (if_neg k).symm)
      have ah := zact_here (f := zv 19 3 20 m) (a := x.toInt)
      refine ⟨fun k => keep (fun z => z.1 k), fun k => ⟨fun k2 => keep (fun z => by have := z.2.1; omega), fun k2 => ?_⟩⟩
      rw [if_neg k] at ah
      have ah2 : zact (zv 19 3 20 m) x.toInt 5 10 = (m.1 19 10).toInt + 1 := ah
      have s7 := fb_subI (x := m7.1 19 10) (y := 1) (by omega) (by omega)
      have a1 : (m7.1 5 (m7.1 19 10 - 1).toInt.toNat).toInt = zact (zv 19 3 20 m) x.toInt 1 (zact (zv 19 3 20 m) x.toInt 5 10 - 1).toNat := by
        rw [s7, e1, h7, ← z7]
        exact (zN_lt (by rw [z7]; omega)).symm
      refine ⟨⟨by omega, by omega⟩, fun k3 => keep (fun z => k3 (by rw [a1]; exact z.2.2)), fun k3 => ⟨by omega, fun m9 q9 => ?_⟩⟩
      refine done m9 (by rw [q9, zv19_18]) (by rw [q9, zf_u4 (by decide)]) (by rw [q9, zf_u4 (by decide)]) (by rw [q9]; exact zfr_u f7 (Or.inl rfl)) ?_
      have s9 := fb_addI (x := m7.1 18 1) (y := 1) (by omega) (by omega)
      have r9 := zf_remG (x := m7.1 18 1 + 1) (y := m7.1 3 5) (by omega) (by omega)
      rw [q9, zf_u3, r9, s9, t7, p7, e1]
      have kk : ¬ x.toInt = 9 ∧ 0 < (m.1 3 5).toInt ∧ zact (zv 19 3 20 m) x.toInt 1 (zact (zv 19 3 20 m) x.toInt 5 10 - 1).toNat = 1 := ⟨k, by omega, by rw [← a1]; exact k3⟩
      exact (if_pos kk).symm
    · unfold zstp
      exact if_neg (fun z => z.2.2 (by rw [← g2, hx]; rfl))
    · have hw0 : zwho (zv 19 3 20 m) (m.1 18 1).toInt (m.1 3 5).toInt.toNat 0 = -1 ∨ ¬ rule.toInt = 0 := by
        by_cases r0 : rule.toInt = 0
        · left
          have c : zchoose (zv 19 3 20 m) rule.toInt (m.1 18 1).toInt = -1 := by rw [← hx, g2]
          unfold zchoose at c
          rw [if_neg (by omega), if_neg (by omega), if_neg (by omega)] at c
          unfold zrest zfirst at c
          rw [if_pos r0] at c
          split at c
          · rename_i k; exact k
          · exact c
        · exact Or.inr r0
      have t1 : (mc.1 18 1).toInt = (m.1 18 1).toInt := by
        rw [h1]
        unfold zturn1
        refine if_neg (fun z => ?_)
        rcases hw0 with k | k
        · exact z.2 k
        · exact k z.1
      unfold zrs
      rw [hz, t1, h2, h3]
theorem zs_8 (hR : zRB (zrs m)) {rule : Int32} {Q : zf_Me → Prop} (hq : ∀ m' : zf_Me, zrs m' = zgo rule.toInt 60 (zrs m) → zfR m m' → Q m') : wp_8 rule m Q := by
  have e1 : (1 : Int32).toInt = 1 := rfl
  have e0 : (0 : Int32).toInt = 0 := rfl
  have lp : ∀ (n : Nat) (v : Int32) (mj : zf_Me), 0 ≤ v.toInt → v.toInt ≤ 60 → 60 - v.toInt < n → zRB (zrs mj) → zfR m mj → zgo rule.toInt 60 (zrs m) = zgo rule.toInt (60 - v.toInt).toNat (zrs mj) → wq_8_2 rule Q n v mj := by
    intro n
    induction n with
    | zero => intro v mj h0 h1 h2; omega
    | succ n ih =>
      intro v mj h0 h1 h2 hj hf hg
      have s := fb_addI (x := v) (y := 1) (by omega) (by omega)
      refine ⟨fun g => hq mj ?_ hf, fun g => zs_9 hj (fun b m' y1 n1 f1 => ⟨fun e => ?_, fun e => ?_⟩)⟩
      · rw [hg, show (60 - v.toInt).toNat = 0 by omega]
        rfl
      · have z := y1 e
        refine ih _ m' (by omega) (by omega) (by omega) (zRB_stp hj z) (zfr_trans hf f1) ?_
        rw [hg, show (60 - v.toInt).toNat = (60 - (v + 1).toInt).toNat + 1 by omega]
        show (match zstp (zrs mj) rule.toInt with | none => zrs mj | some s' => zgo rule.toInt (60 - (v + 1).toInt).toNat s') = _
        rw [z]
      · have z := n1 e
        refine hq m' ?_ (zfr_trans hf f1)
        rw [hg, z.2, show (60 - v.toInt).toNat = (60 - (v + 1).toInt).toNat + 1 by omega]
        show _ = (match zstp (zrs mj) rule.toInt with | none => zrs mj | some s' => zgo rule.toInt (60 - (v + 1).toInt).toNat s')
        rw [z.1]
  refine ⟨62, lp 62 0 m (by omega) (by omega) (by omega) hR zfr_refl ?_⟩
  rw [e0]
  rfl
/-- a rule begins, from any walk on the way -/
theorem zs_7 {w r : Nat} (hw : ¬ w = 19 ∧ ¬ w = 20 ∧ ¬ r = 19 ∧ ¬ r = 20) (hB : zB (zv w 3 r m)) {Q : zf_Me → Prop} (hq : ∀ m' : zf_Me, zrs m' = zbeg (zv w 3 r m) → zfR m m' → Q m') : wp_7 w 3 r m Q := by
  have e0 : (0 : Int32).toInt = 0 := rfl
  refine zs_43s zd19 (by omega) (fun m2 z2 f2 m3 q3 m5 q5 => ?_)
  have z5 : zv 19 3 20 m5 = zv w 3 r m := by rw [q5, zv19_18, q3, zv19_18, z2]
  have f5 : zfR m m5 := by
    rw [q5, q3]
    exact zfr_u (zfr_u (zfr_mono f2 (fun a ha => by omega)) (Or.inl rfl)) (Or.inl rfl)
  refine zs_49 (by rw [z5]; exact hB) (fun x hx m9 q9 => hq m9 ?_ (by rw [q9]; exact zfr_u f5 (Or.inl rfl)))
  have p5 : (m5.1 3 5).toInt = (zv w 3 r m) 5 6 := by
    rw [← z5]
    rfl
  have a1 : (m9.1 18 1).toInt = 0 := by rw [q9, zf_u4 (by decide), q5, zf_u4 (by decide), q3, zf_u3, e0]
  have a2 : (m9.1 18 2).toInt = 0 := by rw [q9, zf_u4 (by decide), q5, zf_u3, e0]
  have a3 : (m9.1 18 3).toInt = zgr (zv w 3 r m) ((zv w 3 r m) 5 6).toNat := by rw [q9, zf_u3, hx, z5, p5]
  have a0 : zv 19 3 20 m9 = zv w 3 r m := by rw [q9, zv19_18, z5]
  unfold zrs zbeg
  rw [a0, a1, a2, a3]
end
