/-! part 79: the image given back: the reference; copies of rows: the class -/
def zgX (m m' : zf_Me) : Prop := (∀ a k, ¬ (zcoQ a k ∨ a = 70) → m'.1 a k = m.1 a k) ∧ m'.2 = m.2
section
variable {m : zf_Me}
theorem zY_209 (hJ : JM m) (ho : zso m) {Q : Int32 → zf_Me → Prop} (h0 : (m.1 63 52).toInt = 0 → ∀ v m', zgQ m m' → zr m' = zr m → v.toInt = -6 → Q v m') (h1 : ¬ (m.1 63 52).toInt = 0 → ∀ v m', zgX m m' → zsR m' → zso m' → v.toInt = zA 80 0 m 5 6 → zr m' = zA 80 0 m → zhR m' = zclr (zhR m) (zA 80 0 m 5 6) → Q v m') : wp_209 m Q := by
  have e1 : (1 : Int32).toInt = 1 := rfl
  refine ⟨fun g => zs_161b (by decide) (by decide) (by decide) (fun m2 z2 f2 => ?_), fun g => zs_125 (by decide) (fun m' f => h0 g _ m' (zg64_q f) (zg64_r f) rfl)⟩
  have z2' : zr m2 = zA 80 0 m := z2
  have hc2 : zhR m2 = zhR m := zhR_q (zgc_q f2)
  have B2 : zB (zr m2) := by
    rw [z2']
    exact hJ.2.2.1.resolve_left g
  have pb := B2.1
  have lp : ∀ (n : Nat) (v : Int32) (mj : zf_Me), 0 ≤ v.toInt → v.toInt ≤ 8 → 8 - v.toInt < n → zgX m mj → zr mj = zA 80 0 m → (∀ j, v.toInt.toNat ≤ j → mj.1 70 j = m.1 70 j) → zhR mj = zclrN (zhR m) (zA 80 0 m 5 6) v.toInt.toNat → zsR mj → zso mj → wq_209_26 Q n v mj := by
    intro n
    induction n with
    | zero => intro v mj k0 k1 k2; omega
    | succ n ih =>
      intro v mj k0 k1 k2 hf hz h70 hh hs hO
      have pe : (mj.1 63 1).toInt = zA 80 0 m 5 6 := by
        rw [← hz]
        rfl
      refine ⟨fun g3 => h1 g _ mj hf hs hO pe hz ?_, fun g3 => ⟨by omega, ?_⟩⟩
      · rw [hh, show v.toInt.toNat = 8 by omega]
        exact zclrN_8 (by rw [← z2']; omega) zhR_8
      · have s := fb_addI (x := v) (y := 1) (by omega) (by omega)
        have n3 : (v + 1).toInt.toNat = v.toInt.toNat + 1 := by omega
        have l3 : v.toInt.toNat < 8 := by omega
        have kk := zhR_k hJ ho l3
        have b := hJ.2.1 v.toInt.toNat l3
        have c70 : mj.1 70 v.toInt.toNat = m.1 70 v.toInt.toNat := h70 _ (Nat.le_refl _)
        have c73 : mj.1 73 v.toInt.toNat = m.1 73 v.toInt.toNat := hf.1 73 _ (by omega)
        have same : zclr (zhR m) (zA 80 0 m 5 6) v.toInt.toNat = zhR m v.toInt.toNat → wq_209_26 Q n (v + 1) mj := fun e => ih _ mj (by omega) (by omega) (by omega) hf hz (fun j hj => h70 j (by omega)) (by rw [n3, zclrN_same e]; exact hh) hs hO
        refine ⟨fun k2 => same ?_, fun k2 => ⟨by omega, fun lt => same ?_, fun ge => ⟨by omega, fun m3 q3 => ?_⟩⟩⟩
        · rw [c70] at k2
          unfold zclr
          by_cases k1 : (m.1 70 v.toInt.toNat).toInt = 1
          · have := kk.1 k1
            rw [if_neg (by omega)]
          · have k := kk.2.2 (by omega)
            have a := zhR_at (m := m) l3
            have e : zhR m v.toInt.toNat = (-1, 0, fun _ => 0) := by
              have cz : zcode (m.1 70 v.toInt.toNat).toInt (m.1 71 v.toInt.toNat).toInt (m.1 73 v.toInt.toNat).toInt = -1 := by
                rw [← k, a, znorm_1]
              rw [a, cz]
              unfold znorm
              rw [if_neg (by decide)]
            rw [e]
            split <;> rfl
        · rw [c70] at k2
          rw [c73, pe] at lt
          have k := kk.2.1 k2
          exact if_neg (by rw [k.1]; exact fun z => z.2 ⟨by rw [← k.1]; exact k.2.1, lt⟩)
        · rw [c70] at k2
          rw [c73, pe] at ge
          have k := kk.2.1 k2
          have F3 : zgX m m3 := ⟨fun a kx ha => by rw [q3, zf_u1 (by omega)]; exact hf.1 a kx ha, by rw [q3]; exact hf.2⟩
          refine ih _ m3 (by omega) (by omega) (by omega) F3 ?_ (fun j hj => ?_) ?_ (fun j hj => ?_) (fun j hj => ?_)
          · rw [q3]
            exact (zr_fr (fun j hj => by rw [zf_u1 (by decide)]) (fun a _ _ => by rw [zf_u1 (by omega)])).trans hz
          · rw [q3, zf_u4 (by omega)]
            exact h70 j (by omega)
          · rw [n3, ← zclrN_put (x := (-1, 0, fun _ => 0)) (if_pos ⟨by omega, by rw [k.1]; omega⟩), ← hh]
            rw [zhR_put (m := mj) (m' := m3) (s := v.toInt.toNat) l3 (fun j hj hne => ⟨by rw [q3, zf_u4 hne], by rw [q3, zf_u1 (by decide)], by rw [q3, zf_u1 (by decide)], by rw [q3, zf_u1 (by decide)], fun i _ => by rw [q3]; rfl⟩) hs]
            congr 1
            have cc : (m3.1 70 v.toInt.toNat).toInt = 0 := by
              rw [q3, zf_u3]
              rfl
            have cz : ∀ o p : Int, zcode 0 o p = -1 := fun _ _ => rfl
            rw [cc, cz]
            unfold znorm
            rw [if_neg (by decide)]
          · have b3 := hs j hj
            rw [q3, zf_u1 (a := 72) (by decide), zf_u1 (a := 73) (by decide)]
            by_cases e : j = v.toInt.toNat
            · rw [e, zf_u3]
              rw [e] at b3
              exact ⟨by decide, b3.2.1, fun z => absurd z (by decide)⟩
            · rw [zf_u4 e]
              exact b3
          · rw [q3, zf_u1 (a := 71) (by decide)]
            by_cases e : j = v.toInt.toNat
            · rw [e, zf_u3]
              exact fun z => absurd z (by decide)
            · rw [zf_u4 e]
              exact hO j hj
  have s2 : zsR m2 := fun j hj => by
    rw [f2.1 70 j (by omega), f2.1 72 j (by omega), f2.1 73 j (by omega)]
    exact hJ.2.1 j hj
  have o2 : zso m2 := fun j hj => by
    rw [f2.1 70 j (by omega), f2.1 71 j (by omega)]
    exact ho j hj
  exact ⟨10, lp 10 0 m2 (by decide) (by decide) (by decide) ⟨fun a k ha => f2.1 a k (by omega), f2.2⟩ z2' (fun j _ => f2.1 70 j (by omega)) (by rw [hc2]; funext j; exact (if_neg (Nat.not_lt_zero _)).symm) s2 o2⟩
end
