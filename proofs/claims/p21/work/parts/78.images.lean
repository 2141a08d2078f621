/-! part 78: the image, taken and given back, on both sides -/
def zclr (h : zH) (pe : Int) : zH := fun j => if (h j).1 < 100 ∧ ¬ (0 ≤ (h j).1 ∧ (h j).1 < pe) then (-1, 0, fun _ => 0) else h j
def zclrN (h : zH) (pe : Int) (n : Nat) : zH := fun j => if j < n then zclr h pe j else h j
theorem zclrN_same {h : zH} {pe : Int} {n : Nat} (e : zclr h pe n = h n) : zclrN h pe (n + 1) = zclrN h pe n := by
  funext j
  unfold zclrN
  by_cases g : j < n
  · rw [if_pos g, if_pos (by omega)]
  · rw [if_neg g]
    by_cases k : j = n
    · rw [if_pos (by omega), k, e]
    · rw [if_neg (by omega)]
theorem zclrN_put {h : zH} {pe : Int} {n : Nat} {x : zHe} (e : zclr h pe n = x) : zput (zclrN h pe n) n x = zclrN h pe (n + 1) := by
  funext j
  unfold zput zclrN
  by_cases k : j = n
  · rw [if_pos k, if_pos (by omega), k, e]
  · rw [if_neg k]
    by_cases g : j < n
    · rw [if_pos g, if_pos (by omega)]
    · rw [if_neg g, if_neg (by omega)]
theorem zclrN_8 {h : zH} {pe : Int} (hp : 0 ≤ pe) (e : ∀ j, 8 ≤ j → h j = (-1, 0, fun _ => 0)) : zclrN h pe 8 = zclr h pe := by
  funext j
  unfold zclrN
  by_cases g : j < 8
  · rw [if_pos g]
  · rw [if_neg g]
    unfold zclr
    rw [e j (by omega)]
    exact (if_pos ⟨by decide, by show ¬ (0 ≤ (-1 : Int) ∧ _); omega⟩).symm
theorem zhC_8 {m : zf_Me} (j : Nat) (h : 8 ≤ j) : zhC m j = (-1, 0, fun _ => 0) := if_neg (by omega)
theorem zhR_8 {m : zf_Me} (j : Nat) (h : 8 ≤ j) : zhR m j = (-1, 0, fun _ => 0) := if_neg (by omega)
def zfX (m m' : zf_Me) : Prop := (∀ a, ¬ (2 ≤ a ∧ a ≤ 8 ∨ 16 ≤ a ∧ a ≤ 43 ∨ 46 ≤ a ∧ a ≤ 62) → m'.1 a = m.1 a) ∧ m'.2 = m.2
section
variable {m : zf_Me}
theorem zX_106 {Q : Int32 → zf_Me → Prop} (K : ∀ v m', zfr (fun a => a = 0 ∨ 9 ≤ a ∧ a ≤ 15) m m' → v.toInt = zv 2 3 8 m 5 6 → zv 9 10 15 m' = zv 2 3 8 m → m'.1 0 9 = 1 → m'.1 0 10 = m.1 0 10 → Q v m') : wp_106 m Q := by
  refine zs_63_43 zd9 (by decide) (by decide) (by decide) (fun m4 z4 f4 m5 q5 => ?_)
  have f5 : zfr (fun a => a = 0 ∨ 9 ≤ a ∧ a ≤ 15) m m5 := by
    rw [q5]
    exact zfr_u (zfr_mono f4 (fun a ha => by omega)) (Or.inl rfl)
  refine K _ m5 f5 ?_ ?_ ?_ ?_
  · rw [f5.1 3 (by omega)]
    rfl
  · rw [q5, show zv 9 10 15 (zf_u m4 0 9 1) = zv 9 10 15 m4 from zv_fr (zf_u1 (by decide)) (fun a _ _ => zf_u1 (by omega)) (zf_u1 (by decide)), z4]
  · rw [q5, zf_u3]
  · rw [q5, zf_u4 (by decide), f4.1 0 (by omega)]
theorem zX_107 (hJ : JX m) {Q : Int32 → zf_Me → Prop} (h0 : (m.1 0 9).toInt = 0 → ∀ v m', zq m m' → v.toInt = -6 → Q v m') (h1 : ¬ (m.1 0 9).toInt = 0 → ∀ v m', zfX m m' → zsz m' → v.toInt = zv 9 10 15 m 5 6 → zv 2 3 8 m' = zv 9 10 15 m → zhC m' = zclr (zhC m) (zv 9 10 15 m 5 6) → Q v m') : wp_107 m Q := by
  have e1 : (1 : Int32).toInt = 1 := rfl
  have e8 : (8 : Int32).toInt = 8 := rfl
  refine ⟨fun g => zs_63_43 zd2 (by decide) (by decide) (by decide) (fun m4 z4 f4 => ?_), fun g => zs_109 (by decide) (fun m' f => h0 g _ m' (zfr_mono f (fun a ha => by omega)) rfl)⟩
  have hc4 : zhC m4 = zhC m := zhC_id (fun a a1 a2 => ⟨f4.1 a (by omega), by rw [f4.2]⟩)
  have pb := hJ.2.1.1
  have lp : ∀ (n : Nat) (v3 : Int32) (mj : zf_Me), 0 ≤ v3.toInt → v3.toInt ≤ 8 → 8 - v3.toInt < n → zfX m mj → zsz mj → zv 2 3 8 mj = zv 9 10 15 m → zhC mj = zclrN (zhC m) (zv 9 10 15 m 5 6) v3.toInt.toNat → wq_107_52 Q n 8 v3 mj := by
    intro n
    induction n with
    | zero => intro v3 mj k0 k1 k2; omega
    | succ n ih =>
      intro v3 mj k0 k1 k2 hf hS hz hh
      have pe : (mj.1 3 5).toInt = zv 9 10 15 m 5 6 := by
        rw [← hz]
        rfl
      refine ⟨fun g3 => h1 g _ mj hf hS pe hz ?_, fun g3 => ⟨by omega, ?_⟩⟩
      · rw [hh, show v3.toInt.toNat = 8 by omega]
        exact zclrN_8 (by omega) zhC_8
      · have s := fb_addI (x := v3) (y := 1) (by omega) (by omega)
        have n3 : (v3 + 1).toInt.toNat = v3.toInt.toNat + 1 := by omega
        have l3 : v3.toInt.toNat < 8 := by omega
        have c : (zhC m v3.toInt.toNat).1 = (mj.1 (47 + 2 * v3.toInt.toNat) 1).toInt := by
          rw [← zhC_c l3, hh]
          unfold zclrN
          rw [if_neg (Nat.lt_irrefl _)]
        have same : zclr (zhC m) (zv 9 10 15 m 5 6) v3.toInt.toNat = zhC m v3.toInt.toNat → wq_107_52 Q n 8 (v3 + 1) mj := fun e => ih _ mj (by omega) (by omega) (by omega) hf hS hz (by rw [n3, zclrN_same e]; exact hh)
        have low : (mj.1 (47 + 2 * v3.toInt.toNat) 1).toInt < 100 → wp_65 3 (mj.1 (47 + 2 * v3.toInt.toNat) 1) mj (fun b9 m10 => ((b9 = true → wq_107_52 Q n 8 (v3 + 1) m10) ∧ (b9 = false → (∀ m11, m11 = zf_u m10 (47 + 2 * v3.toInt.toNat) 1 (-1) → wq_107_52 Q n 8 (v3 + 1) m11)))) := fun lo => by
          refine zs_65t (fun k => ⟨fun _ => same (if_neg (by rw [c, ← pe]; exact fun z => z.2 k)), fun z => (nomatch z)⟩) (fun k => ⟨fun z => (nomatch z), fun _ m11 q11 => ?_⟩)
          refine ih _ m11 (by omega) (by omega) (by omega) ⟨fun a ha => by rw [q11, zf_u1 (by omega)]; exact hf.1 a ha, by rw [q11]; exact hf.2⟩ (fun j hj => ?_) ?_ ?_
          · rw [q11]
            by_cases ej : j = v3.toInt.toNat
            · rw [ej, zf_u4 (by decide)]
              exact hS _ l3
            · rw [zf_u1 (by omega)]
              exact hS j hj
          · rw [q11, show zv 2 3 8 (zf_u mj (47 + 2 * v3.toInt.toNat) 1 (-1)) = zv 2 3 8 mj from zv_fr (zf_u1 (by omega)) (fun a _ _ => zf_u1 (by omega)) (zf_u1 (by omega))]
            exact hz
          · rw [n3, ← zclrN_put (x := (-1, 0, fun _ => 0)) (if_pos (by rw [c, ← pe]; exact ⟨lo, k⟩)), ← hh]
            rw [zhC_put (m := mj) (m' := m11) (s := v3.toInt.toNat) l3 (fun j hj hne => ⟨by rw [q11, zf_u1 (by omega)], by rw [q11]; rfl⟩)]
            congr 1
            have cc : (m11.1 (47 + 2 * v3.toInt.toNat) 1).toInt = -1 := by
              rw [q11, zf_u3]
              rfl
            unfold znorm
            rw [cc, if_neg (by decide)]
        refine ⟨fun lo => ⟨fun z => (nomatch z), fun _ => low lo⟩, fun hi => ⟨fun _ => same (if_neg (by rw [c]; omega)), fun z => (nomatch z)⟩⟩
  exact ⟨10, lp 10 0 m4 (by decide) (by decide) (by decide) ⟨fun a ha => f4.1 a (by omega), f4.2⟩ (fun j hj => by rw [f4.1 _ (by omega)]; exact hJ.2.2 j hj) z4 (by rw [hc4]; funext j; exact (if_neg (Nat.not_lt_zero _)).symm)⟩
theorem zY_208 {Q : Int32 → zf_Me → Prop} (K : ∀ v m', zgr' (fun a k => (a = 63 ∧ k = 52) ∨ a = 80) m m' → v.toInt = zr m 5 6 → zr m' = zr m → zA 80 0 m' = zr m → m'.1 63 52 = 1 → Q v m') : wp_208 m Q := by
  intro m1 q1
  have z1 : zr m1 = zr m := by rw [q1, zrk_44 (by decide)]
  refine zs_161s (by decide) rfl (by decide) (fun m4 a4 f4 z4 => ?_)
  have a4' : zA 80 0 m4 = zr m1 := a4
  have F : zgr' (fun a k => (a = 63 ∧ k = 52) ∨ a = 80) m m4 := by
    refine zgr_trans (?_ : zgr' _ m m1) (zgr_mono f4 (fun a k z => by omega))
    rw [q1]
    exact zgr_u zgr_refl (by omega)
  refine K _ m4 F ?_ (z4.trans z1) (a4'.trans z1) ?_
  · have e : zr m4 5 6 = zr m 5 6 := by rw [z4, z1]
    exact e
  · rw [f4.1 63 52 (by omega), q1, zf_u3]
end
