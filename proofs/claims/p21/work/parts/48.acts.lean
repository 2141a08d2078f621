/-! part 48: acts as functions; the class's walks keep to them -/
abbrev zrest1 (f : zS) (k : Nat) : Int := if 0 < f 4 k - ((if f 2 k = 3 then 3 else 2) - (if f 5 7 = (k : Int) then 1 else 0)) then f 4 k - ((if f 2 k = 3 then 3 else 2) - (if f 5 7 = (k : Int) then 1 else 0)) else 0
def zrestO (f : zS) (car : Int) (j : Nat) : zS := fun c k => if c = 4 ∧ k < j ∧ ¬ (k : Int) = car then zrest1 f k else f c k
def zrestA (f : zS) (j : Nat) : zS := fun c k => if c = 4 ∧ k < j then (if 0 < f 4 k - 6 then f 4 k - 6 else 0) else f c k
def zwalkd (f : zS) : zS := zU (zrestO (zU (zU (zU f 5 8 (f 5 8 - 1)) 5 9 0) 5 11 (f 5 11 + (9 + zslope f))) (-1) (f 5 6).toNat) 5 10 (f 5 10 + 1)
def zcar1 (f : zS) (a : Nat) : zS := zU (zU f 4 a (f 4 a + zload f a (zslope f))) 5 9 (f 5 9 + 1)
def zcar2 (f : zS) : zS := if f 5 9 % 2 = 0 ∧ f 5 8 < f 5 0 then zU f 5 8 (f 5 8 + 1) else f
def zcar3 (f : zS) (v : Int) : zS := zU f 5 11 (f 5 11 + (if 3 < 6 + v + (if f 5 9 = 1 then 1 else 0) then 6 + v + (if f 5 9 = 1 then 1 else 0) else 3))
def zcarry (f : zS) (a : Nat) : zS := zU (zrestO (zcar3 (zcar2 (zcar1 f a)) (zslope f)) a (f 5 6).toNat) 5 10 (f 5 10 + 1)
def zresta (f : zS) : zS := zrestA (zU (zU (zU f 5 11 (f 5 11 + 10)) 5 9 0) 5 8 (if f 5 8 < f 5 0 then f 5 0 else f 5 8)) (f 5 6).toNat
def zact (f : zS) (a : Int) : zS := if a = 6 then zwalkd f else if a = 7 then zwalkd (zU (zU f 5 3 (f 5 3 - 1)) 5 8 (if f 5 0 + 2 < f 5 8 + 2 then f 5 0 + 2 else f 5 8 + 2)) else if a = 8 then zwalkd (zU (zU f 5 4 (f 5 4 - 1)) 5 8 (if f 5 0 + 2 < f 5 8 + 1 then f 5 0 + 2 else f 5 8 + 1)) else if a = 9 then zresta f else zcarry f a.toNat
theorem zrestO_n {f : zS} {car : Int} {j c k : Nat} (h : ¬ c = 4) : zrestO f car j c k = f c k := if_neg (fun z => h z.1)
theorem zrestO_ge {f : zS} {car : Int} {j k : Nat} (h : j ≤ k) : zrestO f car j 4 k = f 4 k := if_neg (fun z => by omega)
theorem zrestO_0 {f : zS} {car : Int} : zrestO f car 0 = f := by
  funext c k
  exact if_neg (fun z => by omega)
theorem zrestO_skip {f : zS} {car : Int} {j : Nat} (h : (j : Int) = car) : zrestO f car (j + 1) = zrestO f car j := by
  funext c k
  unfold zrestO
  by_cases e : c = 4 ∧ k < j ∧ ¬ (k : Int) = car
  · rw [if_pos e, if_pos ⟨e.1, by omega, e.2.2⟩]
  · rw [if_neg e, if_neg (fun z => e ⟨z.1, by omega, z.2.2⟩)]
theorem zrestO_go {f : zS} {car : Int} {j : Nat} (h : ¬ (j : Int) = car) : zrestO f car (j + 1) = zU (zrestO f car j) 4 j (zrest1 f j) := by
  funext c k
  unfold zU
  by_cases e : c = 4 ∧ k = j
  · obtain ⟨rfl, rfl⟩ := e
    rw [if_pos ⟨rfl, rfl⟩]
    exact if_pos ⟨rfl, by omega, h⟩
  · rw [if_neg e]
    unfold zrestO
    by_cases e2 : c = 4 ∧ k < j ∧ ¬ (k : Int) = car
    · rw [if_pos e2, if_pos ⟨e2.1, by omega, e2.2.2⟩]
    · rw [if_neg e2, if_neg (fun z => e2 ⟨z.1, by have := fun q => e ⟨z.1, q⟩; omega, z.2.2⟩)]
theorem zrestA_n {f : zS} {j c k : Nat} (h : ¬ c = 4) : zrestA f j c k = f c k := if_neg (fun z => h z.1)
theorem zrestA_0 {f : zS} : zrestA f 0 = f := by
  funext c k
  exact if_neg (fun z => by omega)
theorem zrestA_go {f : zS} {j : Nat} : zrestA f (j + 1) = zU (zrestA f j) 4 j (if 0 < f 4 j - 6 then f 4 j - 6 else 0) := by
  funext c k
  unfold zU
  by_cases e : c = 4 ∧ k = j
  · obtain ⟨rfl, rfl⟩ := e
    rw [if_pos ⟨rfl, rfl⟩]
    exact if_pos ⟨rfl, by omega⟩
  · rw [if_neg e]
    unfold zrestA
    by_cases e2 : c = 4 ∧ k < j
    · rw [if_pos e2, if_pos ⟨e2.1, by omega⟩]
    · rw [if_neg e2, if_neg (fun z => e2 ⟨z.1, by have := fun q => e ⟨z.1, q⟩; omega⟩)]
theorem zload_b {f : zS} {p : Nat} {v : Int} (hv : -3 ≤ v ∧ v ≤ 3) (ht : 0 ≤ f 4 p ∧ f 4 p ≤ 99) : 1 ≤ zload f p v ∧ zload f p v ≤ 21 := by
  have b := zmore_b (f 2 p)
  unfold zload zld
  split <;> (try split) <;> (try split) <;> omega
def zgr (f : zS) : Nat → Int
  | 0 => 0
  | n + 1 => if zgr f n < f 4 n then f 4 n else zgr f n
section
variable {w y r : Nat} {m : zf_Me}
theorem zs_53 (hB : zB (zv w y r m)) {v : Int32} {Q : Bool → zf_Me → Prop} (hq : ∀ b, (b = true ↔ zcarryOk (zv w y r m) v.toInt) → Q b m) : wp_53 w y r v m Q := by
  have b := zB_v hB
  unfold wp_53
  refine zs_65 (fun b1 h1 => ⟨fun e => hq false (zb_f (fun z => by rw [h1.mpr z.1] at e; cases e)), fun e => ?_⟩)
  have hp := h1.mp e
  refine zs_47 (fun b2 h2 => ⟨fun e2 => ?_, fun e2 => hq false (zb_f (fun z => (h2.mp e2) z.2.1))⟩)
  have hh : (m.1 w 10).toInt < (m.1 y 4).toInt := Decidable.byContradiction (fun z => by rw [h2.mpr z] at e2; cases e2)
  have b2 := zB_v2 hB (k := (m.1 w 10).toInt.toNat) (by omega)
  have b3 := zB_v3 hB (k := v.toInt.toNat) (by omega)
  have a2 : zv w y r m 2 v.toInt.toNat = (m.1 (y + 3) v.toInt.toNat).toInt := zN_lt (by omega)
  have a4 : zv w y r m 4 v.toInt.toNat = (m.1 r v.toInt.toNat).toInt := zN_lt (by omega)
  have sl : zslope (zv w y r m) = (m.1 (y + 1) (m.1 w 10).toInt.toNat).toInt := zN_lt (k := (m.1 w 10).toInt.toNat) (by omega)
  have key : zcarryOk (zv w y r m) v.toInt ↔ ((0 ≤ v.toInt ∧ v.toInt < (m.1 y 5).toInt) ∧ (m.1 w 10).toInt < (m.1 y 4).toInt ∧ ¬ (((m.1 (y + 3) v.toInt.toNat).toInt = 2 ∨ (m.1 (y + 3) v.toInt.toNat).toInt = 5) ∧ (m.1 w 6).toInt < (m.1 w 5).toInt) ∧ ¬ ((m.1 (y + 3) v.toInt.toNat).toInt = 6 ∧ 1 < (m.1 (y + 1) (m.1 w 10).toInt.toNat).toInt) ∧ (m.1 r v.toInt.toNat).toInt + zload (zv w y r m) v.toInt.toNat (m.1 (y + 1) (m.1 w 10).toInt.toNat).toInt ≤ (m.1 w 9).toInt) := by
    unfold zcarryOk
    rw [a2, sl, a4]
    exact Iff.rfl
  have lb := zload_b (f := zv w y r m) (p := v.toInt.toNat) (v := (m.1 (y + 1) (m.1 w 10).toInt.toNat).toInt) (by omega) (by omega)
  have t75 : ¬ (((m.1 (y + 3) v.toInt.toNat).toInt = 2 ∨ (m.1 (y + 3) v.toInt.toNat).toInt = 5) ∧ (m.1 w 6).toInt < (m.1 w 5).toInt) → ¬ ((m.1 (y + 3) v.toInt.toNat).toInt = 6 ∧ 1 < (m.1 (y + 1) (m.1 w 10).toInt.toNat).toInt) → wq_53_75 w y r v (m.1 (y + 1) (m.1 w 10).toInt.toNat) m Q := by
    intro g1 g2
    refine ⟨⟨by omega, by omega⟩, zs_51 hB (by omega) (by omega) (fun x hx => ?_)⟩
    have s := fb_addI (x := m.1 r v.toInt.toNat) (y := x) (by omega) (by omega)
    exact ⟨fun g => hq false (zb_f (fun z => by have := (key.mp z).2.2.2.2; omega)), fun g => hq true (zb_t (key.mpr ⟨hp, hh, g1, g2, by omega⟩))⟩
  have t62 : ¬ (((m.1 (y + 3) v.toInt.toNat).toInt = 2 ∨ (m.1 (y + 3) v.toInt.toNat).toInt = 5) ∧ (m.1 w 6).toInt < (m.1 w 5).toInt) → wq_53_62 w y r v (m.1 (y + 3) v.toInt.toNat) (m.1 (y + 1) (m.1 w 10).toInt.toNat) m Q := fun g1 =>
    ⟨fun g => t75 g1 (fun z => g z.1), fun g => ⟨fun g2 => t75 g1 (fun z => by omega), fun g2 => hq false (zb_f (fun z => (key.mp z).2.2.2.1 ⟨g, by omega⟩))⟩⟩
  have t53 : ((m.1 (y + 3) v.toInt.toNat).toInt = 2 ∨ (m.1 (y + 3) v.toInt.toNat).toInt = 5) → wq_53_53 w y r v (m.1 (y + 3) v.toInt.toNat) (m.1 (y + 1) (m.1 w 10).toInt.toNat) m Q := fun g1 =>
    zs_48 (fun b5 h5 => ⟨fun e5 => t62 (fun z => (h5.mp e5) z.2), fun e5 => hq false (zb_f (fun z => (key.mp z).2.2.1 ⟨g1, Decidable.byContradiction (fun q => by rw [h5.mpr q] at e5; cases e5)⟩))⟩)
  exact ⟨⟨by omega, by omega⟩, ⟨by omega, by omega⟩, fun g => t53 (Or.inl g), fun g => ⟨fun g2 => t62 (fun z => by omega), fun g2 => t53 (Or.inr g2)⟩⟩
theorem zs_52 (hB : zB (zv w y r m)) {v : Int32} {Q : Bool → zf_Me → Prop} (hq : ∀ b, (b = true ↔ zmay (zv w y r m) v.toInt) → Q b m) : wp_52 w y r v m Q := by
  have wk : ∀ b : Bool, (b = true ↔ zwalkOk (zv w y r m)) → ∀ (n : Int), (zmay (zv w y r m) v.toInt ↔ zwalkOk (zv w y r m) ∧ 1 ≤ n) → (b = false → Q false m) ∧ (b = true → (n < 1 → Q false m) ∧ (n ≥ 1 → Q true m)) := fun b hb n hn =>
    ⟨fun e => hq false (zb_f (fun z => by rw [hb.mpr (hn.mp z).1] at e; cases e)), fun e => ⟨fun g => hq false (zb_f (fun z => by have := (hn.mp z).2; omega)), fun g => hq true (zb_t (hn.mpr ⟨hb.mp e, g⟩))⟩⟩
  refine ⟨fun g => zs_53 hB (fun b hb => hq b (hb.trans ⟨fun z => Or.inr (Or.inr (Or.inr (Or.inr ⟨by omega, by omega, by omega, by omega, z⟩))), fun z => ?_⟩)), fun g => zs_54 (fun b hb => wk b hb _ ?_), fun g => zs_54 (fun b hb => wk b hb _ ?_), fun g => zs_54 (fun b hb => wk b hb _ ?_), fun g => zs_55 hB (fun b hb => hq b (hb.trans ⟨fun z => Or.inr (Or.inr (Or.inr (Or.inl ⟨g, z⟩))), fun z => ?_⟩))⟩
  · rcases z with z | z | z | z | z
    · omega
    · omega
    · omega
    · omega
    · exact z.2.2.2.2
  · constructor
    · rintro (z | z | z | z | z)
      · exact ⟨z.2.1, z.2.2⟩
      · omega
      · omega
      · omega
      · omega
    · exact fun z => Or.inl ⟨g, z.1, z.2⟩
  · constructor
    · rintro (z | z | z | z | z)
      · omega
      · exact ⟨z.2.1, z.2.2⟩
      · omega
      · omega
      · omega
    · exact fun z => Or.inr (Or.inl ⟨g, z.1, z.2⟩)
  · constructor
    · rintro (z | z | z | z | z)
      · omega
      · omega
      · exact ⟨z.2.1, z.2.2⟩
      · omega
      · omega
    · exact fun z => Or.inr (Or.inr (Or.inl ⟨g, z.1, z.2⟩))
  · rcases z with z | z | z | z | z
    · omega
    · omega
    · omega
    · exact z.2
    · omega
theorem zs_49 (hB : zB (zv w y r m)) {Q : Int32 → zf_Me → Prop} (hq : ∀ x : Int32, x.toInt = zgr (zv w y r m) (m.1 y 5).toInt.toNat → Q x m) : wp_49 w y r m Q := by
  have b := zB_v hB
  have e1 : (1 : Int32).toInt = 1 := rfl
  have lp : ∀ (n : Nat) (v1 v2 : Int32), 0 ≤ v2.toInt → v2.toInt ≤ (m.1 y 5).toInt → (m.1 y 5).toInt - v2.toInt < n → v1.toInt = zgr (zv w y r m) v2.toInt.toNat → wq_49_4 w y r Q n v1 v2 m := by
    intro n
    induction n with
    | zero => intro v1 v2 h0 h1 h2; omega
    | succ n ih =>
      intro v1 v2 h0 h1 h2 h3
      have s := fb_addI (x := v2) (y := 1) (by omega) (by omega)
      refine ⟨fun g => hq v1 (by rw [h3, show v2.toInt = (m.1 y 5).toInt by omega]), fun g => ⟨⟨by omega, by omega⟩, ih _ _ (by omega) (by omega) (by omega) ?_⟩⟩
      rw [zi_max, h3, s, e1, show (v2.toInt + 1).toNat = v2.toInt.toNat + 1 by omega]
      have a4 : zv w y r m 4 v2.toInt.toNat = (m.1 r v2.toInt.toNat).toInt := zN_lt (by omega)
      show _ = if _ < _ then _ else _
      rw [a4]
  have e0 : (0 : Int32).toInt = 0 := rfl
  exact ⟨7, lp 7 0 0 (by omega) (by omega) (by omega) rfl⟩
end
