section
/-! part 68: the reference reads a way told in words -/
theorem zB_stile {f : zS} {k : Nat} {x : Int} (h : zB f) (hx : 0 ≤ x ∧ x ≤ 1) : zB (zU f 1 k x) := by
  refine ⟨h.1, fun j hj => ?_, fun j hj => ?_⟩
  · have b := h.2.1 j hj
    rw [zU_o (by omega)]
    by_cases e : j = k
    · rw [e, zU_s]
      rw [e] at b
      omega
    · rw [zU_o (by omega)]
      exact b
  · have b := h.2.2 j hj
    rw [zU_o (by omega), zU_o (by omega), zU_o (by omega)]
    exact b
abbrev zwa (k : Nat) : Int := (zwl.getD k 0).toInt
def zsl : List Nat := [0, 4, 10, 16, 24, 31, 36, 42, 47, 53, 63, 70, 75]
abbrev zst (k : Nat) : Nat := zsl.getD k 0
theorem zw_i0 : ∀ k, k < 12 → ∀ v, v < 75 → (zst k ≤ v ∧ v < zst (k + 1) ∧ zwa v = 0 → v + 1 = zst (k + 1)) := by decide +kernel
theorem zw_i1 : ∀ k, k < 12 → ∀ v, v < 75 → (zst k ≤ v ∧ v < zst (k + 1) ∧ ¬ zwa v = 0 → v + 1 < zst (k + 1)) := by decide +kernel
theorem zw_in (k : Nat) (hk : k < 12) (v : Nat) (hv : v < 75) (h1 : zst k ≤ v) (h2 : v < zst (k + 1)) : (zwa v = 0 → v + 1 = zst (k + 1)) ∧ (¬ zwa v = 0 → v + 1 < zst (k + 1)) := ⟨fun z => zw_i0 k hk v hv ⟨h1, h2, z⟩, fun z => zw_i1 k hk v hv ⟨h1, h2, z⟩⟩
theorem zw_st : ∀ k, k < 12 → zst k < zst (k + 1) ∧ zst (k + 1) ≤ 75 := by decide
abbrev zcoN (a k : Nat) : Prop := (a = 63 ∧ (k = 30 ∨ k = 32 ∨ k = 33)) ∨ a = 78
abbrev zgN (m m' : zf_Me) : Prop := zgr' zcoN m m'
abbrev zcoP (a k : Nat) : Prop := zcore a k ∨ (a = 63 ∧ (k = 30 ∨ k = 32 ∨ k = 33)) ∨ a = 64 ∨ a = 78
abbrev zgP (m m' : zf_Me) : Prop := zgr' zcoP m m'
theorem zwd_of {P : Nat → Nat → Prop} {m m' : zf_Me} (h : zgr' P m m') (hp : ∀ a k, P a k → ¬ a = 76 ∧ ¬ a = 77) (w : zwd m) : zwd m' := ⟨fun k hk => by rw [h.1 76 k (fun z => (hp 76 k z).1 rfl)]; exact w.1 k hk, fun k hk => by rw [h.1 77 k (fun z => (hp 77 k z).2 rfl)]; exact w.2 k hk⟩
section
variable {m : zf_Me}
theorem zw_76 (h : zwd m) {v : Int32} (hv : 0 ≤ v.toInt ∧ v.toInt < 75) : (m.1 76 v.toInt.toNat).toInt = zwa v.toInt.toNat := by
  rw [h.1 _ (by omega)]
/-- a number that the word w takes as its number i -/
def zok (f : zS) (w i n : Int) : Prop := (w = 0 ∨ w = 1 → n ≤ 3) ∧ (w = 3 → i = 0 → n ≤ 6) ∧ (w = 3 → ¬ i = 0 → n ≤ 9) ∧ (w = 4 → ¬ i = 1 → n < f 5 6) ∧ (w = 5 → n < f 5 6) ∧ (6 ≤ w → w ≤ 10 → zlo (w - 6).toNat ≤ n ∧ n ≤ zhi (w - 6).toNat) ∧ (w = 11 → n ≤ 9 ∧ zmay f n)
end
end
section
/-! part 69: the reference's way told in words -/
section
variable {m : zf_Me}
/-- what a sentence needs before its word may act -/
abbrev zoq (f : zS) (w : Int) : Prop := (w = 0 ∨ w = 1 → ¬ f 5 5 = 24) ∧ (w = 2 → ¬ f 5 5 = 0) ∧ (w = 3 → ¬ f 5 6 = 6)
abbrev zgd (m : zf_Me) (w : Int) (i : Nat) : Prop := 0 ≤ (m.1 78 i).toInt ∧ (m.1 78 i).toInt ≤ 99 ∧ zok (zr m) w i (m.1 78 i).toInt
end
end
section
/-! part 70: what the calls make of a walk, and what they answer, as functions: the class -/
abbrev zw (m m' : zf_Me) : Prop := zfr (fun a => 2 ≤ a ∧ a ≤ 8 ∨ 16 ≤ a ∧ a ≤ 43 ∨ a = 46) m m'
def zN75 (f : zS) (s t : Int) : Int × zS := if s < -3 ∨ 3 < s then (-6, f) else if f 5 5 < 24 then (f 5 5, zaddF f s (if t = 0 then 0 else 1)) else (-7, f)
def zN76 (f : zS) (k a : Int) : Int × zS := if ¬ (0 ≤ k ∧ k < 7) then (-1, f) else if a < 0 ∨ 9 < a then (-6, f) else if f 5 6 < 6 then (f 5 6, zaddP f k a) else (-7, f)
def zN79 (f : zS) (w v : Int) : Int × zS := if ¬ (0 ≤ w ∧ w < 5) then (-6, f) else if zlo w.toNat ≤ v ∧ v ≤ zhi w.toNat then (f 5 w.toNat, zask f w.toNat v) else (-6, f)
def zN80 (f : zS) (p v : Int) : Int × zS := if ¬ (0 ≤ p ∧ p < f 5 6) then (-1, f) else if v < 0 ∨ 99 < v then (-6, f) else (f 4 p.toNat, zU f 4 p.toNat v)
def zN81 (f : zS) (p : Int) : Int × zS := if p = -1 ∨ (0 ≤ p ∧ p < f 5 6) then (f 5 7, zU f 5 7 p) else (-11, f)
def zN100 (f : zS) (a : Int) : Int × zS := if zmay f a then (zact f a 5 10, zact f a) else (-6, f)
def zN101 (f : zS) (n : Int) : Int × zS := if 1 ≤ n ∧ n ≤ 60 then (zsumm f n.toNat 5 10 - f 5 10, zsumm f n.toNat) else (-6, f)
def zN103 (f : zS) (v : Int) : Int × zS := (f 5 12, zU f 5 12 v)
section
variable {m : zf_Me}
theorem zC_no {r : Int × zS} {w : Int32} {Q : Int32 → zf_Me → Prop} (hw : 0 ≤ w.toInt ∧ w.toInt < 8) (K : ∀ v m', zw m m' → v.toInt = r.1 → zv 2 3 8 m' = r.2 → Q v m') (e : r = (-w.toInt, zv 2 3 8 m)) : wp_109 w m Q :=
  zs_109 hw (fun m' f => K _ m' (zfr_mono f (fun a ha => by omega)) (by rw [e]; exact fb_negI (by omega)) (by rw [e]; exact zq_now (zfr_mono f (fun a ha => by omega))))
theorem zC_no10 {r : Int × zS} {w : Int32} {Q : Int32 → zf_Me → Prop} (hw : 0 ≤ w.toInt ∧ w.toInt < 8) (K : ∀ v m', zw m m' → v.toInt = r.1 → zv 2 3 8 m' = r.2 → Q v m') (e : r = (-w.toInt - 10, zv 2 3 8 m)) : wp_110 w m Q := by
  have e10 : (10 : Int32).toInt = 10 := rfl
  have n := fb_negI (x := w) (by omega)
  have s := fb_subI (x := -10) (y := w) (by show -2147483648 ≤ (-10 : Int) - _; omega) (by show (-10 : Int) - _ < _; omega)
  have t := fb_subI (x := -w) (y := 10) (by omega) (by omega)
  refine ⟨hw, hw, fun m1 q1 => K _ m1 (by rw [q1]; exact zfr_u zfr_refl (by omega)) ?_ ?_⟩
  · rw [e]
    show _ = -w.toInt - 10
    first
      | (rw [s]; show (-10 : Int) - _ = _; omega)
      | (rw [t]; omega)
  · rw [e, q1]
    exact zq_now (zfr_u zfr_refl (by omega))
theorem zX_75 (hJ : JX m) {s t : Int32} {Q : Int32 → zf_Me → Prop} (K : ∀ v m', zw m m' → v.toInt = (zN75 (zv 2 3 8 m) s.toInt t.toInt).1 → zv 2 3 8 m' = (zN75 (zv 2 3 8 m) s.toInt t.toInt).2 → Q v m') : wp_75 s t m Q := by
  have b := zB_v hJ.1
  have p : zv 2 3 8 m 5 5 = (m.1 3 4).toInt := rfl
  refine ⟨fun g => zC_no (by decide) K ?_, fun g => ⟨fun g2 => ⟨fun g3 => zs_66 zd2 (by omega) (fun m' z f => K _ m' (zfr_mono f (fun a ha => by omega)) ?_ ?_), fun g3 => zC_no (by decide) K ?_⟩, fun g2 => zC_no (by decide) K ?_⟩⟩
  · exact if_pos (Or.inl g)
  · unfold zN75
    rw [if_neg (by omega), if_pos (by rw [p]; exact g3)]
    rfl
  · unfold zN75
    rw [if_neg (by omega), if_pos (by rw [p]; exact g3)]
    exact z
  · unfold zN75
    rw [if_neg (by omega), if_neg (by rw [p]; omega)]
    rfl
  · exact if_pos (Or.inr (by omega))
theorem zX_76 (hJ : JX m) {k a : Int32} {Q : Int32 → zf_Me → Prop} (K : ∀ v m', zw m m' → v.toInt = (zN76 (zv 2 3 8 m) k.toInt a.toInt).1 → zv 2 3 8 m' = (zN76 (zv 2 3 8 m) k.toInt a.toInt).2 → Q v m') : wp_76 k a m Q := by
  have b := zB_v hJ.1
  have p : zv 2 3 8 m 5 6 = (m.1 3 5).toInt := rfl
  refine zs_115 (fun g => ⟨fun _ => ⟨fun g0 => zC_no (by decide) K ?_, fun g1 => ⟨fun g2 => ⟨fun g3 => zs_44 zd2 (by omega) (fun m' z f => K _ m' (zfr_mono f (fun a ha => by omega)) ?_ ?_), fun g3 => zC_no (by decide) K ?_⟩, fun g2 => zC_no (by decide) K ?_⟩⟩, fun z => (nomatch z)⟩) (fun g => ⟨fun z => (nomatch z), fun _ => zC_no (by decide) K ?_⟩)
  · unfold zN76
    rw [if_neg (by omega), if_pos (by omega)]
    rfl
  · unfold zN76
    rw [if_neg (by omega), if_neg (by omega), if_pos (by rw [p]; exact g3)]
    rfl
  · unfold zN76
    rw [if_neg (by omega), if_neg (by omega), if_pos (by rw [p]; exact g3)]
    exact z
  · unfold zN76
    rw [if_neg (by omega), if_neg (by omega), if_neg (by rw [p]; omega)]
    rfl
  · unfold zN76
    rw [if_neg (by omega), if_pos (by omega)]
    rfl
  · exact if_pos g
theorem zX_79 (hJ : JX m) {w v : Int32} {Q : Int32 → zf_Me → Prop} (K : ∀ x m', zw m m' → x.toInt = (zN79 (zv 2 3 8 m) w.toInt v.toInt).1 → zv 2 3 8 m' = (zN79 (zv 2 3 8 m) w.toInt v.toInt).2 → Q x m') : wp_79 w v m Q := by
  have lo := fun h => zk_lo w.toInt.toNat h
  refine ⟨fun g => zC_no (by decide) K (if_pos (by omega)), fun g0 => ⟨fun g => zC_no (by decide) K (if_pos (by omega)), fun g1 => ?_⟩⟩
  have l := lo (by omega)
  refine ⟨⟨g0, g1⟩, fun g => zC_no (by decide) K ?_, fun g2 => ⟨⟨g0, g1⟩, fun g3 => zs_45 (w := 2) (y := 3) (r := 8) ⟨g0, g1⟩ (fun x hx => zs_46 zd2 ⟨g0, g1⟩ (fun m' z f => K _ m' (zfr_mono f (fun a ha => by omega)) ?_ ?_)), fun g => zC_no (by decide) K ?_⟩⟩
  · unfold zN79
    rw [if_neg (by omega), if_neg (by rw [← l.1]; omega)]
    rfl
  · unfold zN79
    rw [if_neg (by omega), if_pos (by rw [← l.1, ← l.2]; omega)]
    exact hx
  · unfold zN79
    rw [if_neg (by omega), if_pos (by rw [← l.1, ← l.2]; omega)]
    exact z
  · unfold zN79
    rw [if_neg (by omega), if_neg (by rw [← l.2]; omega)]
    rfl
theorem zX_80 (hJ : JX m) {p v : Int32} {Q : Int32 → zf_Me → Prop} (K : ∀ x m', zw m m' → x.toInt = (zN80 (zv 2 3 8 m) p.toInt v.toInt).1 → zv 2 3 8 m' = (zN80 (zv 2 3 8 m) p.toInt v.toInt).2 → Q x m') : wp_80 p v m Q := by
  have b := zB_v hJ.1
  have q : zv 2 3 8 m 5 6 = (m.1 3 5).toInt := rfl
  refine zs_65t (fun g => ⟨fun _ => ⟨fun g0 => zC_no (by decide) K ?_, fun g1 => ⟨fun g2 => ⟨by omega, by omega, fun m5 q5 => K _ m5 ?_ ?_ ?_⟩, fun g2 => zC_no (by decide) K ?_⟩⟩, fun z => (nomatch z)⟩) (fun g => ⟨fun z => (nomatch z), fun _ => zC_no (by decide) K (if_pos (by rw [q]; exact g))⟩)
  · unfold zN80
    rw [if_neg (by rw [q]; omega), if_pos (by omega)]
    rfl
  · rw [q5]
    exact zfr_u zfr_refl (by omega)
  · unfold zN80
    rw [if_neg (by rw [q]; omega), if_neg (by omega)]
    show _ = zN 6 (m.1 8) p.toInt.toNat
    rw [zN_lt (by omega)]
  · unfold zN80
    rw [if_neg (by rw [q]; omega), if_neg (by omega), q5, zv_a4 zd2 (by omega)]
  · unfold zN80
    rw [if_neg (by rw [q]; omega), if_pos (by omega)]
    rfl
theorem zX_81 (hJ : JX m) {p : Int32} {Q : Int32 → zf_Me → Prop} (K : ∀ x m', zw m m' → x.toInt = (zN81 (zv 2 3 8 m) p.toInt).1 → zv 2 3 8 m' = (zN81 (zv 2 3 8 m) p.toInt).2 → Q x m') : wp_81 p m Q := by
  have q : zv 2 3 8 m 5 6 = (m.1 3 5).toInt := rfl
  have fin : p.toInt = -1 ∨ (0 ≤ p.toInt ∧ p.toInt < (m.1 3 5).toInt) → wq_81_25 p m Q := fun g m1 q1 => K _ m1 (by rw [q1]; exact zfr_u zfr_refl (by omega)) (by unfold zN81; rw [if_pos (by rw [q]; exact g)]; rfl) (by unfold zN81; rw [if_pos (by rw [q]; exact g), q1, zv_w2 zd2])
  exact ⟨fun g => fin (Or.inl g), fun n => zs_65t (fun g => ⟨fun _ => fin (Or.inr g), fun z => (nomatch z)⟩) (fun g => ⟨fun z => (nomatch z), fun _ => zC_no10 (by decide) K (if_neg (by rw [q]; exact fun z => z.elim n g))⟩)⟩
theorem zX_100 (hJ : JX m) {a : Int32} {Q : Int32 → zf_Me → Prop} (K : ∀ x m', zw m m' → x.toInt = (zN100 (zv 2 3 8 m) a.toInt).1 → zv 2 3 8 m' = (zN100 (zv 2 3 8 m) a.toInt).2 → Q x m') : wp_100 a m Q := by
  refine zs_52 hJ.1 (fun b hb => ⟨fun e => zs_56 zd2 hJ.1 (hb.mp e) (fun m' z f => K _ m' (zfr_mono f (fun a ha => by omega)) ?_ ?_), fun e => zC_no (by decide) K (if_neg (zno hb e))⟩)
  · unfold zN100
    rw [if_pos (hb.mp e), ← z]
    rfl
  · unfold zN100
    rw [if_pos (hb.mp e)]
    exact z
theorem zX_101 (hJ : JX m) {n : Int32} {Q : Int32 → zf_Me → Prop} (K : ∀ x m', zw m m' → x.toInt = (zN101 (zv 2 3 8 m) n.toInt).1 → zv 2 3 8 m' = (zN101 (zv 2 3 8 m) n.toInt).2 → Q x m') : wp_101 n m Q := by
  refine ⟨fun g => zC_no (by decide) K (if_neg (by omega)), fun g => ⟨fun g2 => zs_101 hJ.1 ⟨g, g2⟩ (fun m' z f => K _ m' (zfr_mono f (fun a ha => by omega)) ?_ ?_), fun g2 => zC_no (by decide) K (if_neg (by omega))⟩⟩
  · unfold zN101
    rw [if_pos ⟨g, g2⟩, ← z]
    have h1 := hJ.1.1
    have h2 : zB (zv 2 3 8 m') := by rw [z]; exact zsumm_B _ hJ.1
    have h3 := h2.1
    have p1 : zv 2 3 8 m' 5 10 = (m'.1 2 10).toInt := rfl
    have p2 : zv 2 3 8 m 5 10 = (m.1 2 10).toInt := rfl
    show _ = zv 2 3 8 m' 5 10 - zv 2 3 8 m 5 10
    rw [p1, p2, fb_subI (by omega) (by omega)]
  · unfold zN101
    rw [if_pos ⟨g, g2⟩]
    exact z
theorem zX_103 {v : Int32} {Q : Int32 → zf_Me → Prop} (K : ∀ x m', zw m m' → x.toInt = (zN103 (zv 2 3 8 m) v.toInt).1 → zv 2 3 8 m' = (zN103 (zv 2 3 8 m) v.toInt).2 → Q x m') : wp_103 v m Q := fun m1 q1 => K _ m1 (by rw [q1]; exact zfr_u zfr_refl (by omega)) rfl (by rw [q1, zv_w12 zd2]; rfl)
end
end
section
/-! part 71: what the calls make of a walk, and what they answer: the reference; another day on both sides -/
def zdayT (f : zS) : Nat → zS
  | 0 => f
  | n + 1 => zU (zdayT f n) 4 n 0
def zday0 (f : zS) : zS := zU (zU (zU (zU f 5 10 0) 5 11 0) 5 9 0) 5 8 (f 5 0)
def zN102 (f : zS) : Int × zS := (f 5 10, zdayT (zday0 f) 6)
def zTz (f : zS) : Prop := ∀ k : Nat, k < 6 → f 5 6 ≤ k → f 4 k = 0
theorem zdayT_o (f : zS) : ∀ (n k : Nat), n ≤ k → zdayT f n 4 k = f 4 k
  | 0, _, _ => rfl
  | n + 1, k, h => by
    show zU (zdayT f n) 4 n 0 4 k = _
    rw [zU_o (by omega)]
    exact zdayT_o f n k (by omega)
theorem zdayT_e (f : zS) (p : Nat) (h : ∀ k, k < 6 → p ≤ k → f 4 k = 0) : ∀ n, p ≤ n → n ≤ 6 → zdayT f n = zdayT f p := by
  intro n
  induction n with
  | zero => intro h1 _; rw [show p = 0 by omega]
  | succ n ih =>
    intro h1 h2
    by_cases e : p = n + 1
    · rw [e]
    · rw [← ih (by omega) (by omega)]
      show zU (zdayT f n) 4 n 0 = zdayT f n
      have z : zdayT f n 4 n = 0 := by rw [zdayT_o f n n (Nat.le_refl _)]; exact h n (by omega) (by omega)
      have i := zU_id (f := zdayT f n) (c := 4) (k := n)
      rw [z] at i
      exact i
section
variable {m : zf_Me}
theorem zR_no {r : Int × zS} {w : Int32} {Q : Int32 → zf_Me → Prop} (hw : -8 < w.toInt ∧ w.toInt ≤ 0) (K : ∀ v m', zgQ m m' → v.toInt = r.1 → zr m' = r.2 → Q v m') (e : r = (w.toInt, zr m)) : wp_125 w m Q :=
  zs_125 hw (fun m' f => K _ m' (zg64_q f) (by rw [e]) (by rw [e]; exact zg64_r f))
theorem zR_no10 {r : Int × zS} {w : Int32} {Q : Int32 → zf_Me → Prop} (hw : -8 < w.toInt ∧ w.toInt ≤ 0) (K : ∀ v m', zgQ m m' → v.toInt = r.1 → zr m' = r.2 → Q v m') (e : r = (w.toInt - 10, zr m)) : wp_126 w m Q := by
  have e10 : (10 : Int32).toInt = 10 := rfl
  have t := fb_subI (x := w) (y := 10) (by omega) (by omega)
  exact zs_126 hw (fun m' f => K _ m' (zg64_q f) (by rw [e]; show _ = w.toInt - 10; omega) (by rw [e]; exact zg64_r f))
theorem zY_142 (hJ : JM m) {s t : Int32} {Q : Int32 → zf_Me → Prop} (K : ∀ v m', zgQ m m' → v.toInt = (zN75 (zr m) s.toInt t.toInt).1 → zr m' = (zN75 (zr m) s.toInt t.toInt).2 → Q v m') : wp_142 s t m Q := by
  have b := zB_r hJ.1
  have p : zr m 5 5 = (m.1 63 0).toInt := rfl
  refine ⟨fun g => zR_no (by decide) K (if_pos (Or.inl g)), fun g => ⟨fun g2 => ⟨fun g3 => ⟨fun g4 => zs_140 (by omega) (fun m' z f => K _ m' (zgc_q f) ?_ ?_), fun g4 => zs_140 (by omega) (fun m' z f => K _ m' (zgc_q f) ?_ ?_)⟩, fun g3 => zR_no (by decide) K ?_⟩, fun g2 => zR_no (by decide) K (if_pos (Or.inr (by omega)))⟩⟩
  · unfold zN75
    rw [if_neg (by omega), if_pos (by rw [p]; omega)]
    rfl
  · unfold zN75
    rw [if_neg (by omega), if_pos (by rw [p]; omega), z, g4]
    rfl
  · unfold zN75
    rw [if_neg (by omega), if_pos (by rw [p]; omega)]
    rfl
  · unfold zN75
    rw [if_neg (by omega), if_pos (by rw [p]; omega), z, if_neg g4]
    rfl
  · unfold zN75
    rw [if_neg (by omega), if_neg (by rw [p]; omega)]
    rfl
theorem zY_143 (hJ : JM m) {k a : Int32} {Q : Int32 → zf_Me → Prop} (K : ∀ v m', zgQ m m' → v.toInt = (zN76 (zr m) k.toInt a.toInt).1 → zr m' = (zN76 (zr m) k.toInt a.toInt).2 → Q v m') : wp_143 k a m Q := by
  have b := zB_r hJ.1
  have p : zr m 5 6 = (m.1 63 1).toInt := rfl
  refine ⟨fun g => zR_no (by decide) K (if_pos (by omega)), fun g => ⟨fun g2 => ⟨fun g3 => zR_no (by decide) K ?_, fun g3 => ⟨fun g4 => ⟨fun g5 => zs_141 (by omega) (fun m' z f => K _ m' (zgc_q f) ?_ ?_), fun g5 => zR_no (by decide) K ?_⟩, fun g4 => zR_no (by decide) K ?_⟩⟩, fun g2 => zR_no (by decide) K (if_pos (by omega))⟩⟩
  · unfold zN76
    rw [if_neg (by omega), if_pos (by omega)]
    rfl
  · unfold zN76
    rw [if_neg (by omega), if_neg (by omega), if_pos (by rw [p]; omega)]
    rfl
  · unfold zN76
    rw [if_neg (by omega), if_neg (by omega), if_pos (by rw [p]; omega)]
    exact z
  · unfold zN76
    rw [if_neg (by omega), if_neg (by omega), if_neg (by rw [p]; omega)]
    rfl
  · unfold zN76
    rw [if_neg (by omega), if_pos (by omega)]
    rfl
theorem zY_150 {w v : Int32} {Q : Int32 → zf_Me → Prop} (K : ∀ x m', zgQ m m' → x.toInt = (zN79 (zr m) w.toInt v.toInt).1 → zr m' = (zN79 (zr m) w.toInt v.toInt).2 → Q x m') : wp_150 w v m Q := by
  refine ⟨fun g => zR_no (by decide) K (if_pos (by omega)), fun g => ⟨fun g2 => zR_no (by decide) K (if_pos (by omega)), fun g2 => zs_146 g (fun k => ⟨fun z => (nomatch z), fun _ => zs_149 (by omega) (fun x m' e z f => K _ m' (zgc_q f) ?_ ?_)⟩) (fun k => ⟨fun _ => zR_no (by decide) K ?_, fun z => (nomatch z)⟩)⟩⟩
  · unfold zN79
    rw [if_neg (by omega), if_pos k]
    exact e
  · unfold zN79
    rw [if_neg (by omega), if_pos k]
    exact z
  · unfold zN79
    rw [if_neg (by omega), if_neg k]
    rfl
theorem zY_151 (hJ : JM m) {p v : Int32} {Q : Int32 → zf_Me → Prop} (K : ∀ x m', zgQ m m' → x.toInt = (zN80 (zr m) p.toInt v.toInt).1 → zr m' = (zN80 (zr m) p.toInt v.toInt).2 → Q x m') : wp_151 p v m Q := by
  have b := zB_r hJ.1
  have q : zr m 5 6 = (m.1 63 1).toInt := rfl
  refine zs_128 (fun g => ⟨fun _ => ⟨fun g0 => zR_no (by decide) K ?_, fun g1 => ⟨fun g2 => ⟨by omega, by omega, fun m5 q5 => K _ m5 ?_ ?_ ?_⟩, fun g2 => zR_no (by decide) K ?_⟩⟩, fun z => (nomatch z)⟩) (fun g => ⟨fun z => (nomatch z), fun _ => zR_no (by decide) K (if_pos (by rw [q]; exact g))⟩)
  · unfold zN80
    rw [if_neg (by rw [q]; omega), if_pos (by omega)]
    rfl
  · rw [q5]
    exact zgr_u zgr_refl (by omega)
  · unfold zN80
    rw [if_neg (by rw [q]; omega), if_neg (by omega)]
    show _ = zN 6 (m.1 69) p.toInt.toNat
    rw [zN_lt (by omega)]
  · unfold zN80
    rw [if_neg (by rw [q]; omega), if_neg (by omega), q5, zr_a4 (by omega)]
  · unfold zN80
    rw [if_neg (by rw [q]; omega), if_pos (by omega)]
    rfl
theorem zY_152 {p : Int32} {Q : Int32 → zf_Me → Prop} (K : ∀ x m', zgQ m m' → x.toInt = (zN81 (zr m) p.toInt).1 → zr m' = (zN81 (zr m) p.toInt).2 → Q x m') : wp_152 p m Q := by
  have q : zr m 5 6 = (m.1 63 1).toInt := rfl
  have fin : p.toInt = -1 ∨ (0 ≤ p.toInt ∧ p.toInt < (m.1 63 1).toInt) → wq_152_19 p m Q := fun g m1 q1 => K _ m1 (by rw [q1]; exact zgr_u zgr_refl (by omega)) (by unfold zN81; rw [if_pos (by rw [q]; exact g)]; rfl) (by unfold zN81; rw [if_pos (by rw [q]; exact g), q1, zr_w2])
  exact ⟨fun g => fin (Or.inl g), fun n => zs_128 (fun g => ⟨fun _ => fin (Or.inr g), fun z => (nomatch z)⟩) (fun g => ⟨fun z => (nomatch z), fun _ => zR_no10 (by decide) K (if_neg (by rw [q]; exact fun z => z.elim n g))⟩)⟩
theorem zmay_r {f : zS} (hB : zB f) {a : Int} (h : zmay f a) : 0 ≤ a ∧ a ≤ 9 := by
  have b := hB.1
  rcases h with h | h | h | h | h
  · omega
  · omega
  · omega
  · omega
  · have c := h.2.2.2.2.1
    omega
theorem zY_197 (hJ : JM m) {a : Int32} {Q : Int32 → zf_Me → Prop} (K : ∀ x m', zgQ m m' → x.toInt = (zN100 (zr m) a.toInt).1 → zr m' = (zN100 (zr m) a.toInt).2 → Q x m') : wp_197 a m Q := by
  refine ⟨fun g => zR_no (by decide) K (if_neg (fun z => ?_)), fun g => ⟨fun g2 => zR_no (by decide) K (if_neg (fun z => ?_)), fun g2 => zs_167 hJ.1 g2 (fun b hb => ⟨fun e => zs_169 hJ.1 ⟨g, g2⟩ (hb.mp e) (fun m' z f => K _ m' (zgc_q f) ?_ ?_), fun e => zR_no (by decide) K (if_neg (zno hb e))⟩)⟩⟩
  · have := zmay_r hJ.1 z
    omega
  · have := zmay_r hJ.1 z
    omega
  · unfold zN100
    rw [if_pos (hb.mp e), ← z]
    rfl
  · unfold zN100
    rw [if_pos (hb.mp e)]
    exact z
theorem zY_201 {v : Int32} {Q : Int32 → zf_Me → Prop} (K : ∀ x m', zgQ m m' → x.toInt = (zN103 (zr m) v.toInt).1 → zr m' = (zN103 (zr m) v.toInt).2 → Q x m') : wp_201 v m Q := fun m1 q1 => K _ m1 (by rw [q1]; exact zgr_u zgr_refl (by omega)) rfl (by rw [q1, zr_w12]; rfl)
theorem zX_102 (hJ : JX m) {Q : Int32 → zf_Me → Prop} (K : ∀ x m', zw m m' → x.toInt = (zN102 (zv 2 3 8 m)).1 → zv 2 3 8 m' = (zN102 (zv 2 3 8 m)).2 → Q x m') : wp_102 m Q := by
  have e1 : (1 : Int32).toInt = 1 := rfl
  have e0 : (0 : Int32).toInt = 0 := rfl
  intro m1 q1 m3 q3 m5 q5 m7 q7
  have f7 : zfr (fun a => a = 2 ∨ a = 8) m m7 := by
    rw [q7, q5, q3, q1]
    exact zfr_u (zfr_u (zfr_u (zfr_u zfr_refl (Or.inl rfl)) (Or.inl rfl)) (Or.inl rfl)) (Or.inl rfl)
  have z7 : zv 2 3 8 m7 = zday0 (zv 2 3 8 m) := by
    rw [q7, zv_w4 zd2, q5, zv_w6 zd2, q3, zv_w11 zd2, q1, zv_w10 zd2, ← q1, ← q3, ← q5]
    have c : (m5.1 2 3).toInt = zv 2 3 8 m 5 0 := by
      rw [q5, zf_u4 (by decide), q3, zf_u4 (by decide), q1, zf_u4 (by decide)]
      rfl
    rw [c]
    rfl
  have lp : ∀ (n : Nat) (v2 : Int32) (mj : zf_Me), 0 ≤ v2.toInt → v2.toInt ≤ 6 → 6 - v2.toInt < n → zv 2 3 8 mj = zdayT (zday0 (zv 2 3 8 m)) v2.toInt.toNat → zfr (fun a => a = 2 ∨ a = 8) m mj → wq_102_48 Q n (m.1 2 10) v2 mj := by
    intro n
    induction n with
    | zero => intro v2 mj h0 h1 h2; omega
    | succ n ih =>
      intro v2 mj h0 h1 h2 hz hf
      refine ⟨fun g => K _ mj (zfr_mono hf (fun a ha => by omega)) rfl ?_, fun g => ⟨by omega, fun m9 q9 => ?_⟩⟩
      · rw [hz, show v2.toInt.toNat = 6 by omega]
        rfl
      · have s := fb_addI (x := v2) (y := 1) (by omega) (by omega)
        refine ih _ m9 (by omega) (by omega) (by omega) ?_ (by rw [q9]; exact zfr_u hf (Or.inr rfl))
        rw [q9, zv_a4 zd2 (by omega), hz, show (v2 + 1).toInt.toNat = v2.toInt.toNat + 1 by omega]
        rfl
  exact ⟨8, lp 8 0 m7 (by decide) (by decide) (by decide) z7 f7⟩
theorem zY_200 (hJ : JM m) (ht : zTz (zr m)) {Q : Int32 → zf_Me → Prop} (K : ∀ x m', zgQ m m' → x.toInt = (zN102 (zr m)).1 → zr m' = (zN102 (zr m)).2 → Q x m') : wp_200 m Q := by
  have e1 : (1 : Int32).toInt = 1 := rfl
  have e0 : (0 : Int32).toInt = 0 := rfl
  have b := zB_r hJ.1
  intro m1 q1 m3 q3 m5 q5 m7 q7
  have f7 : zgc m m7 := by
    rw [q7, q5, q3, q1]
    exact zgr_u (zgr_u (zgr_u (zgr_u zgr_refl (by omega)) (by omega)) (by omega)) (by omega)
  have c : (m5.1 63 4).toInt = zr m 5 0 := by
    rw [q5, zf_u4 (by decide), q3, zf_u4 (by decide), q1, zf_u4 (by decide)]
    rfl
  have z7 : zr m7 = zday0 (zr m) := by
    rw [q7, zr_w3, c, q5, zr_w6, q3, zr_w11, q1, zr_w10]
    rfl
  have p7 : (m7.1 63 1).toInt = (m.1 63 1).toInt := by rw [q7, zf_u4 (by decide), q5, zf_u4 (by decide), q3, zf_u4 (by decide), q1, zf_u4 (by decide)]
  have lp : ∀ (n : Nat) (v2 : Int32) (mj : zf_Me), 0 ≤ v2.toInt → v2.toInt ≤ (m.1 63 1).toInt → (m.1 63 1).toInt - v2.toInt < n → zr mj = zdayT (zday0 (zr m)) v2.toInt.toNat → (mj.1 63 1).toInt = (m.1 63 1).toInt → zgc m mj → wq_200_30 Q n (m.1 63 10) v2 mj := by
    intro n
    induction n with
    | zero => intro v2 mj h0 h1 h2; omega
    | succ n ih =>
      intro v2 mj h0 h1 h2 hz hp hf
      refine ⟨fun g => K _ mj (zgc_q hf) rfl ?_, fun g => ⟨by omega, fun m9 q9 => ?_⟩⟩
      · rw [hz]
        show _ = zdayT (zday0 (zr m)) 6
        refine (zdayT_e (zday0 (zr m)) v2.toInt.toNat (fun k k6 hk => ?_) 6 (by omega) (by decide)).symm
        have := ht k k6 (by show (m.1 63 1).toInt ≤ _; omega)
        exact this
      · have s := fb_addI (x := v2) (y := 1) (by omega) (by omega)
        refine ih _ m9 (by omega) (by omega) (by omega) ?_ (by rw [q9, zf_u1 (by decide)]; exact hp) (by rw [q9]; exact zgr_u hf (by omega))
        rw [q9, zr_a4 (by omega), hz, show (v2 + 1).toInt.toNat = v2.toInt.toNat + 1 by omega]
        rfl
  exact ⟨8, lp 8 0 m7 (by decide) (by show (0 : Int) ≤ _; omega) (by show (m.1 63 1).toInt - 0 < _; omega) z7 p7 f7⟩
end
end
section
/-! part 72: the reference's summers, exactly -/
theorem zaux1 {a : Int} (h0 : 0 ≤ a) (h1 : ¬ a = 0) : 0 ≤ a + -1 := by omega
theorem zaux2 {a : Int} {c d : Nat} (h : a < c) (e : c = 1 + d) : a + -1 < d := by omega
theorem zaux3 {a : Int} {c d : Nat} (h : a < c) (e : c = 0 + d) : a < d := by omega
theorem zaux6 {v : Int32} (h : 0 ≤ v.toInt) : (v + (-1)).toInt = v.toInt + -1 := by
  have en : (-1 : Int32).toInt = -1 := rfl
  have r := fb_rng v
  have s := fb_addI (x := v) (y := -1) (by omega) (by omega)
  rw [en] at s
  exact s
section
variable {m : zf_Me}
theorem zcnt_s {f : zS} {n i : Nat} : zcnt f (n + 1) i = (if zmay f i then 1 else 0) + zcnt f n (i + 1) := rfl
theorem zpick_s {f : zS} {n i : Nat} {left : Int} : zpick f (n + 1) i left = if zmay f i then (if left = 0 then ((i : Nat) : Int) else zpick f n (i + 1) (left - 1)) else zpick f n (i + 1) left := rfl
theorem zcnt_b (f : zS) : (zbits f 10 = 0 → zcnt f 10 0 = 0) ∧ (¬ zbits f 10 = 0 → 0 < zcnt f 10 0) ∧ zcnt f 10 0 ≤ 10 := by
  have c := zbc_ok (zbits f 10) (zbits_lt f 10)
  have p := zpcr_cnt f 10 0 (by decide)
  rw [p] at c
  refine ⟨fun e => ?_, c.2.1, c.2.2⟩
  rw [e] at p
  rw [← p]
  rfl
theorem zbt_i {N k : Nat} {v4 v7 : Int32} (hN : N < 1024) (h4 : v4 = Int32.ofNat N) (hk : k < 10) (h7 : v7.toInt = k) : (((v4 >>> (v7 &&& 31)) &&& 1)).toInt = (if N.testBit k = true then 1 else 0) := by
  have e7 : v7 = Int32.ofNat k := zn_of _ _ h7
  have a := zand1 (v4 >>> (v7 &&& 31))
  rw [h4, e7] at a ⊢
  have t := zbt_ok N hN k hk
  cases h : N.testBit k with
  | true =>
    have n : ¬ ((((Int32.ofNat N) >>> ((Int32.ofNat k) &&& 31)) &&& 1)).toInt = 0 := fun z => by rw [t.mp z] at h; cases h
    rw [if_pos rfl]
    generalize ((((Int32.ofNat N) >>> ((Int32.ofNat k) &&& 31)) &&& 1)).toInt = x at a n ⊢
    omega
  | false =>
    rw [if_neg (by decide)]
    exact t.mpr h
/-- the draw among N's bits, over what may be -/
theorem zs_sumR (hB : zB (zr m)) {v1 : Int32} {F : Int32 → Int32 → zf_Me → Prop} {Q : Int32 → zf_Me → Prop} {v2 v3 : Int32} (hF : ∀ m', zgc m m' → zr m' = zsum1 (zr m) → F v2 (v3 + 1) m') : wp_173 m (fun x3 m4 => (∃ n42, wq_199_42 v1 F Q n42 v2 v3 x3 0 0 m4)) := by
  have e1 : (1 : Int32).toInt = 1 := rfl
  have en : (-1 : Int32).toInt = -1 := rfl
  refine zs_173 hB ?_
  have cb := zcnt_b (zr m)
  have s1 : zbits (zr m) 10 = 0 → zsum1 (zr m) = zr m := fun e => if_pos e
  have s2 : ¬ zbits (zr m) 10 = 0 → zsum1 (zr m) = zact (zU (zr m) 5 12 (znexts (zr m 5 12))) (zpick (zr m) 10 0 (zup (znexts (zr m 5 12)) % zcnt (zr m) 10 0)) := fun e => if_neg e
  obtain ⟨N, lN, eN, tN, cb, s1, s2⟩ : ∃ N, N < 1024 ∧ Int32.ofNat (zbits (zr m) 10) = Int32.ofNat N ∧ (∀ k, k < 10 → (N.testBit k = true ↔ zmay (zr m) ((k : Nat) : Int))) ∧ ((N = 0 → zcnt (zr m) 10 0 = 0) ∧ (¬ N = 0 → 0 < zcnt (zr m) 10 0) ∧ zcnt (zr m) 10 0 ≤ 10) ∧ (N = 0 → zsum1 (zr m) = zr m) ∧ (¬ N = 0 → zsum1 (zr m) = zact (zU (zr m) 5 12 (znexts (zr m 5 12))) (zpick (zr m) 10 0 (zup (znexts (zr m 5 12)) % zcnt (zr m) 10 0))) := ⟨zbits (zr m) 10, zbits_lt _ 10, rfl, fun k hk => zbits_test (zr m) k 10 hk, cb, s1, s2⟩
  rw [eN]
  clear eN
  have lp86 : ∀ (j : Nat) (v6 v7 : Int32) (mi : zf_Me), 0 ≤ v7.toInt → v7.toInt ≤ 10 → 10 - v7.toInt < j → zgc m mi → (0 ≤ v6.toInt → ¬ N = 0 ∧ zr mi = zU (zr m) 5 12 (znexts (zr m 5 12)) ∧ v6.toInt < zcnt (zr m) (10 - v7.toInt.toNat) v7.toInt.toNat ∧ zpick (zr m) (10 - v7.toInt.toNat) v7.toInt.toNat v6.toInt = zpick (zr m) 10 0 (zup (znexts (zr m 5 12)) % zcnt (zr m) 10 0)) → (v6.toInt < 0 → zr mi = zsum1 (zr m)) → wq_199_86 v1 F Q j v2 v3 (Int32.ofNat N) v6 v7 mi := by
    intro j
    induction j with
    | zero => intro v6 v7 mi k0 k1 k2; omega
    | succ j ij =>
      intro v6 v7 mi k0 k1 k2 kf ka kb
      by_cases g6 : v6.toInt < 0
      · exact ⟨fun _ => hF mi kf (kb g6), fun _ => ⟨fun _ => hF mi kf (kb g6), fun z => absurd g6 (Int.not_lt.mpr z)⟩⟩
      · have pos : 0 ≤ v6.toInt := Int.not_lt.mp g6
        have a := ka pos
        have g9 : v7.toInt ≤ 9 := by
          refine Decidable.byContradiction fun z => ?_
          have c := a.2.2.1
          rw [show 10 - v7.toInt.toNat = 0 by omega] at c
          have : ((zcnt (zr m) 0 v7.toInt.toNat : Nat) : Int) = 0 := rfl
          omega
        have s7 := fb_addI (x := v7) (y := 1) (by omega) (by omega)
        have s6 := zaux6 pos
        have n7 : 0 ≤ (v7 + 1).toInt ∧ (v7 + 1).toInt ≤ 10 ∧ 10 - (v7 + 1).toInt < j := by omega
        have e7 : v7.toInt = ((v7.toInt.toNat : Nat) : Int) := by omega
        have l7 : v7.toInt.toNat < 10 := by omega
        have p7 : (v7 + 1).toInt.toNat = v7.toInt.toNat + 1 := by omega
        have q7 : 10 - v7.toInt.toNat = (10 - (v7 + 1).toInt.toNat) + 1 := by omega
        have cs := zcnt_s (f := zr m) (n := 10 - (v7 + 1).toInt.toNat) (i := v7.toInt.toNat)
        have ps := zpick_s (f := zr m) (n := 10 - (v7 + 1).toInt.toNat) (i := v7.toInt.toNat) (left := v6.toInt)
        rw [← q7, ← p7] at cs ps
        refine ⟨fun z => absurd g9 (by omega), fun _ => ⟨fun z => absurd z g6, fun _ => ⟨fun gb => ?_, fun gb => ?_⟩⟩⟩
        · have bi := zbt_i lN rfl l7 e7
          have hbit : N.testBit v7.toInt.toNat = true := by
            cases h : N.testBit v7.toInt.toNat with
            | true => rfl
            | false =>
              rw [h] at bi
              exact absurd bi gb
          clear bi gb
          have hm := (tN _ l7).mp hbit
          rw [if_pos hm] at cs ps
          refine ⟨fun n0 => ij _ _ mi n7.1 n7.2.1 n7.2.2 kf (fun _ => ?_) (fun z => ?_), fun z0 => ?_⟩
          · rw [if_neg n0] at ps
            rw [s6]
            refine ⟨a.1, a.2.1, zaux2 a.2.2.1 cs, ?_⟩
            · rw [show v6.toInt + -1 = v6.toInt - 1 from rfl, ← ps]
              exact a.2.2.2
          · rw [s6] at z
            exact absurd (zaux1 pos n0) (Int.not_le.mpr z)
          · rw [if_pos z0] at ps
            have hp : zpick (zr m) 10 0 (zup (znexts (zr m 5 12)) % zcnt (zr m) 10 0) = v7.toInt := by
              rw [← a.2.2.2, ps]
              exact e7.symm
            have hm' : zmay (zr mi) v7.toInt := by
              rw [a.2.1, e7]
              exact hm
            have bi : zB (zr mi) := by
              rw [a.2.1]
              exact zB_next hB
            refine zs_169 bi ⟨k0, g9⟩ hm' (fun m8 z8 f8 => ij _ _ m8 n7.1 n7.2.1 n7.2.2 (zgr_trans kf f8) (fun z => ?_) (fun _ => ?_))
            · rw [s6, z0] at z
              exact absurd z (by decide)
            · rw [z8, s2 a.1, hp, a.2.1]
        · have bi := zbt_i lN rfl l7 e7
          have hbit : ¬ N.testBit v7.toInt.toNat = true := fun h => by
            rw [h, if_pos rfl, gb] at bi
            exact absurd bi (by decide)
          clear bi gb
          have hm : ¬ zmay (zr m) ((v7.toInt.toNat : Nat) : Int) := fun z => hbit ((tN _ l7).mpr z)
          rw [if_neg hm] at cs ps
          refine ij _ _ mi n7.1 n7.2.1 n7.2.2 kf (fun _ => ⟨a.1, a.2.1, zaux3 a.2.2.1 cs, ?_⟩) (fun z => absurd z g6)
          · rw [← ps]
            exact a.2.2.2
  have lp42 : ∀ (j : Nat) (v5 v6 : Int32), 0 ≤ v6.toInt → v6.toInt ≤ 10 → 10 - v6.toInt < j → 0 ≤ v5.toInt → v5.toInt + zcnt (zr m) (10 - v6.toInt.toNat) v6.toInt.toNat = zcnt (zr m) 10 0 → wq_199_42 v1 F Q j v2 v3 (Int32.ofNat N) v5 v6 m := by
    intro j
    induction j with
    | zero => intro v5 v6 k0 k1 k2; omega
    | succ j ij =>
      intro v5 v6 k0 k1 k2 k3 k4
      refine ⟨fun g => ?_, fun g => ?_⟩
      · rw [show 10 - v6.toInt.toNat = 0 by omega] at k4
        have z0 : ((zcnt (zr m) 0 v6.toInt.toNat : Nat) : Int) = 0 := rfl
        have c5 : v5.toInt = zcnt (zr m) 10 0 := by omega
        refine ⟨fun g5 => ?_, fun g5 => hF m zgr_refl ?_⟩
        · have nN : ¬ N = 0 := fun z => by have := cb.1 z; omega
          refine zs_198 (by omega) (fun x m6 ex z6 f6 => ⟨12, lp86 12 x 0 m6 (by decide) (by decide) (by decide) f6 (fun _ => ⟨nN, z6, ?_, ?_⟩) (fun z => ?_)⟩)
          · show x.toInt < zcnt (zr m) 10 0
            rw [ex, ← c5]
            exact Int.emod_lt_of_pos _ (by omega)
          · show zpick (zr m) 10 0 x.toInt = _
            rw [ex, c5]
          · have := Int.emod_nonneg (zup (znexts (zr m 5 12))) (show v5.toInt ≠ 0 from g5)
            omega
        · refine (s1 (Decidable.byContradiction fun z => ?_)).symm
          have := cb.2.1 z
          omega
      · have s6 := fb_addI (x := v6) (y := 1) (by omega) (by omega)
        have l6 : v6.toInt.toNat < 10 := by omega
        have n6 : 0 ≤ (v6 + 1).toInt ∧ (v6 + 1).toInt ≤ 10 ∧ 10 - (v6 + 1).toInt < j := by omega
        have p6 : (v6 + 1).toInt.toNat = v6.toInt.toNat + 1 := by omega
        have q6 : 10 - v6.toInt.toNat = (10 - (v6 + 1).toInt.toNat) + 1 := by omega
        have cs := zcnt_s (f := zr m) (n := 10 - (v6 + 1).toInt.toNat) (i := v6.toInt.toNat)
        rw [← q6, ← p6] at cs
        have bi := zbt_i lN (rfl : Int32.ofNat N = Int32.ofNat N) l6 (show v6.toInt = ((v6.toInt.toNat : Nat) : Int) by omega)
        have cB := cb.2.2
        by_cases h : N.testBit v6.toInt.toNat = true
        · rw [if_pos ((tN _ l6).mp h)] at cs
          rw [if_pos h] at bi
          generalize ((Int32.ofNat N) >>> (v6 &&& 31)) &&& 1 = y at bi ⊢
          have s5 := fb_addI (x := v5) (y := y) (by omega) (by omega)
          exact ij _ _ n6.1 n6.2.1 n6.2.2 (by omega) (by omega)
        · rw [if_neg (fun z => h ((tN _ l6).mpr z))] at cs
          rw [if_neg h] at bi
          generalize ((Int32.ofNat N) >>> (v6 &&& 31)) &&& 1 = y at bi ⊢
          have s5 := fb_addI (x := v5) (y := y) (by omega) (by omega)
          exact ij _ _ n6.1 n6.2.1 n6.2.2 (by omega) (by omega)
  exact ⟨12, lp42 12 0 0 (by decide) (by decide) (by decide) (by decide) (by show (0 : Int) + zcnt (zr m) 10 0 = _; omega)⟩
theorem zY_199 (hJ : JM m) {n : Int32} {Q : Int32 → zf_Me → Prop} (K : ∀ x m', zgQ m m' → x.toInt = (zN101 (zr m) n.toInt).1 → zr m' = (zN101 (zr m) n.toInt).2 → Q x m') : wp_199 n m Q := by
  have e1 : (1 : Int32).toInt = 1 := rfl
  refine ⟨fun g => zR_no (by decide) K (if_neg (by omega)), fun g => ⟨fun g2 => ?_, fun g2 => zR_no (by decide) K (if_neg (by omega))⟩⟩
  have lp : ∀ (k : Nat) (v3 : Int32) (mj : zf_Me), 0 ≤ v3.toInt → v3.toInt ≤ n.toInt → n.toInt - v3.toInt < k → zgc m mj → zB (zr mj) → zsumm (zr mj) (n.toInt - v3.toInt).toNat = zsumm (zr m) n.toInt.toNat → wq_199_25 n Q k (m.1 63 10) v3 mj := by
    intro k
    induction k with
    | zero => intro v3 mj h0 h1 h2; omega
    | succ k ih =>
      intro v3 mj h0 h1 h2 hf hb hz
      refine ⟨fun g3 => ?_, fun g3 => zs_sumR hb (fun m' f z => ?_)⟩
      · rw [show (n.toInt - v3.toInt).toNat = 0 by omega] at hz
        have hz' : zr mj = zsumm (zr m) n.toInt.toNat := hz
        refine K _ mj (zgc_q hf) ?_ ?_
        · unfold zN101
          rw [if_pos ⟨g, g2⟩, ← hz']
          have h1 := hJ.1.1
          have h3 := hb.1
          have p1 : zr mj 5 10 = (mj.1 63 10).toInt := rfl
          have p2 : zr m 5 10 = (m.1 63 10).toInt := rfl
          show _ = zr mj 5 10 - zr m 5 10
          rw [p1, p2, fb_subI (by omega) (by omega)]
        · unfold zN101
          rw [if_pos ⟨g, g2⟩]
          exact hz'
      · have s := fb_addI (x := v3) (y := 1) (by omega) (by omega)
        refine ih _ m' (by omega) (by omega) (by omega) (zgr_trans hf f) (by rw [z]; exact zsum1_B hb) ?_
        rw [z, ← hz, show (n.toInt - v3.toInt).toNat = (n.toInt - (v3 + 1).toInt).toNat + 1 by omega]
        rfl
  exact ⟨62, lp 62 0 m (by decide) (by show (0 : Int) ≤ _; omega) (by show n.toInt - 0 < _; omega) zgr_refl hJ.1 (by rw [show (n.toInt - (0 : Int32).toInt) = n.toInt by show n.toInt - 0 = _; omega])⟩
end
end
section
/-! part 73: shelves as functions; rows, elements, what is shown: the class -/
abbrev zHe : Type := Int × Int × (Nat → Int64)
abbrev zH : Type := Nat → zHe
def znorm (c l : Int) (e : Nat → Int64) : zHe := if 100 ≤ c then (c, l, fun i => if (i : Int) < l then e i else 0) else (c, 0, fun _ => 0)
def zhC (m : zf_Me) : zH := fun j => if j < 8 then znorm (m.1 (47 + 2 * j) 1).toInt (m.1 (47 + 2 * j) 2).toInt (m.2 (48 + 2 * j)) else (-1, 0, fun _ => 0)
def zcode (k o p : Int) : Int := if k = 1 then 100 + o else if k = 2 then p else -1
def zhR (m : zf_Me) : zH := fun j => if j < 8 then znorm (zcode (m.1 70 j).toInt (m.1 71 j).toInt (m.1 73 j).toInt) (m.1 72 j).toInt (fun i => m.2 74 (160 * j + i)) else (-1, 0, fun _ => 0)
def zput (h : zH) (s : Nat) (x : zHe) : zH := fun j => if j = s then x else h j
def zconv (o : Int) (x : Int64) : Int64 := if o = 0 then Int32.toInt64 (Int8.toInt32 (Int32.toInt8 (Int64.toInt32 x))) else if o = 1 then Int32.toInt64 (Int16.toInt32 (Int32.toInt16 (Int64.toInt32 x))) else if o = 2 then Int32.toInt64 (Int64.toInt32 x) else x
def zN68 (h : zH) (s o n : Int) : Int × zH := (zrowA s o n, if zrowA s o n = 1 then zput h s.toNat (100 + o, n, fun _ => 0) else h)
def zN72 (h : zH) (pe s p : Int) : Int × zH := if ¬ (0 ≤ s ∧ s < 8) then (-1, h) else if p = -1 then (0, zput h s.toNat (-1, 0, fun _ => 0)) else if 0 ≤ p ∧ p < pe then (1, zput h s.toNat (p, 0, fun _ => 0)) else (-1, h)
def zN71 (h : zH) (s i : Int) : Int64 := if (0 ≤ s ∧ s < 8) ∧ 100 ≤ (h s.toNat).1 ∧ 0 ≤ i ∧ i < (h s.toNat).2.1 then (h s.toNat).2.2 i.toNat else 0
theorem zhC_put {m m' : zf_Me} {s : Nat} (hs : s < 8) (h : ∀ j, j < 8 → ¬ j = s → m'.1 (47 + 2 * j) = m.1 (47 + 2 * j) ∧ m'.2 (48 + 2 * j) = m.2 (48 + 2 * j)) : zhC m' = zput (zhC m) s (znorm (m'.1 (47 + 2 * s) 1).toInt (m'.1 (47 + 2 * s) 2).toInt (m'.2 (48 + 2 * s))) := by
  funext j
  unfold zput
  by_cases e : j = s
  · rw [if_pos e, e]
    exact if_pos hs
  · rw [if_neg e]
    unfold zhC
    by_cases g : j < 8
    · rw [if_pos g, if_pos g, (h j g e).1, (h j g e).2]
    · rw [if_neg g, if_neg g]
theorem zhR_put {m m' : zf_Me} {s : Nat} (hs : s < 8) (h : ∀ j, j < 8 → ¬ j = s → m'.1 70 j = m.1 70 j ∧ m'.1 71 j = m.1 71 j ∧ m'.1 72 j = m.1 72 j ∧ m'.1 73 j = m.1 73 j ∧ ∀ i, i < 160 → m'.2 74 (160 * j + i) = m.2 74 (160 * j + i)) (hl : zsR m) : zhR m' = zput (zhR m) s (znorm (zcode (m'.1 70 s).toInt (m'.1 71 s).toInt (m'.1 73 s).toInt) (m'.1 72 s).toInt (fun i => m'.2 74 (160 * s + i))) := by
  funext j
  unfold zput
  by_cases e : j = s
  · rw [if_pos e, e]
    exact if_pos hs
  · rw [if_neg e]
    unfold zhR
    by_cases g : j < 8
    · have k := h j g e
      have b := hl j g
      rw [if_pos g, if_pos g, k.1, k.2.1, k.2.2.1, k.2.2.2.1]
      unfold znorm
      split
      · congr 2
        funext i
        by_cases l : (i : Int) < (m.1 72 j).toInt
        · rw [if_pos l, if_pos l]
          exact k.2.2.2.2 i (by omega)
        · rw [if_neg l, if_neg l]
      · rfl
    · rw [if_neg g, if_neg g]
theorem zhC_id {m m' : zf_Me} (h : ∀ a, 47 ≤ a → a ≤ 62 → m'.1 a = m.1 a ∧ m'.2 a = m.2 a) : zhC m' = zhC m := by
  funext j
  unfold zhC
  by_cases g : j < 8
  · rw [if_pos g, if_pos g, (h (47 + 2 * j) (by omega) (by omega)).1, (h (48 + 2 * j) (by omega) (by omega)).2]
  · rw [if_neg g, if_neg g]
theorem zhC_q {m m' : zf_Me} (h : zq m m') : zhC m' = zhC m := zhC_id (fun a h1 h2 => ⟨h.1 a (by omega), by rw [h.2]⟩)
theorem zhC_w {m m' : zf_Me} (h : zw m m') : zhC m' = zhC m := zhC_id (fun a h1 h2 => ⟨h.1 a (by omega), by rw [h.2]⟩)
section
variable {m : zf_Me}
theorem zC_noh {r : Int × zH} {w : Int32} {Q : Int32 → zf_Me → Prop} (hw : 0 ≤ w.toInt ∧ w.toInt < 8) (K : ∀ v m', (zq m m' ∨ zfS m m' ∧ zsz m') → v.toInt = r.1 → zhC m' = r.2 → Q v m') (e : r = (-w.toInt, zhC m)) : wp_109 w m Q :=
  zs_109 hw (fun m' f => K _ m' (Or.inl (zfr_mono f (fun a ha => by omega))) (by rw [e]; exact fb_negI (by omega)) (by rw [e]; exact zhC_q (zfr_mono f (fun a ha => by omega))))
theorem zX_68 (hJ : JX m) {s o n : Int32} {Q : Int32 → zf_Me → Prop} (K : ∀ v m', (zq m m' ∨ zfS m m' ∧ zsz m') → v.toInt = (zN68 (zhC m) s.toInt o.toInt n.toInt).1 → zhC m' = (zN68 (zhC m) s.toInt o.toInt n.toInt).2 → Q v m') : wp_68 s o n m Q := by
  have e100 : (100 : Int32).toInt = 100 := rfl
  have no : ∀ {w : Int32}, (0 ≤ w.toInt ∧ w.toInt < 8) → ¬ (-w.toInt = 1) → zrowA s.toInt o.toInt n.toInt = -w.toInt → wp_109 w m Q := fun hw h1 e => zC_noh hw K (by unfold zN68; rw [e, if_neg h1])
  refine zs_114 (fun g => ⟨fun _ => ⟨fun g1 => ⟨fun g2 => no (w := 6) (by decide) (by decide) ?_, fun g2 => ⟨fun g3 => ⟨fun g4 => ⟨g, zs_22 (j := s.toInt.toNat) (by omega) (by omega) (fun m' hi ha hn hl hz => ?_)⟩, fun g4 => no (w := 7) (by decide) (by decide) ?_⟩, fun g3 => no (w := 6) (by decide) (by decide) ?_⟩⟩, fun g1 => no (w := 4) (by decide) (by decide) ?_⟩, fun z => (nomatch z)⟩) (fun g => ⟨fun z => (nomatch z), fun _ => no (w := 1) (by decide) (by decide) ?_⟩)
  · unfold zrowA
    rw [if_neg (by omega), if_neg (by omega), if_pos (by omega)]
    rfl
  · have e : zrowA s.toInt o.toInt n.toInt = 1 := by
      unfold zrowA
      rw [if_neg (by omega), if_neg (by omega), if_neg (by omega), if_neg (by omega)]
    refine K 1 m' (Or.inr ⟨⟨fun a ha => hi a (by omega), fun a ha => hl a (by omega)⟩, fun j hj => ?_⟩) ?_ ?_
    · by_cases ej : j = s.toInt.toNat
      · rw [ej, hn]
        omega
      · rw [hi _ (by omega)]
        exact hJ.2.2 j hj
    · show _ = zrowA s.toInt o.toInt n.toInt
      rw [e]
      rfl
    · unfold zN68
      rw [if_pos e, zhC_put (s := s.toInt.toNat) (by omega) (fun j hj hne => ⟨hi _ (by omega), hl _ (by omega)⟩)]
      have a := fb_addI (x := 100) (y := o) (by omega) (by omega)
      rw [ha, hn, a, e100]
      unfold znorm
      rw [if_pos (by omega)]
      congr 3
      funext i
      by_cases l : (i : Int) < n.toInt
      · rw [if_pos l, hz i (by omega)]
      · rw [if_neg l]
  · unfold zrowA
    rw [if_neg (by omega), if_neg (by omega), if_neg (by omega), if_pos (by omega)]
    rfl
  · unfold zrowA
    rw [if_neg (by omega), if_neg (by omega), if_pos (by omega)]
    rfl
  · unfold zrowA
    rw [if_neg (by omega), if_pos (by omega)]
    rfl
  · unfold zrowA
    rw [if_pos (by omega)]
    rfl
end
end
section
/-! part 74: rows, what is shown: the reference; what is shown: the class -/
/-- origins of rows -/
def zso (m : zf_Me) : Prop := ∀ j, j < 8 → (m.1 70 j).toInt = 1 → 0 ≤ (m.1 71 j).toInt ∧ (m.1 71 j).toInt ≤ 3
section
variable {m : zf_Me}
theorem zf_ul3 {c i : Nat} {x : Int64} : (zf_ul m c i x).2 c i = x := by simp [zf_ul]
theorem zf_ul4 {c i b : Nat} {x : Int64} (h : ¬ b = i) : (zf_ul m c i x).2 c b = m.2 c b := by simp [zf_ul, h]
/-- only rows of shelves of the reference and their longs -/
def zgH (m m' : zf_Me) : Prop := (∀ a, ¬ (70 ≤ a ∧ a ≤ 73) → m'.1 a = m.1 a) ∧ (∀ a, a < 63 → m'.2 a = m.2 a)
theorem zR_noh {r : Int × zH} {w : Int32} {Q : Int32 → zf_Me → Prop} (hw : -8 < w.toInt ∧ w.toInt ≤ 0) (K : ∀ v m', (zgQ m m' ∧ zr m' = zr m ∨ zgH m m' ∧ zsR m' ∧ zso m') → v.toInt = r.1 → zhR m' = r.2 → Q v m') (hh : ∀ m', zgQ m m' → zhR m' = zhR m) (e : r = (w.toInt, zhR m)) : wp_125 w m Q :=
  zs_125 hw (fun m' f => K _ m' (Or.inl ⟨zg64_q f, zg64_r f⟩) (by rw [e]) (by rw [e]; exact hh m' (zg64_q f)))
theorem zhR_q {m' : zf_Me} (h : zgQ m m') : zhR m' = zhR m := by
  funext j
  unfold zhR
  rw [h.1 70 j (by omega), h.1 71 j (by omega), h.1 72 j (by omega), h.1 73 j (by omega), h.2]
theorem zY_130 (hJ : JM m) (ho : zso m) {s o n : Int32} {Q : Int32 → zf_Me → Prop} (K : ∀ v m', (zgQ m m' ∧ zr m' = zr m ∨ zgH m m' ∧ zsR m' ∧ zso m') → v.toInt = (zN68 (zhR m) s.toInt o.toInt n.toInt).1 → zhR m' = (zN68 (zhR m) s.toInt o.toInt n.toInt).2 → Q v m') : wp_130 s o n m Q := by
  have e1 : (1 : Int32).toInt = 1 := rfl
  have no : ∀ {w : Int32}, (-8 < w.toInt ∧ w.toInt ≤ 0) → ¬ (w.toInt = 1) → zrowA s.toInt o.toInt n.toInt = w.toInt → wp_125 w m Q := fun hw h1 e => zR_noh hw K (fun m' => zhR_q) (by unfold zN68; rw [e, if_neg h1])
  refine zs_127 (fun g => ⟨fun _ => ⟨fun g2 => ⟨fun g3 => no (w := -6) (by decide) (by decide) ?_, fun g3 => ⟨fun g4 => ⟨fun g5 => ⟨g, fun m5 q5 => ⟨g, fun m7 q7 => ⟨g, fun m9 q9 => ?_⟩⟩⟩, fun g5 => no (w := -7) (by decide) (by decide) ?_⟩, fun g4 => no (w := -6) (by decide) (by decide) ?_⟩⟩, fun g2 => no (w := -4) (by decide) (by decide) ?_⟩, fun z => (nomatch z)⟩) (fun g => ⟨fun z => (nomatch z), fun _ => no (w := -1) (by decide) (by decide) ?_⟩)
  · unfold zrowA
    rw [if_neg (by omega), if_neg (by omega), if_pos (by omega)]
    rfl
  · have i9 : ∀ a, ¬ (70 ≤ a ∧ a ≤ 73) → m9.1 a = m.1 a := fun a ha => by rw [q9, zf_u1 (by omega), q7, zf_u1 (by omega), q5, zf_u1 (by omega)]
    have e : zrowA s.toInt o.toInt n.toInt = 1 := by
      unfold zrowA
      rw [if_neg (by omega), if_neg (by omega), if_neg (by omega), if_neg (by omega)]
    have k70 : m9.1 70 s.toInt.toNat = 1 := by rw [q9, zf_u1 (by decide), q7, zf_u1 (by decide), q5, zf_u3]
    have k71 : m9.1 71 s.toInt.toNat = o := by rw [q9, zf_u1 (by decide), q7, zf_u3]
    have k72 : m9.1 72 s.toInt.toNat = n := by rw [q9, zf_u3]
    have oth : ∀ j, ¬ j = s.toInt.toNat → m9.1 70 j = m.1 70 j ∧ m9.1 71 j = m.1 71 j ∧ m9.1 72 j = m.1 72 j ∧ m9.1 73 j = m.1 73 j := fun j hj => ⟨by rw [q9, zf_u1 (by decide), q7, zf_u1 (by decide), q5, zf_u4 hj], by rw [q9, zf_u1 (by decide), q7, zf_u4 hj, q5, zf_u1 (by decide)], by rw [q9, zf_u4 hj, q7, zf_u1 (by decide), q5, zf_u1 (by decide)], by rw [q9, zf_u1 (by decide), q7, zf_u1 (by decide), q5, zf_u1 (by decide)]⟩
    have l9 : m9.2 = m.2 := by rw [q9, q7, q5]; rfl
    have lp : ∀ (k : Nat) (v : Int32) (mj : zf_Me), 0 ≤ v.toInt → v.toInt ≤ 160 → 160 - v.toInt < k → mj.1 = m9.1 → (∀ a, ¬ a = 74 → mj.2 a = m.2 a) → (∀ i, ¬ (160 * s.toInt.toNat ≤ i ∧ i < 160 * s.toInt.toNat + 160) → mj.2 74 i = m.2 74 i) → (∀ i, i < v.toInt.toNat → mj.2 74 (160 * s.toInt.toNat + i) = 0) → wq_130_79 s o n Q k v mj := by
      intro k
      induction k with
      | zero => intro v mj k0 k1 k2; omega
      | succ k ih =>
        intro v mj k0 k1 k2 h1 h2 h3 h4
        have S9 : zsR mj := fun j hj => by
          rw [h1]
          by_cases ej : j = s.toInt.toNat
          · rw [ej, k70, k72]
            exact ⟨⟨by decide, by decide⟩, ⟨by omega, by omega⟩, fun z => absurd z (by decide)⟩
          · rw [(oth j ej).1, (oth j ej).2.2.1, (oth j ej).2.2.2]
            exact hJ.2.1 j hj
        have O9 : zso mj := fun j hj => by
          rw [h1]
          by_cases ej : j = s.toInt.toNat
          · rw [ej, k71]
            exact fun _ => ⟨by omega, by omega⟩
          · rw [(oth j ej).1, (oth j ej).2.1]
            exact ho j hj
        refine ⟨fun g6 => K 1 mj (Or.inr ⟨⟨fun a ha => by rw [h1]; exact i9 a ha, fun a ha => h2 a (by omega)⟩, S9, O9⟩) ?_ ?_, fun g6 => ?_⟩
        · show _ = zrowA s.toInt o.toInt n.toInt
          rw [e]
          rfl
        · unfold zN68
          rw [if_pos e, zhR_put (s := s.toInt.toNat) (by omega) (fun j hj hne => ⟨by rw [h1]; exact (oth j hne).1, by rw [h1]; exact (oth j hne).2.1, by rw [h1]; exact (oth j hne).2.2.1, by rw [h1]; exact (oth j hne).2.2.2, fun i hi => h3 _ (by omega)⟩) hJ.2.1]
          rw [h1, k70, k71, k72]
          unfold znorm zcode
          rw [if_pos e1, if_pos (by omega)]
          congr 3
          funext i
          by_cases l : (i : Int) < n.toInt
          · rw [if_pos l]
            exact h4 i (by omega)
          · rw [if_neg l]
        · have t := zix (s := s) (i := v) g (by omega)
          have t2 := fb_addI (x := v) (y := 1) (by omega) (by omega)
          have ei : (160 * s + v).toInt.toNat = 160 * s.toInt.toNat + v.toInt.toNat := by omega
          refine ⟨by omega, fun m11 q11 => ih _ m11 (by omega) (by omega) (by omega) (by rw [q11]; exact h1) (fun a ha => ?_) (fun i hi => ?_) (fun i hi => ?_)⟩
          · rw [q11]
            exact (if_neg ha).trans (h2 a ha)
          · rw [q11, ei, zf_ul4 (by omega)]
            exact h3 i hi
          · rw [q11, ei]
            by_cases ee : i = v.toInt.toNat
            · rw [ee, zf_ul3]
            · rw [zf_ul4 (by omega)]
              exact h4 i (by omega)
    exact ⟨162, lp 162 0 m9 (by decide) (by decide) (by decide) rfl (fun a _ => by rw [l9]) (fun i _ => by rw [l9]) (fun i hi => absurd hi (Nat.not_lt_zero _))⟩
  · unfold zrowA
    rw [if_neg (by omega), if_neg (by omega), if_neg (by omega), if_pos (by omega)]
    rfl
  · unfold zrowA
    rw [if_neg (by omega), if_neg (by omega), if_pos (by omega)]
    rfl
  · unfold zrowA
    rw [if_neg (by omega), if_pos (by omega)]
    rfl
  · unfold zrowA
    rw [if_pos (by omega)]
    rfl
theorem zX_72 (hJ : JX m) {s p : Int32} {Q : Int32 → zf_Me → Prop} (K : ∀ v m', (zq m m' ∨ zfS m m' ∧ zsz m') → v.toInt = (zN72 (zhC m) (zv 2 3 8 m 5 6) s.toInt p.toInt).1 → zhC m' = (zN72 (zhC m) (zv 2 3 8 m 5 6) s.toInt p.toInt).2 → Q v m') : wp_72 s p m Q := by
  have b := zB_v hJ.1
  have q : zv 2 3 8 m 5 6 = (m.1 3 5).toInt := rfl
  have t32 : (0 ≤ s.toInt ∧ s.toInt < 8) → p.toInt = -1 ∨ (0 ≤ p.toInt ∧ p.toInt < (m.1 3 5).toInt) → wq_72_32 s p m Q := by
    intro g hp
    refine ⟨g, fun m7 q7 => ?_⟩
    have F : zfS m m7 := by
      rw [q7]
      exact ⟨fun a ha => zf_u1 (by omega), fun _ _ => rfl⟩
    have H : zhC m7 = zput (zhC m) s.toInt.toNat (p.toInt, 0, fun _ => 0) := by
      rw [zhC_put (m := m) (m' := m7) (s := s.toInt.toNat) (by omega) (fun j hj hne => ⟨by rw [q7, zf_u1 (by omega)], by rw [q7]; rfl⟩)]
      congr 1
      have c : (m7.1 (47 + 2 * s.toInt.toNat) 1).toInt = p.toInt := by rw [q7, zf_u3]
      unfold znorm
      rw [c, if_neg (by omega)]
    have FF : zfS m m7 ∧ zsz m7 := ⟨F, fun j hj => by
      rw [q7]
      by_cases ej : j = s.toInt.toNat
      · rw [ej, zf_u4 (by decide)]
        exact hJ.2.2 _ (by omega)
      · rw [zf_u1 (by omega)]
        exact hJ.2.2 j hj⟩
    refine ⟨fun n => K _ m7 (Or.inr FF) ?_ ?_, fun e => K _ m7 (Or.inr FF) ?_ ?_⟩
    · unfold zN72
      rw [if_neg (by omega), if_neg (by omega), if_pos (by omega)]
      rfl
    · unfold zN72
      rw [if_neg (by omega), if_neg (by omega), if_pos (by omega)]
      exact H
    · unfold zN72
      rw [if_neg (by omega), if_pos e]
      rfl
    · unfold zN72
      rw [if_neg (by omega), if_pos e, H, e]
  refine zs_114 (fun g => ⟨fun z => (nomatch z), fun _ => ⟨fun e => t32 g (Or.inl e), fun ne => zs_65t (fun k => ⟨fun _ => t32 g (Or.inr k), fun z => (nomatch z)⟩) (fun k => ⟨fun z => (nomatch z), fun _ => zC_noh (by decide) K ?_⟩)⟩⟩) (fun g => ⟨fun _ => zC_noh (by decide) K (if_pos g), fun z => (nomatch z)⟩)
  unfold zN72
  rw [if_neg (by omega), if_neg (by omega), if_neg (by omega)]
  rfl
theorem zY_134 (hJ : JM m) (ho : zso m) {s p : Int32} {Q : Int32 → zf_Me → Prop} (K : ∀ v m', (zgQ m m' ∧ zr m' = zr m ∨ zgH m m' ∧ zsR m' ∧ zso m') → v.toInt = (zN72 (zhR m) (zr m 5 6) s.toInt p.toInt).1 → zhR m' = (zN72 (zhR m) (zr m 5 6) s.toInt p.toInt).2 → Q v m') : wp_134 s p m Q := by
  have b := zB_r hJ.1
  have q : zr m 5 6 = (m.1 63 1).toInt := rfl
  have t42 : (0 ≤ s.toInt ∧ s.toInt < 8) → ∀ u : Int32, (u.toInt = 2 ∧ (0 ≤ p.toInt ∧ p.toInt < (m.1 63 1).toInt)) ∨ (u.toInt = 0 ∧ p.toInt = -1) → wq_134_42 s p u s m Q := by
    intro g u hu
    refine ⟨g, fun m5 q5 => ⟨g, fun m7 q7 => ?_⟩⟩
    have F : zgH m m7 := ⟨fun a ha => by rw [q7, zf_u1 (by omega), q5, zf_u1 (by omega)], fun a ha => by rw [q7, q5]; rfl⟩
    have H : zhR m7 = zput (zhR m) s.toInt.toNat (p.toInt, 0, fun _ => 0) := by
      rw [zhR_put (m := m) (m' := m7) (s := s.toInt.toNat) (by omega) (fun j hj hne => ⟨by rw [q7, zf_u1 (by decide), q5, zf_u4 hne], by rw [q7, zf_u1 (by decide), q5, zf_u1 (by decide)], by rw [q7, zf_u1 (by decide), q5, zf_u1 (by decide)], by rw [q7, zf_u4 hne, q5, zf_u1 (by decide)], fun i _ => by rw [q7, q5]; rfl⟩) hJ.2.1]
      congr 1
      have c0 : (m7.1 70 s.toInt.toNat).toInt = u.toInt := by rw [q7, zf_u1 (by decide), q5, zf_u3]
      have c3 : (m7.1 73 s.toInt.toNat).toInt = p.toInt := by rw [q7, zf_u3]
      rw [c0, c3]
      have cc : ∀ o, zcode u.toInt o p.toInt = p.toInt := fun o => by
        unfold zcode
        rcases hu with hu | hu
        · rw [if_neg (by omega), if_pos hu.1]
        · rw [if_neg (by omega), if_neg (by omega)]
          exact hu.2.symm
      rw [cc]
      unfold znorm
      rw [if_neg (by omega)]
    have FF : zgH m m7 ∧ zsR m7 ∧ zso m7 := by
      refine ⟨F, fun j hj => ?_, fun j hj => ?_⟩
      · have k72 : m7.1 72 j = m.1 72 j := by rw [q7, zf_u1 (by decide), q5, zf_u1 (by decide)]
        have bj := hJ.2.1 j hj
        rw [k72]
        by_cases ej : j = s.toInt.toNat
        · have c0 : m7.1 70 j = u := by rw [ej, q7, zf_u1 (by decide), q5, zf_u3]
          have c3 : m7.1 73 j = p := by rw [ej, q7, zf_u3]
          rw [c0, c3]
          exact ⟨by omega, bj.2.1, fun z => by omega⟩
        · have c0 : m7.1 70 j = m.1 70 j := by rw [q7, zf_u1 (by decide), q5, zf_u4 ej]
          have c3 : m7.1 73 j = m.1 73 j := by rw [q7, zf_u4 ej, q5, zf_u1 (by decide)]
          rw [c0, c3]
          exact bj
      · have c1 : m7.1 71 j = m.1 71 j := by rw [q7, zf_u1 (by decide), q5, zf_u1 (by decide)]
        rw [c1]
        by_cases ej : j = s.toInt.toNat
        · have c0 : m7.1 70 j = u := by rw [ej, q7, zf_u1 (by decide), q5, zf_u3]
          rw [c0]
          exact fun z => by omega
        · have c0 : m7.1 70 j = m.1 70 j := by rw [q7, zf_u1 (by decide), q5, zf_u4 ej]
          rw [c0]
          exact ho j hj
    refine ⟨fun n => K _ m7 (Or.inr FF) ?_ ?_, fun e => K _ m7 (Or.inr FF) ?_ ?_⟩
    · unfold zN72
      rw [if_neg (by omega), if_neg (by omega), if_pos (by omega)]
      rfl
    · unfold zN72
      rw [if_neg (by omega), if_neg (by omega), if_pos (by omega)]
      exact H
    · unfold zN72
      rw [if_neg (by omega), if_pos e]
      rfl
    · unfold zN72
      rw [if_neg (by omega), if_pos e, H, e]
  have t27 : (0 ≤ s.toInt ∧ s.toInt < 8) → p.toInt = -1 ∨ (0 ≤ p.toInt ∧ p.toInt < (m.1 63 1).toInt) → wq_134_27 s p m Q := fun g hp => ⟨fun n => t42 g 2 (Or.inl ⟨rfl, hp.resolve_left n⟩), fun e => t42 g 0 (Or.inr ⟨rfl, e⟩)⟩
  refine zs_127 (fun g => ⟨fun z => (nomatch z), fun _ => ⟨fun e => t27 g (Or.inl e), fun ne => zs_128 (fun k => ⟨fun _ => t27 g (Or.inr k), fun z => (nomatch z)⟩) (fun k => ⟨fun z => (nomatch z), fun _ => zR_noh (by decide) K (fun m' => zhR_q) ?_⟩)⟩⟩) (fun g => ⟨fun _ => zR_noh (by decide) K (fun m' => zhR_q) (if_pos g), fun z => (nomatch z)⟩)
  unfold zN72
  rw [if_neg (by omega), if_neg (by omega), if_neg (by omega)]
  rfl
end
end
section
/-! part 75: elements set and told, on both sides -/
def zN69 (h : zH) (s i : Int) (x : Int64) : Int × zH := if ¬ (0 ≤ s ∧ s < 8) then (-1, h) else if (h s.toNat).1 < 100 then ((if (h s.toNat).1 = -1 then -3 else -2), h) else if ¬ (0 ≤ i ∧ i < (h s.toNat).2.1) then (-5, h) else (1, zput h s.toNat ((h s.toNat).1, (h s.toNat).2.1, fun k => if k = i.toNat then zconv ((h s.toNat).1 - 100) x else (h s.toNat).2.2 k))
theorem znorm_1 {c l : Int} {e : Nat → Int64} : (znorm c l e).1 = c := by
  unfold znorm
  split <;> rfl
theorem znorm_u {c l : Int} {e : Nat → Int64} {i : Nat} {y : Int64} (hc : 100 ≤ c) (hi : (i : Int) < l) : znorm c l (fun k => if k = i then y else e k) = (c, l, fun k => if k = i then y else (znorm c l e).2.2 k) := by
  unfold znorm
  rw [if_pos hc, if_pos hc]
  congr 2
  funext k
  by_cases ek : k = i
  · rw [if_pos ek, ek, if_pos hi]
    exact if_pos rfl
  · rw [if_neg ek]
    show (if (k : Int) < l then (if k = i then y else e k) else 0) = (if (k : Int) < l then e k else 0)
    rw [if_neg ek]
section
variable {m : zf_Me}
theorem zhC_at {s : Nat} (hs : s < 8) : zhC m s = znorm (m.1 (47 + 2 * s) 1).toInt (m.1 (47 + 2 * s) 2).toInt (m.2 (48 + 2 * s)) := if_pos hs
theorem zhR_at {s : Nat} (hs : s < 8) : zhR m s = znorm (zcode (m.1 70 s).toInt (m.1 71 s).toInt (m.1 73 s).toInt) (m.1 72 s).toInt (fun i => m.2 74 (160 * s + i)) := if_pos hs
theorem zs_23x {c r : Nat} {i : Int32} {x : Int64} (hi : 0 ≤ i.toInt ∧ i.toInt < 160) (hc : 100 ≤ (m.1 c 1).toInt) {Q : zf_Me → Prop} (hq : Q (zf_ul m r i.toInt.toNat (zconv ((m.1 c 1).toInt - 100) x))) : wp_23 c r i x m Q := by
  have e100 : (100 : Int32).toInt = 100 := rfl
  have b := fb_rng (m.1 c 1)
  have s := fb_subI (x := m.1 c 1) (y := 100) (by omega) (by omega)
  rw [e100] at s
  unfold zconv at hq
  refine ⟨fun g => ⟨hi, fun m1 q1 => ?_⟩, fun g => ⟨hi, fun m1 q1 => ?_⟩, fun g => ⟨hi, fun m1 q1 => ?_⟩, fun g => ⟨hi, fun m1 q1 => ?_⟩⟩
  · rw [if_neg (by omega), if_neg (by omega), if_neg (by omega)] at hq
    rw [q1]
    exact hq
  · rw [if_pos (by omega)] at hq
    rw [q1]
    exact hq
  · rw [if_neg (by omega), if_pos (by omega)] at hq
    rw [q1]
    exact hq
  · rw [if_neg (by omega), if_neg (by omega), if_pos (by omega)] at hq
    rw [q1]
    exact hq
theorem zX_69 (hJ : JX m) {s i : Int32} {x : Int64} {Q : Int32 → zf_Me → Prop} (K : ∀ v m', (zq m m' ∨ zfS m m' ∧ zsz m') → v.toInt = (zN69 (zhC m) s.toInt i.toInt x).1 → zhC m' = (zN69 (zhC m) s.toInt i.toInt x).2 → Q v m') : wp_69 s i x m Q := by
  refine zs_111 (fun g hc => ⟨fun _ => ⟨g, zs_20 (fun hi => ⟨fun _ => ⟨g, ?_⟩, fun z => (nomatch z)⟩) (fun hi => ⟨fun z => (nomatch z), fun _ => zC_noh (by decide) K ?_⟩)⟩, fun z => absurd rfl z⟩) (fun g => ⟨fun z => absurd z (by decide), fun _ => zC_noh (by decide) K (if_pos g)⟩) (fun g hc hn => ⟨fun z => absurd z (by decide), fun _ => zC_noh (by decide) K ?_⟩) (fun g hc => ⟨fun z => absurd z (by decide), fun _ => zC_noh (by decide) K ?_⟩)
  · have a := zhC_at (m := m) (s := s.toInt.toNat) (by omega)
    have sz := hJ.2.2 s.toInt.toNat (by omega)
    have c1 : (zhC m s.toInt.toNat).1 = (m.1 (47 + 2 * s.toInt.toNat) 1).toInt := by rw [a, znorm_1]
    have c2 : (zhC m s.toInt.toNat).2.1 = (m.1 (47 + 2 * s.toInt.toNat) 2).toInt := by rw [a]; unfold znorm; rw [if_pos hc]
    refine zs_23x (by omega) hc ?_
    obtain ⟨m', q'⟩ : ∃ m', m' = zf_ul m (48 + 2 * s.toInt.toNat) i.toInt.toNat (zconv ((m.1 (47 + 2 * s.toInt.toNat) 1).toInt - 100) x) := ⟨_, rfl⟩
    rw [← q']
    refine K 1 m' (Or.inr ⟨by rw [q']; exact zfS_l (by omega), by rw [q']; exact hJ.2.2⟩) ?_ ?_
    · unfold zN69
      rw [if_neg (by omega), if_neg (by rw [c1]; omega), if_neg (by rw [c2]; omega)]
      rfl
    · unfold zN69
      rw [if_neg (by omega), if_neg (by rw [c1]; omega), if_neg (by rw [c2]; omega)]
      rw [zhC_put (m := m) (m' := m') (s := s.toInt.toNat) (by omega) (fun j hj hne => ⟨by rw [q']; rfl, by rw [q']; exact if_neg (by omega)⟩)]
      show zput (zhC m) _ _ = zput (zhC m) _ _
      congr 1
      rw [c1, c2, a, show m'.1 = m.1 by rw [q']; rfl]
      refine Eq.trans ?_ (znorm_u hc (by omega))
      congr 1
      funext k
      rw [q']
      by_cases ek : k = i.toInt.toNat
      · rw [if_pos ek, ek, zf_ul3]
      · rw [if_neg ek, zf_ul4 ek]
  · have a := zhC_at (m := m) (s := s.toInt.toNat) (by omega)
    have c1 : (zhC m s.toInt.toNat).1 = (m.1 (47 + 2 * s.toInt.toNat) 1).toInt := by rw [a, znorm_1]
    have c2 : (zhC m s.toInt.toNat).2.1 = (m.1 (47 + 2 * s.toInt.toNat) 2).toInt := by rw [a]; unfold znorm; rw [if_pos hc]
    unfold zN69
    rw [if_neg (by omega), if_neg (by rw [c1]; omega), if_pos (by rw [c2]; exact hi)]
    rfl
  · have a := zhC_at (m := m) (s := s.toInt.toNat) (by omega)
    have c1 : (zhC m s.toInt.toNat).1 = (m.1 (47 + 2 * s.toInt.toNat) 1).toInt := by rw [a, znorm_1]
    unfold zN69
    rw [if_neg (by omega), if_pos (by rw [c1]; omega), if_neg (by rw [c1]; exact hn)]
    rfl
  · have a := zhC_at (m := m) (s := s.toInt.toNat) (by omega)
    have c1 : (zhC m s.toInt.toNat).1 = (m.1 (47 + 2 * s.toInt.toNat) 1).toInt := by rw [a, znorm_1]
    unfold zN69
    rw [if_neg (by omega), if_pos (by rw [c1]; omega), if_pos (by rw [c1]; exact hc)]
    rfl
theorem zY_131 (hJ : JM m) (ho : zso m) {s i : Int32} {x : Int64} {Q : Int32 → zf_Me → Prop} (K : ∀ v m', (zgQ m m' ∧ zr m' = zr m ∨ zgH m m' ∧ zsR m' ∧ zso m') → v.toInt = (zN69 (zhR m) s.toInt i.toInt x).1 → zhR m' = (zN69 (zhR m) s.toInt i.toInt x).2 → Q v m') : wp_131 s i x m Q := by
  have no := fun {w : Int32} (hw : -8 < w.toInt ∧ w.toInt ≤ 0) (e : zN69 (zhR m) s.toInt i.toInt x = (w.toInt, zhR m)) => zR_noh (m := m) (Q := Q) hw K (fun m' => zhR_q) e
  refine zs_127 (fun g => ⟨fun _ => ?_, fun z => (nomatch z)⟩) (fun g => ⟨fun z => (nomatch z), fun _ => no (by decide) (if_pos g)⟩)
  have a := zhR_at (m := m) (s := s.toInt.toNat) (by omega)
  have b := hJ.2.1 s.toInt.toNat (by omega)
  have c1 : (zhR m s.toInt.toNat).1 = zcode (m.1 70 s.toInt.toNat).toInt (m.1 71 s.toInt.toNat).toInt (m.1 73 s.toInt.toNat).toInt := by rw [a, znorm_1]
  refine ⟨g, fun k2 => ⟨g, fun k0 => ?_, fun k0 => no (by decide) ?_⟩, fun k2 => no (by decide) ?_⟩
  · have k1 : (m.1 70 s.toInt.toNat).toInt = 1 := by omega
    have o := ho s.toInt.toNat (by omega) k1
    have cz : zcode (m.1 70 s.toInt.toNat).toInt (m.1 71 s.toInt.toNat).toInt (m.1 73 s.toInt.toNat).toInt = 100 + (m.1 71 s.toInt.toNat).toInt := if_pos k1
    rw [cz] at c1 a
    have c2 : (zhR m s.toInt.toNat).2.1 = (m.1 72 s.toInt.toNat).toInt := by rw [a]; unfold znorm; rw [if_pos (by omega)]
    have bad : ¬ (0 ≤ i.toInt ∧ i.toInt < (m.1 72 s.toInt.toNat).toInt) → zN69 (zhR m) s.toInt i.toInt x = ((-5 : Int32).toInt, zhR m) := fun n => by
      unfold zN69
      rw [if_neg (by omega), if_neg (by rw [c1]; omega), if_pos (by rw [c2]; exact n)]
      rfl
    refine ⟨fun i0 => no (by decide) (bad (by omega)), fun i0 => ⟨g, fun il => ?_, fun il => no (by decide) (bad (by omega))⟩⟩
    have t := zix (s := s) (i := i) g (by omega)
    have ei : (160 * s + i).toInt.toNat = 160 * s.toInt.toNat + i.toInt.toNat := by omega
    have L : ∀ m', m' = zf_ul m 74 (160 * s + i).toInt.toNat (zconv (m.1 71 s.toInt.toNat).toInt x) → Q 1 m' := fun m' q' => by
      have F : zgH m m' := by
        rw [q']
        exact ⟨fun a _ => rfl, fun a ha => if_neg (by omega)⟩
      refine K 1 m' (Or.inr ⟨F, by rw [q']; exact hJ.2.1, by rw [q']; exact ho⟩) ?_ ?_
      · unfold zN69
        rw [if_neg (by omega), if_neg (by rw [c1]; omega), if_neg (by rw [c2]; omega)]
        rfl
      · unfold zN69
        rw [if_neg (by omega), if_neg (by rw [c1]; omega), if_neg (by rw [c2]; omega)]
        rw [zhR_put (m := m) (m' := m') (s := s.toInt.toNat) (by omega) (fun j hj hne => ⟨by rw [q']; rfl, by rw [q']; rfl, by rw [q']; rfl, by rw [q']; rfl, fun k hk => by rw [q', ei, zf_ul4 (by omega)]⟩) hJ.2.1]
        show zput (zhR m) _ _ = zput (zhR m) _ _
        congr 1
        rw [c1, c2, a, show m'.1 = m.1 by rw [q']; rfl, cz]
        refine Eq.trans ?_ (znorm_u (by omega) (by omega))
        congr 1
        funext k
        rw [q', ei]
        by_cases ek : k = i.toInt.toNat
        · rw [if_pos ek, ek, zf_ul3, show (100 + (m.1 71 s.toInt.toNat).toInt - 100) = (m.1 71 s.toInt.toNat).toInt by omega]
        · rw [if_neg ek, zf_ul4 (by omega)]
    unfold zconv at L
    refine ⟨g, fun n0 => ⟨g, fun n1 => ⟨g, fun n2 => ⟨by omega, ?_⟩, fun n2 => ⟨by omega, ?_⟩⟩, fun n1 => ⟨by omega, ?_⟩⟩, fun n0 => ⟨by omega, ?_⟩⟩
    · rw [if_neg n0, if_neg n1, if_neg n2] at L
      exact L
    · rw [if_neg n0, if_neg n1, if_pos n2] at L
      exact L
    · rw [if_neg n0, if_pos n1] at L
      exact L
    · rw [if_pos n0] at L
      exact L
  · have cz : zcode (m.1 70 s.toInt.toNat).toInt (m.1 71 s.toInt.toNat).toInt (m.1 73 s.toInt.toNat).toInt = -1 := by
      unfold zcode
      rw [if_neg (by omega), if_neg (by omega)]
    rw [cz] at c1
    unfold zN69
    rw [if_neg (by omega), if_pos (by rw [c1]; decide), if_pos c1]
    rfl
  · have p := b.2.2 k2
    have cz : zcode (m.1 70 s.toInt.toNat).toInt (m.1 71 s.toInt.toNat).toInt (m.1 73 s.toInt.toNat).toInt = (m.1 73 s.toInt.toNat).toInt := by
      unfold zcode
      rw [if_neg (by omega), if_pos k2]
    rw [cz] at c1
    unfold zN69
    rw [if_neg (by omega), if_pos (by rw [c1]; omega), if_neg (by rw [c1]; omega)]
    rfl
end
end
section
/-! part 76: walks told on a shelf, done for true, on both sides -/
def zel (x : zHe) (i : Nat) : Int := (Int64.toInt32 (x.2.2 i)).toInt
def ztry (x : zHe) (f : zS) : Nat → Nat → Int × zS
  | 0, _ => (-1, f)
  | n + 1, i => if zmay f (zel x i) then ztry x (zact f (zel x i)) n (i + 1) else ((i : Int), f)
def zN113 (h : zH) (s n : Int) : Int := if ¬ (0 ≤ s ∧ s < 8) then 1 else if (h s.toNat).1 < 100 then (if (h s.toNat).1 = -1 then 3 else 2) else if n < 0 then 4 else if (h s.toNat).2.1 < n then 5 else if 60 < n then 6 else 0
def zN96 (h : zH) (f : zS) (s n : Int) : Int × zS := if ¬ zN113 h s n = 0 then (-(zN113 h s n), f) else if (ztry (h s.toNat) f n.toNat 0).1 = -1 then ((ztry (h s.toNat) f n.toNat 0).2 5 10, (ztry (h s.toNat) f n.toNat 0).2) else (-6, f)
theorem zN113_0 {h : zH} {s n : Int} (e : zN113 h s n = 0) : (0 ≤ s ∧ s < 8) ∧ 100 ≤ (h s.toNat).1 ∧ 0 ≤ n ∧ n ≤ (h s.toNat).2.1 ∧ n ≤ 60 := by
  unfold zN113 at e
  split at e
  · omega
  · split at e
    · split at e <;> omega
    · split at e
      · omega
      · split at e
        · omega
        · split at e <;> omega
theorem zN113_b {h : zH} {s n : Int} : 0 ≤ zN113 h s n ∧ zN113 h s n ≤ 6 := by
  unfold zN113
  split
  · omega
  · split
    · split <;> omega
    · split
      · omega
      · split
        · omega
        · split <;> omega
theorem zel_u {c l : Int} {e : Nat → Int64} {i : Nat} (hc : 100 ≤ c) (hi : (i : Int) < l) : zel (znorm c l e) i = (Int64.toInt32 (e i)).toInt := by
  unfold zel znorm
  rw [if_pos hc]
  show (Int64.toInt32 (if (i : Int) < l then e i else 0)).toInt = _
  rw [if_pos hi]
section
variable {m : zf_Me}
theorem zhC_c {s : Nat} (hs : s < 8) : (zhC m s).1 = (m.1 (47 + 2 * s) 1).toInt := by rw [zhC_at hs, znorm_1]
theorem zhC_l {s : Nat} (hs : s < 8) (hc : 100 ≤ (m.1 (47 + 2 * s) 1).toInt) : (zhC m s).2.1 = (m.1 (47 + 2 * s) 2).toInt := by
  rw [zhC_at hs]
  unfold znorm
  rw [if_pos hc]
theorem zs_113x {s n : Int32} {Q : Int32 → zf_Me → Prop} (hq : ∀ x : Int32, x.toInt = zN113 (zhC m) s.toInt n.toInt → Q x m) : wp_113 s n m Q := by
  have c1 := fun (g : 0 ≤ s.toInt ∧ s.toInt < 8) => zhC_c (m := m) (s := s.toInt.toNat) (by omega)
  have c2 := fun (g : 0 ≤ s.toInt ∧ s.toInt < 8) (hc : 100 ≤ (m.1 (47 + 2 * s.toInt.toNat) 1).toInt) => zhC_l (m := m) (s := s.toInt.toNat) (by omega) hc
  refine zs_111 (fun g hc => ⟨fun _ => ⟨fun g1 => ⟨g, fun g2 => ⟨fun g3 => hq 0 ?_, fun g3 => hq 6 ?_⟩, fun g2 => hq 5 ?_⟩, fun g1 => hq 4 ?_⟩, fun z => absurd rfl z⟩) (fun g => ⟨fun z => absurd z (by decide), fun _ => hq 1 (if_pos g).symm⟩) (fun g hc hn => ⟨fun z => absurd z (by decide), fun _ => hq 2 ?_⟩) (fun g hc => ⟨fun z => absurd z (by decide), fun _ => hq 3 ?_⟩)
  · unfold zN113
    rw [if_neg (by omega), if_neg (by rw [c1 g]; omega), if_neg (by omega), if_neg (by rw [c2 g hc]; omega), if_neg (by omega)]
    rfl
  · unfold zN113
    rw [if_neg (by omega), if_neg (by rw [c1 g]; omega), if_neg (by omega), if_neg (by rw [c2 g hc]; omega), if_pos (by omega)]
    rfl
  · unfold zN113
    rw [if_neg (by omega), if_neg (by rw [c1 g]; omega), if_neg (by omega), if_pos (by rw [c2 g hc]; omega)]
    rfl
  · unfold zN113
    rw [if_neg (by omega), if_neg (by rw [c1 g]; omega), if_pos (by omega)]
    rfl
  · unfold zN113
    rw [if_neg (by omega), if_pos (by rw [c1 g]; omega), if_neg (by rw [c1 g]; exact hn)]
    rfl
  · unfold zN113
    rw [if_neg (by omega), if_pos (by rw [c1 g]; omega), if_pos (by rw [c1 g]; exact hc)]
    rfl
theorem zs_121x (hB : zB (zv 2 3 8 m)) {s n : Int32} (h0 : zN113 (zhC m) s.toInt n.toInt = 0) {Q : Int32 → zf_Me → Prop} (hq : ∀ (x : Int32) (m' : zf_Me), x.toInt = (ztry (zhC m s.toInt.toNat) (zv 2 3 8 m) n.toInt.toNat 0).1 → zv 16 3 17 m' = (ztry (zhC m s.toInt.toNat) (zv 2 3 8 m) n.toInt.toNat 0).2 → zB (zv 16 3 17 m') → zfr (fun a => a = 16 ∨ a = 17) m m' → Q x m') : wp_121 (47 + 2 * s.toInt.toNat) (48 + 2 * s.toInt.toNat) n m Q := by
  have e1 : (1 : Int32).toInt = 1 := rfl
  have h := zN113_0 h0
  have c1 := zhC_c (m := m) (s := s.toInt.toNat) (by omega)
  have hc : 100 ≤ (m.1 (47 + 2 * s.toInt.toNat) 1).toInt := by rw [← c1]; exact h.2.1
  have c2 := zhC_l (m := m) (s := s.toInt.toNat) (by omega) hc
  have el : ∀ i : Nat, (i : Int) < n.toInt → zel (zhC m s.toInt.toNat) i = (Int64.toInt32 (m.2 (48 + 2 * s.toInt.toNat) i)).toInt := fun i hi => by
    rw [zhC_at (by omega)]
    exact zel_u hc (by omega)
  refine zs_43s zd16 (by decide) (fun m2 z2 f2 => ?_)
  have lp : ∀ (k : Nat) (v : Int32) (mj : zf_Me), 0 ≤ v.toInt → v.toInt ≤ n.toInt → n.toInt - v.toInt < k → zB (zv 16 3 17 mj) → zfr (fun a => a = 16 ∨ a = 17) m mj → ztry (zhC m s.toInt.toNat) (zv 16 3 17 mj) (n.toInt - v.toInt).toNat v.toInt.toNat = ztry (zhC m s.toInt.toNat) (zv 2 3 8 m) n.toInt.toNat 0 → wq_121_13 (47 + 2 * s.toInt.toNat) (48 + 2 * s.toInt.toNat) n Q k v mj := by
    intro k
    induction k with
    | zero => intro v mj k0 k1 k2; omega
    | succ k ih =>
      intro v mj k0 k1 k2 hb hf ht
      refine ⟨fun g => hq (-1) mj ?_ ?_ hb hf, fun g => ⟨⟨by omega, by omega⟩, zs_52 hb (fun b hb1 => ?_)⟩⟩
      · rw [show (n.toInt - v.toInt).toNat = 0 by omega] at ht
        rw [← ht]
        rfl
      · rw [show (n.toInt - v.toInt).toNat = 0 by omega] at ht
        rw [← ht]
        rfl
      · have sv := fb_addI (x := v) (y := 1) (by omega) (by omega)
        have n7 : 0 ≤ (v + 1).toInt ∧ (v + 1).toInt ≤ n.toInt ∧ n.toInt - (v + 1).toInt < k ∧ (n.toInt - v.toInt).toNat = (n.toInt - (v + 1).toInt).toNat + 1 ∧ (v + 1).toInt.toNat = v.toInt.toNat + 1 ∧ ((v.toInt.toNat : Nat) : Int) = v.toInt := by omega
        have ev := el v.toInt.toNat (by omega)
        rw [n7.2.2.2.1] at ht
        have st : ztry (zhC m s.toInt.toNat) (zv 16 3 17 mj) ((n.toInt - (v + 1).toInt).toNat + 1) v.toInt.toNat = if zmay (zv 16 3 17 mj) (zel (zhC m s.toInt.toNat) v.toInt.toNat) then ztry (zhC m s.toInt.toNat) (zact (zv 16 3 17 mj) (zel (zhC m s.toInt.toNat) v.toInt.toNat)) (n.toInt - (v + 1).toInt).toNat (v.toInt.toNat + 1) else (((v.toInt.toNat : Nat) : Int), zv 16 3 17 mj) := rfl
        rw [st, ev] at ht
        have el2 : mj.2 = m.2 := hf.2
        rw [el2] at hb1 ⊢
        refine ⟨fun e => zs_56 zd16 hb (hb1.mp e) (fun m' z' f' => ih _ m' n7.1 n7.2.1 n7.2.2.1 (by rw [z']; exact zB_act hb (hb1.mp e)) (zfr_trans hf (zfr_mono f' (fun a ha => by omega))) ?_), fun e => hq v mj ?_ ?_ hb hf⟩
        · rw [if_pos (hb1.mp e)] at ht
          rw [z', n7.2.2.2.2.1]
          exact ht
        · rw [if_neg (zno hb1 e)] at ht
          rw [← ht]
          exact n7.2.2.2.2.2.symm
        · rw [if_neg (zno hb1 e)] at ht
          rw [← ht]
  exact ⟨162, lp 162 0 m2 (by decide) (by show (0 : Int) ≤ _; omega) (by show n.toInt - 0 < _; omega) (by rw [z2]; exact hB) (zfr_mono f2 (fun a ha => by omega)) (by rw [z2, show (n.toInt - (0 : Int32).toInt) = n.toInt by show n.toInt - 0 = _; omega]; rfl)⟩
theorem zX_96 (hJ : JX m) {s n : Int32} {Q : Int32 → zf_Me → Prop} (K : ∀ v m', zw m m' → v.toInt = (zN96 (zhC m) (zv 2 3 8 m) s.toInt n.toInt).1 → zv 2 3 8 m' = (zN96 (zhC m) (zv 2 3 8 m) s.toInt n.toInt).2 → Q v m') : wp_96 s n m Q := by
  refine zs_113x (fun x hx => ?_)
  have xb := zN113_b (h := zhC m) (s := s.toInt) (n := n.toInt)
  by_cases e : x.toInt = 0
  · have h0 : zN113 (zhC m) s.toInt n.toInt = 0 := by rw [← hx]; exact e
    have h := zN113_0 h0
    refine ⟨fun z => absurd e z, fun _ => ⟨h.1, zs_121x hJ.1 h0 (fun y m' hy hz hb f => ⟨fun y1 => ⟨fun _ => zs_43s zd2 (by decide) (fun m4 z4 f4 => K _ m4 (zfr_trans (zfr_mono f (fun a ha => by omega)) (zfr_mono f4 (fun a ha => by omega))) ?_ ?_), fun z => absurd e z⟩, fun y1 => ⟨fun z => absurd z (by decide), fun _ => ?_⟩⟩)⟩⟩
    · unfold zN96
      rw [if_neg (fun z => z h0), if_pos (by rw [← hy]; exact y1), ← hz, ← z4]
      rfl
    · unfold zN96
      rw [if_neg (fun z => z h0), if_pos (by rw [← hy]; exact y1), ← hz, ← z4]
    · refine zs_109 (by decide) (fun m2 f2 => K _ m2 (zfr_trans (zfr_mono f (fun a ha => by omega)) (zfr_mono f2 (fun a ha => by omega))) ?_ ?_)
      · unfold zN96
        rw [if_neg (fun z => z h0), if_neg (by rw [← hy]; exact y1)]
        rfl
      · unfold zN96
        rw [if_neg (fun z => z h0), if_neg (by rw [← hy]; exact y1)]
        exact zv_of (zfr_trans (zfr_mono f (fun a ha => (by omega : (a = 16 ∨ a = 17 ∨ a = 46)))) (zfr_mono f2 (fun a ha => (by omega : (a = 16 ∨ a = 17 ∨ a = 46))))) (by omega) (fun a _ _ => by omega) (by omega)
  · refine ⟨fun _ => ⟨fun z => absurd z e, fun _ => zC_no (by omega) K ?_⟩, fun z => absurd z e⟩
    unfold zN96
    rw [if_pos (by rw [← hx]; exact e), hx]
end
end
