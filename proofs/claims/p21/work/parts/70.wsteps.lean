/-! part 70: what the calls make of a walk, and what they answer, as functions: the class -/
abbrev zw (m m' : zf_Me) : Prop := zfr (fun a => 2 ≤ a ∧ a ≤ 8 ∨ 16 ≤ a ∧ a ≤ 43 ∨ a = 46) m m'
def zN75 (f : zS) (s t : Int) : Int × zS := if s < -3 ∨ 3 < s then (-6, f) else if f 5 5 < 24 then (f 5 5, zaddF f s (if t = 0 then 0 else 1)) else (-7, f)
def zN76 (f : zS) (k a : Int) : Int × zS := if ¬ (0 ≤ k ∧ k < 7) then (-1, f) else if a < 0 ∨ 9 < a then (-6, f) else if f 5 6 < 6 then (f 5 6, zaddP f k a) else (-7, f)
def zN79 (f : zS) (w v : Int) : Int × zS := if ¬ (0 ≤ w ∧ w < 5) then (-6, f) else if zlo w.toNat ≤ v ∧ v ≤ zhi w.toNat then (f 5 w.toNat, zask f w.toNat v) else (-6, f)
def zN80 (f : zS) (p v : Int) : Int × zS := if ¬ (0 ≤ p ∧ p < f 5 6) then (-1, f) else if v < 0 ∨ 99 < v then (-6, f) else (f 4 p.toNat, zU f 4 p.toNat v)
def zN81 (f : zS) (p : Int) : Int × zS := if p = -1 ∨ (0 ≤ p ∧ p < f 5 6) then (f 5 7, zU f 5 7 p) else (-11, f)
def zN100 (f : zS) (a : Int) : Int × zS := if zmay f a then (zact f a 5 10, zact f a) else (-6, f)
def zN101 (f : zS) (n : Int) : Int × zS := if 1 ≤ n ∧ n ≤ 60 then (zsumm f n.toNat 5 10 - f 5 10, zsumm f n.toNat) else (-6, f)
def zN103 (f : zS) (v : Int) : Int × zS := (f 5 12, zU f 5 12 v)
section
variable {m : zf_Me}
theorem zC_no {r : Int × zS} {w : Int32} {Q : Int32 → zf_Me → Prop} (hw : 0 ≤ w.toInt ∧ w.toInt < 8) (K : ∀ v m', zw m m' → v.toInt = r.1 → zv 2 3 8 m' = r.2 → Q v m') (e : r = (-w.toInt, zv 2 3 8 m)) : wp_109 w m Q :=
  zs_109 hw (fun m' f => K _ m' (zfr_mono f (fun a ha => by omega)) (by rw [e]; exact fb_negI (by omega)) (by rw [e]; exact zq_now (zfr_mono f (fun a ha => by omega))))
theorem zC_no10 {r : Int × zS} {w : Int32} {Q : Int32 → zf_Me → Prop} (hw : 0 ≤ w.toInt ∧ w.toInt < 8) (K : ∀ v m', zw m m' → v.toInt = r.1 → zv 2 3 8 m' = r.2 → Q v m') (e : r = (-w.toInt - 10, zv 2 3 8 m)) : wp_110 w m Q := by
  have e10 : (10 : Int32).toInt = 10 := rfl
  have n := fb_negI (x := w) (by omega)
  have s := fb_subI (x := -10) (y := w) (by show -2147483648 ≤ (-10 : Int) - _; omega) (by show (-10 : Int) - _ < _; omega)
  have t := fb_subI (x := -w) (y := 10) (by omega) (by omega)
  refine ⟨hw, hw, fun m1 q1 => K _ m1 (by rw [q1]; exact zfr_u zfr_refl (by omega)) ?_ ?_⟩
  · rw [e]
    show _ = -w.toInt - 10
    first
      | (rw [s]; show (-10 : Int) - _ = _; omega)
      | (rw [t]; omega)
  · rw [e, q1]
    exact zq_now (zfr_u zfr_refl (by omega))
theorem zX_75 (hJ : JX m) {s t : Int32} {Q : Int32 → zf_Me → Prop} (K : ∀ v m', zw m m' → v.toInt = (zN75 (zv 2 3 8 m) s.toInt t.toInt).1 → zv 2 3 8 m' = (zN75 (zv 2 3 8 m) s.toInt t.toInt).2 → Q v m') : wp_75 s t m Q := by
  have b := zB_v hJ.1
  have p : zv 2 3 8 m 5 5 = (m.1 3 4).toInt := rfl
  refine ⟨fun g => zC_no (by decide) K ?_, fun g => ⟨fun g2 => ⟨fun g3 => zs_66 zd2 (by omega) (fun m' z f => K _ m' (zfr_mono f (fun a ha => by omega)) ?_ ?_), fun g3 => zC_no (by decide) K ?_⟩, fun g2 => zC_no (by decide) K ?_⟩⟩
  · exact if_pos (Or.inl g)
  · unfold zN75
    rw [if_neg (by omega), if_pos (by rw [p]; exact g3)]
    rfl
  · unfold zN75
    rw [if_neg (by omega), if_pos (by rw [p]; exact g3)]
    exact z
  · unfold zN75
    rw [if_neg (by omega), if_neg (by rw [p]; omega)]
    rfl
  · exact if_pos (Or.inr (by omega))
theorem zX_76 (hJ : JX m) {k a : Int32} {Q : Int32 → zf_Me → Prop} (K : ∀ v m', zw m m' → v.toInt = (zN76 (zv 2 3 8 m) k.toInt a.toInt).1 → zv 2 3 8 m' = (zN76 (zv 2 3 8 m) k.toInt a.toInt).2 → Q v m') : wp_76 k a m Q := by
  have b := zB_v hJ.1
  have p : zv 2 3 8 m 5 6 = (m.1 3 5).toInt := rfl
  refine zs_115 (fun g => ⟨fun _ => ⟨fun g0 => zC_no (by decide) K ?_, fun g1 => ⟨fun g2 => ⟨fun g3 => zs_44 zd2 (by omega) (fun m' z f => K _ m' (zfr_mono f (fun a ha => by omega)) ?_ ?_), fun g3 => zC_no (by decide) K ?_⟩, fun g2 => zC_no (by decide) K ?_⟩⟩, fun z => (nomatch z)⟩) (fun g => ⟨fun z => (nomatch z), fun _ => zC_no (by decide) K ?_⟩)
  · unfold zN76
    rw [if_neg (by omega), if_pos (by omega)]
    rfl
  · unfold zN76
    rw [if_neg (by omega), if_neg (by omega), if_pos (by rw [p]; exact g3)]
    rfl
  · unfold zN76
    rw [if_neg (by omega), if_neg (by omega), if_pos (by rw [p]; exact g3)]
    exact z
  · unfold zN76
    rw [if_neg (by omega), if_neg (by omega), if_neg (by rw [p]; omega)]
    rfl
  · unfold zN76
    rw [if_neg (by omega), if_pos (by omega)]
    rfl
  · exact if_pos g
theorem zX_79 (hJ : JX m) {w v : Int32} {Q : Int32 → zf_Me → Prop} (K : ∀ x m', zw m m' → x.toInt = (zN79 (zv 2 3 8 m) w.toInt v.toInt).1 → zv 2 3 8 m' = (zN79 (zv 2 3 8 m) w.toInt v.toInt).2 → Q x m') : wp_79 w v m Q := by
  have lo := fun h => zk_lo w.toInt.toNat h
  refine ⟨fun g => zC_no (by decide) K (if_pos (by omega)), fun g0 => ⟨fun g => zC_no (by decide) K (if_pos (by omega)), fun g1 => ?_⟩⟩
  have l := lo (by omega)
  refine ⟨⟨g0, g1⟩, fun g => zC_no (by decide) K ?_, fun g2 => ⟨⟨g0, g1⟩, fun g3 => zs_45 (w := 2) (y := 3) (r := 8) ⟨g0, g1⟩ (fun x hx => zs_46 zd2 ⟨g0, g1⟩ (fun m' z f => K _ m' (zfr_mono f (fun a ha => by omega)) ?_ ?_)), fun g => zC_no (by decide) K ?_⟩⟩
  · unfold zN79
    rw [if_neg (by omega), if_neg (by rw [← l.1]; omega)]
    rfl
  · unfold zN79
    rw [if_neg (by omega), if_pos (by rw [← l.1, ← l.2]; omega)]
    exact hx
  · unfold zN79
    rw [if_neg (by omega), if_pos (by rw [← l.1, ← l.2]; omega)]
    exact z
  · unfold zN79
    rw [if_neg (by omega), if_neg (by rw [← l.2]; omega)]
    rfl
theorem zX_80 (hJ : JX m) {p v : Int32} {Q : Int32 → zf_Me → Prop} (K : ∀ x m', zw m m' → x.toInt = (zN80 (zv 2 3 8 m) p.toInt v.toInt).1 → zv 2 3 8 m' = (zN80 (zv 2 3 8 m) p.toInt v.toInt).2 → Q x m') : wp_80 p v m Q := by
  have b := zB_v hJ.1
  have q : zv 2 3 8 m 5 6 = (m.1 3 5).toInt := rfl
  refine zs_65t (fun g => ⟨fun _ => ⟨fun g0 => zC_no (by decide) K ?_, fun g1 => ⟨fun g2 => ⟨by omega, by omega, fun m5 q5 => K _ m5 ?_ ?_ ?_⟩, fun g2 => zC_no (by decide) K ?_⟩⟩, fun z => (nomatch z)⟩) (fun g => ⟨fun z => (nomatch z), fun _ => zC_no (by decide) K (if_pos (by rw [q]; exact g))⟩)
  · unfold zN80
    rw [if_neg (by rw [q]; omega), if_pos (by omega)]
    rfl
  · rw [q5]
    exact zfr_u zfr_refl (by omega)
  · unfold zN80
    rw [if_neg (by rw [q]; omega), if_neg (by omega)]
    show _ = zN 6 (m.1 8) p.toInt.toNat
    rw [zN_lt (by omega)]
  · unfold zN80
    rw [if_neg (by rw [q]; omega), if_neg (by omega), q5, zv_a4 zd2 (by omega)]
  · unfold zN80
    rw [if_neg (by rw [q]; omega), if_pos (by omega)]
    rfl
theorem zX_81 (hJ : JX m) {p : Int32} {Q : Int32 → zf_Me → Prop} (K : ∀ x m', zw m m' → x.toInt = (zN81 (zv 2 3 8 m) p.toInt).1 → zv 2 3 8 m' = (zN81 (zv 2 3 8 m) p.toInt).2 → Q x m') : wp_81 p m Q := by
  have q : zv 2 3 8 m 5 6 = (m.1 3 5).toInt := rfl
  have fin : p.toInt = -1 ∨ (0 ≤ p.toInt ∧ p.toInt < (m.1 3 5).toInt) → wq_81_25 p m Q := fun g m1 q1 => K _ m1 (by rw [q1]; exact zfr_u zfr_refl (by omega)) (by unfold zN81; rw [if_pos (by rw [q]; exact g)]; rfl) (by unfold zN81; rw [if_pos (by rw [q]; exact g), q1, zv_w2 zd2])
  exact ⟨fun g => fin (Or.inl g), fun n => zs_65t (fun g => ⟨fun _ => fin (Or.inr g), fun z => (nomatch z)⟩) (fun g => ⟨fun z => (nomatch z), fun _ => zC_no10 (by decide) K (if_neg (by rw [q]; exact fun z => z.elim n g))⟩)⟩
theorem zX_100 (hJ : JX m) {a : Int32} {Q : Int32 → zf_Me → Prop} (K : ∀ x m', zw m m' → x.toInt = (zN100 (zv 2 3 8 m) a.toInt).1 → zv 2 3 8 m' = (zN100 (zv 2 3 8 m) a.toInt).2 → Q x m') : wp_100 a m Q := by
  refine zs_52 hJ.1 (fun b hb => ⟨fun e => zs_56 zd2 hJ.1 (hb.mp e) (fun m' z f => K _ m' (zfr_mono f (fun a ha => by omega)) ?_ ?_), fun e => zC_no (by decide) K (if_neg (zno hb e))⟩)
  · unfold zN100
    rw [if_pos (hb.mp e), ← z]
    rfl
  · unfold zN100
    rw [if_pos (hb.mp e)]
    exact z
theorem zX_101 (hJ : JX m) {n : Int32} {Q : Int32 → zf_Me → Prop} (K : ∀ x m', zw m m' → x.toInt = (zN101 (zv 2 3 8 m) n.toInt).1 → zv 2 3 8 m' = (zN101 (zv 2 3 8 m) n.toInt).2 → Q x m') : wp_101 n m Q := by
  refine ⟨fun g => zC_no (by decide) K (if_neg (by omega)), fun g => ⟨fun g2 => zs_101 hJ.1 ⟨g, g2⟩ (fun m' z f => K _ m' (zfr_mono f (fun a ha => by omega)) ?_ ?_), fun g2 => zC_no (by decide) K (if_neg (by omega))⟩⟩
  · unfold zN101
    rw [if_pos ⟨g, g2⟩, ← z]
    have h1 := hJ.1.1
    have h2 : zB (zv 2 3 8 m') := by rw [z]; exact zsumm_B _ hJ.1
    have h3 := h2.1
    have p1 : zv 2 3 8 m' 5 10 = (m'.1 2 10).toInt := rfl
    have p2 : zv 2 3 8 m 5 10 = (m.1 2 10).toInt := rfl
    show _ = zv 2 3 8 m' 5 10 - zv 2 3 8 m 5 10
    rw [p1, p2, fb_subI (by omega) (by omega)]
  · unfold zN101
    rw [if_pos ⟨g, g2⟩]
    exact z
theorem zX_103 {v : Int32} {Q : Int32 → zf_Me → Prop} (K : ∀ x m', zw m m' → x.toInt = (zN103 (zv 2 3 8 m) v.toInt).1 → zv 2 3 8 m' = (zN103 (zv 2 3 8 m) v.toInt).2 → Q x m') : wp_103 v m Q := fun m1 q1 => K _ m1 (by rw [q1]; exact zfr_u zfr_refl (by omega)) rfl (by rw [q1, zv_w12 zd2]; rfl)
end
