/-! part 71: what the calls make of a walk, and what they answer: the reference; another day on both sides -/
def zdayT (f : zS) : Nat → zS
  | 0 => f
  | n + 1 => zU (zdayT f n) 4 n 0
def zday0 (f : zS) : zS := zU (zU (zU (zU f 5 10 0) 5 11 0) 5 9 0) 5 8 (f 5 0)
def zN102 (f : zS) : Int × zS := (f 5 10, zdayT (zday0 f) 6)
def zTz (f : zS) : Prop := ∀ k : Nat, k < 6 → f 5 6 ≤ k → f 4 k = 0
theorem zdayT_o (f : zS) : ∀ (n k : Nat), n ≤ k → zdayT f n 4 k = f 4 k
  | 0, _, _ => rfl
  | n + 1, k, h => by
    show zU (zdayT f n) 4 n 0 4 k = _
    rw [zU_o (by omega)]
    exact zdayT_o f n k (by omega)
theorem zdayT_e (f : zS) (p : Nat) (h : ∀ k, k < 6 → p ≤ k → f 4 k = 0) : ∀ n, p ≤ n → n ≤ 6 → zdayT f n = zdayT f p := by
  intro n
  induction n with
  | zero => intro h1 _; rw [show p = 0 by omega]
  | succ n ih =>
    intro h1 h2
    by_cases e : p = n + 1
    · rw [e]
    · rw [← ih (by omega) (by omega)]
      show zU (zdayT f n) 4 n 0 = zdayT f n
      have z : zdayT f n 4 n = 0 := by rw [zdayT_o f n n (Nat.le_refl _)]; exact h n (by omega) (by omega)
      have i := zU_id (f := zdayT f n) (c := 4) (k := n)
      rw [z] at i
      exact i
section
variable {m : zf_Me}
theorem zR_no {r : Int × zS} {w : Int32} {Q : Int32 → zf_Me → Prop} (hw : -8 < w.toInt ∧ w.toInt ≤ 0) (K : ∀ v m', zgQ m m' → v.toInt = r.1 → zr m' = r.2 → Q v m') (e : r = (w.toInt, zr m)) : wp_125 w m Q :=
  zs_125 hw (fun m' f => K _ m' (zg64_q f) (by rw [e]) (by rw [e]; exact zg64_r f))
theorem zR_no10 {r : Int × zS} {w : Int32} {Q : Int32 → zf_Me → Prop} (hw : -8 < w.toInt ∧ w.toInt ≤ 0) (K : ∀ v m', zgQ m m' → v.toInt = r.1 → zr m' = r.2 → Q v m') (e : r = (w.toInt - 10, zr m)) : wp_126 w m Q := by
  have e10 : (10 : Int32).toInt = 10 := rfl
  have t := fb_subI (x := w) (y := 10) (by omega) (by omega)
  exact zs_126 hw (fun m' f => K _ m' (zg64_q f) (by rw [e]; show _ = w.toInt - 10; omega) (by rw [e]; exact zg64_r f))
theorem zY_142 (hJ : JM m) {s t : Int32} {Q : Int32 → zf_Me → Prop} (K : ∀ v m', zgQ m m' → v.toInt = (zN75 (zr m) s.toInt t.toInt).1 → zr m' = (zN75 (zr m) s.toInt t.toInt).2 → Q v m') : wp_142 s t m Q := by
  have b := zB_r hJ.1
  have p : zr m 5 5 = (m.1 63 0).toInt := rfl
  refine ⟨fun g => zR_no (by decide) K (if_pos (Or.inl g)), fun g => ⟨fun g2 => ⟨fun g3 => ⟨fun g4 => zs_140 (by omega) (fun m' z f => K _ m' (zgc_q f) ?_ ?_), fun g4 => zs_140 (by omega) (fun m' z f => K _ m' (zgc_q f) ?_ ?_)⟩, fun g3 => zR_no (by decide) K ?_⟩, fun g2 => zR_no (by decide) K (if_pos (Or.inr (by omega)))⟩⟩
  · unfold zN75
    rw [if_neg (by omega), if_pos (by rw [p]; omega)]
    rfl
  · unfold zN75
    rw [if_neg (by omega), if_pos (by rw [p]; omega), z, g4]
    rfl
  · unfold zN75
    rw [if_neg (by omega), if_pos (by rw [p]; omega)]
    rfl
  · unfold zN75
    rw [if_neg (by omega), if_pos (by rw [p]; omega), z, if_neg g4]
    rfl
  · unfold zN75
    rw [if_neg (by omega), if_neg (by rw [p]; omega)]
    rfl
theorem zY_143 (hJ : JM m) {k a : Int32} {Q : Int32 → zf_Me → Prop} (K : ∀ v m', zgQ m m' → v.toInt = (zN76 (zr m) k.toInt a.toInt).1 → zr m' = (zN76 (zr m) k.toInt a.toInt).2 → Q v m') : wp_143 k a m Q := by
  have b := zB_r hJ.1
  have p : zr m 5 6 = (m.1 63 1).toInt := rfl
  refine ⟨fun g => zR_no (by decide) K (if_pos (by omega)), fun g => ⟨fun g2 => ⟨fun g3 => zR_no (by decide) K ?_, fun g3 => ⟨fun g4 => ⟨fun g5 => zs_141 (by omega) (fun m' z f => K _ m' (zgc_q f) ?_ ?_), fun g5 => zR_no (by decide) K ?_⟩, fun g4 => zR_no (by decide) K ?_⟩⟩, fun g2 => zR_no (by decide) K (if_pos (by omega))⟩⟩
  · unfold zN76
    rw [if_neg (by omega), if_pos (by omega)]
    rfl
  · unfold zN76
    rw [if_neg (by omega), if_neg (by omega), if_pos (by rw [p]; omega)]
    rfl
  · unfold zN76
    rw [if_neg (by omega), if_neg (by omega), if_pos (by rw [p]; omega)]
    exact z
  · unfold zN76
    rw [if_neg (by omega), if_neg (by omega), if_neg (by rw [p]; omega)]
    rfl
  · unfold zN76
    rw [if_neg (by omega), if_pos (by omega)]
    rfl
theorem zY_150 {w v : Int32} {Q : Int32 → zf_Me → Prop} (K : ∀ x m', zgQ m m' → x.toInt = (zN79 (zr m) w.toInt v.toInt).1 → zr m' = (zN79 (zr m) w.toInt v.toInt).2 → Q x m') : wp_150 w v m Q := by
  refine ⟨fun g => zR_no (by decide) K (if_pos (by omega)), fun g => ⟨fun g2 => zR_no (by decide) K (if_pos (by omega)), fun g2 => zs_146 g (fun k => ⟨fun z => (nomatch z), fun _ => zs_149 (by omega) (fun x m' e z f => K _ m' (zgc_q f) ?_ ?_)⟩) (fun k => ⟨fun _ => zR_no (by decide) K ?_, fun z => (nomatch z)⟩)⟩⟩
  · unfold zN79
    rw [if_neg (by omega), if_pos k]
    exact e
  · unfold zN79
    rw [if_neg (by omega), if_pos k]
    exact z
  · unfold zN79
    rw [if_neg (by omega), if_neg k]
    rfl
theorem zY_151 (hJ : JM m) {p v : Int32} {Q : Int32 → zf_Me → Prop} (K : ∀ x m', zgQ m m' → x.toInt = (zN80 (zr m) p.toInt v.toInt).1 → zr m' = (zN80 (zr m) p.toInt v.toInt).2 → Q x m') : wp_151 p v m Q := by
  have b := zB_r hJ.1
  have q : zr m 5 6 = (m.1 63 1).toInt := rfl
  refine zs_128 (fun g => ⟨fun _ => ⟨fun g0 => zR_no (by decide) K ?_, fun g1 => ⟨fun g2 => ⟨by omega, by omega, fun m5 q5 => K _ m5 ?_ ?_ ?_⟩, fun g2 => zR_no (by decide) K ?_⟩⟩, fun z => (nomatch z)⟩) (fun g => ⟨fun z => (nomatch z), fun _ => zR_no (by decide) K (if_pos (by rw [q]; exact g))⟩)
  · unfold zN80
    rw [if_neg (by rw [q]; omega), if_pos (by omega)]
    rfl
  · rw [q5]
    exact zgr_u zgr_refl (by omega)
  · unfold zN80
    rw [if_neg (by rw [q]; omega), if_neg (by omega)]
    show _ = zN 6 (m.1 69) p.toInt.toNat
    rw [zN_lt (by omega)]
  · unfold zN80
    rw [if_neg (by rw [q]; omega), if_neg (by omega), q5, zr_a4 (by omega)]
  · unfold zN80
    rw [if_neg (by rw [q]; omega), if_pos (by omega)]
    rfl
theorem zY_152 {p : Int32} {Q : Int32 → zf_Me → Prop} (K : ∀ x m', zgQ m m' → x.toInt = (zN81 (zr m) p.toInt).1 → zr m' = (zN81 (zr m) p.toInt).2 → Q x m') : wp_152 p m Q := by
  have q : zr m 5 6 = (m.1 63 1).toInt := rfl
  have fin : p.toInt = -1 ∨ (0 ≤ p.toInt ∧ p.toInt < (m.1 63 1).toInt) → wq_152_19 p m Q := fun g m1 q1 => K _ m1 (by rw [q1]; exact zgr_u zgr_refl (by omega)) (by unfold zN81; rw [if_pos (by rw [q]; exact g)]; rfl) (by unfold zN81; rw [if_pos (by rw [q]; exact g), q1, zr_w2])
  exact ⟨fun g => fin (Or.inl g), fun n => zs_128 (fun g => ⟨fun _ => fin (Or.inr g), fun z => (nomatch z)⟩) (fun g => ⟨fun z => (nomatch z), fun _ => zR_no10 (by decide) K (if_neg (by rw [q]; exact fun z => z.elim n g))⟩)⟩
theorem zmay_r {f : zS} (hB : zB f) {a : Int} (h : zmay f a) : 0 ≤ a ∧ a ≤ 9 := by
  have b := hB.1
  rcases h with h | h | h | h | h
  · omega
  · omega
  · omega
  · omega
  · have c := h.2.2.2.2.1
    omega
theorem zY_197 (hJ : JM m) {a : Int32} {Q : Int32 → zf_Me → Prop} (K : ∀ x m', zgQ m m' → x.toInt = (zN100 (zr m) a.toInt).1 → zr m' = (zN100 (zr m) a.toInt).2 → Q x m') : wp_197 a m Q := by
  refine ⟨fun g => zR_no (by decide) K (if_neg (fun z => ?_)), fun g => ⟨fun g2 => zR_no (by decide) K (if_neg (fun z => ?_)), fun g2 => zs_167 hJ.1 g2 (fun b hb => ⟨fun e => zs_169 hJ.1 ⟨g, g2⟩ (hb.mp e) (fun m' z f => K _ m' (zgc_q f) ?_ ?_), fun e => zR_no (by decide) K (if_neg (zno hb e))⟩)⟩⟩
  · have := zmay_r hJ.1 z
    omega
  · have := zmay_r hJ.1 z
    omega
  · unfold zN100
    rw [if_pos (hb.mp e), ← z]
    rfl
  · unfold zN100
    rw [if_pos (hb.mp e)]
    exact z
theorem zY_201 {v : Int32} {Q : Int32 → zf_Me → Prop} (K : ∀ x m', zgQ m m' → x.toInt = (zN103 (zr m) v.toInt).1 → zr m' = (zN103 (zr m) v.toInt).2 → Q x m') : wp_201 v m Q := fun m1 q1 => K _ m1 (by rw [q1]; exact zgr_u zgr_refl (by omega)) rfl (by rw [q1, zr_w12]; rfl)
theorem zX_102 (hJ : JX m) {Q : Int32 → zf_Me → Prop} (K : ∀ x m', zw m m' → x.toInt = (zN102 (zv 2 3 8 m)).1 → zv 2 3 8 m' = (zN102 (zv 2 3 8 m)).2 → Q x m') : wp_102 m Q := by
  have e1 : (1 : Int32).toInt = 1 := rfl
  have e0 : (0 : Int32).toInt = 0 := rfl
  intro m1 q1 m3 q3 m5 q5 m7 q7
  have f7 : zfr (fun a => a = 2 ∨ a = 8) m m7 := by
    rw [q7, q5, q3, q1]
    exact zfr_u (zfr_u (zfr_u (zfr_u zfr_refl (Or.inl rfl)) (Or.inl rfl)) (Or.inl rfl)) (Or.inl rfl)
  have z7 : zv 2 3 8 m7 = zday0 (zv 2 3 8 m) := by
    rw [q7, zv_w4 zd2, q5, zv_w6 zd2, q3, zv_w11 zd2, q1, zv_w10 zd2, ← q1, ← q3, ← q5]
    have c : (m5.1 2 3).toInt = zv 2 3 8 m 5 0 := by
      rw [q5, zf_u4 (by decide), q3, zf_u4 (by decide), q1, zf_u4 (by decide)]
      rfl
    rw [c]
    rfl
  have lp : ∀ (n : Nat) (v2 : Int32) (mj : zf_Me), 0 ≤ v2.toInt → v2.toInt ≤ 6 → 6 - v2.toInt < n → zv 2 3 8 mj = zdayT (zday0 (zv 2 3 8 m)) v2.toInt.toNat → zfr (fun a => a = 2 ∨ a = 8) m mj → wq_102_48 Q n (m.1 2 10) v2 mj := by
    intro n
    induction n with
    | zero => intro v2 mj h0 h1 h2; omega
    | succ n ih =>
      intro v2 mj h0 h1 h2 hz hf
      refine ⟨fun g => K _ mj (zfr_mono hf (fun a ha => by omega)) rfl ?_, fun g => ⟨by omega, fun m9 q9 => ?_⟩⟩
      · rw [hz, show v2.toInt.toNat = 6 by omega]
        rfl
      · have s := fb_addI (x := v2) (y := 1) (by omega) (by omega)
        refine ih _ m9 (by omega) (by omega) (by omega) ?_ (by rw [q9]; exact zfr_u hf (Or.inr rfl))
        rw [q9, zv_a4 zd2 (by omega), hz, show (v2 + 1).toInt.toNat = v2.toInt.toNat + 1 by omega]
        rfl
  exact ⟨8, lp 8 0 m7 (by decide) (by decide) (by decide) z7 f7⟩
theorem zY_200 (hJ : JM m) (ht : zTz (zr m)) {Q : Int32 → zf_Me → Prop} (K : ∀ x m', zgQ m m' → x.toInt = (zN102 (zr m)).1 → zr m' = (zN102 (zr m)).2 → Q x m') : wp_200 m Q := by
  have e1 : (1 : Int32).toInt = 1 := rfl
  have e0 : (0 : Int32).toInt = 0 := rfl
  have b := zB_r hJ.1
  intro m1 q1 m3 q3 m5 q5 m7 q7
  have f7 : zgc m m7 := by
    rw [q7, q5, q3, q1]
    exact zgr_u (zgr_u (zgr_u (zgr_u zgr_refl (by omega)) (by omega)) (by omega)) (by omega)
  have c : (m5.1 63 4).toInt = zr m 5 0 := by
    rw [q5, zf_u4 (by decide), q3, zf_u4 (by decide), q1, zf_u4 (by decide)]
    rfl
  have z7 : zr m7 = zday0 (zr m) := by
    rw [q7, zr_w3, c, q5, zr_w6, q3, zr_w11, q1, zr_w10]
    rfl
  have p7 : (m7.1 63 1).toInt = (m.1 63 1).toInt := by rw [q7, zf_u4 (by decide), q5, zf_u4 (by decide), q3, zf_u4 (by decide), q1, zf_u4 (by decide)]
  have lp : ∀ (n : Nat) (v2 : Int32) (mj : zf_Me), 0 ≤ v2.toInt → v2.toInt ≤ (m.1 63 1).toInt → (m.1 63 1).toInt - v2.toInt < n → zr mj = zdayT (zday0 (zr m)) v2.toInt.toNat → (mj.1 63 1).toInt = (m.1 63 1).toInt → zgc m mj → wq_200_30 Q n (m.1 63 10) v2 mj := by
    intro n
    induction n with
    | zero => intro v2 mj h0 h1 h2; omega
    | succ n ih =>
      intro v2 mj h0 h1 h2 hz hp hf
      refine ⟨fun g => K _ mj (zgc_q hf) rfl ?_, fun g => ⟨by omega, fun m9 q9 => ?_⟩⟩
      · rw [hz]
        show _ = zdayT (zday0 (zr m)) 6
        refine (zdayT_e (zday0 (zr m)) v2.toInt.toNat (fun k k6 hk => ?_) 6 (by omega) (by decide)).symm
        have := ht k k6 (by show (m.1 63 1).toInt ≤ _; omega)
        exact this
      · have s := fb_addI (x := v2) (y := 1) (by omega) (by omega)
        refine ih _ m9 (by omega) (by omega) (by omega) ?_ (by rw [q9, zf_u1 (by decide)]; exact hp) (by rw [q9]; exact zgr_u hf (by omega))
        rw [q9, zr_a4 (by omega), hz, show (v2 + 1).toInt.toNat = v2.toInt.toNat + 1 by omega]
        rfl
  exact ⟨8, lp 8 0 m7 (by decide) (by show (0 : Int) ≤ _; omega) (by show (m.1 63 1).toInt - 0 < _; omega) z7 p7 f7⟩
end
