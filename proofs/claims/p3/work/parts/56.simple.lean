/-! part 56: the class's simple calls keep to JX -/
theorem zB_addF {f : zS} {s t : Int} (hB : zB f) (hf : f 5 5 < 24) (hs : -3 ≤ s ∧ s ≤ 3) (ht : 0 ≤ t ∧ t ≤ 1) : zB (zaddF f s t) := by
  have h1 := hB.1
  refine ⟨?_, fun k hk => ?_, fun k hk => ?_⟩
  · show zB1 (f 5 0) (f 5 1) (f 5 2) (f 5 3) (f 5 4) (f 5 5 + 1) (f 5 6) (f 5 7) (f 5 8) (f 5 9) (f 5 10) (f 5 11) (f 5 12)
    omega
  · have b := hB.2.1 k hk
    unfold zaddF
    rw [zU_o (by omega), zU_o (by omega), zU_o (a := 1) (by omega)]
    by_cases e : k = (f 5 5).toNat
    · rw [e, zU_s, zU_s]
      omega
    · rw [zU_o (by omega), zU_o (by omega), zU_o (by omega)]
      exact b
  · have b := hB.2.2 k hk
    unfold zaddF
    rw [zU_o (by omega), zU_o (by omega), zU_o (by omega), zU_o (by omega), zU_o (by omega), zU_o (by omega), zU_o (by omega), zU_o (by omega), zU_o (by omega)]
    exact b
theorem zB_addP {f : zS} {k a : Int} (hB : zB f) (hf : f 5 6 < 6) (hs : 0 ≤ k ∧ k ≤ 6) (ht : 0 ≤ a ∧ a ≤ 9) : zB (zaddP f k a) := by
  have h1 := hB.1
  refine ⟨?_, fun j hj => ?_, fun j hj => ?_⟩
  · show zB1 (f 5 0) (f 5 1) (f 5 2) (f 5 3) (f 5 4) (f 5 5) (f 5 6 + 1) (f 5 7) (f 5 8) (f 5 9) (f 5 10) (f 5 11) (f 5 12)
    omega
  · have b := hB.2.1 j hj
    unfold zaddP
    rw [zU_o (by omega), zU_o (by omega), zU_o (by omega), zU_o (by omega), zU_o (by omega), zU_o (by omega), zU_o (by omega), zU_o (by omega)]
    exact b
  · have b := hB.2.2 j hj
    by_cases e : j = (f 5 6).toNat
    · have t2 : zaddP f k a 2 j = k := by
        unfold zaddP
        rw [zU_o (by omega), zU_o (by omega), zU_o (by omega), e, zU_s]
      have t3 : zaddP f k a 3 j = a := by
        unfold zaddP
        rw [zU_o (by omega), zU_o (by omega), e, zU_s]
      have t4 : zaddP f k a 4 j = 0 := by
        unfold zaddP
        rw [zU_o (by omega), e, zU_s]
      omega
    · have t2 : zaddP f k a 2 j = f 2 j := by
        unfold zaddP
        rw [zU_o (by omega), zU_o (by omega), zU_o (by omega), zU_o (by omega)]
      have t3 : zaddP f k a 3 j = f 3 j := by
        unfold zaddP
        rw [zU_o (by omega), zU_o (by omega), zU_o (by omega), zU_o (by omega)]
      have t4 : zaddP f k a 4 j = f 4 j := by
        unfold zaddP
        rw [zU_o (by omega), zU_o (by omega), zU_o (by omega), zU_o (by omega)]
      omega
def zlo (w : Nat) : Int := if w < 3 then 1 else 0
def zhi (w : Nat) : Int := if w = 2 then 99 else 9
theorem zk_lo : ∀ w : Nat, w < 5 → ((zx_sa.getD 2 []).getD w 0).toInt = zlo w ∧ ((zx_sa.getD 3 []).getD w 0).toInt = zhi w := by decide
theorem zB_ask {f : zS} {w : Nat} {v : Int} (hB : zB f) (hw : w < 5) (hv : zlo w ≤ v ∧ v ≤ zhi w) : zB (zask f w v) := by
  have h1 := hB.1
  unfold zask
  match w, hw with
  | 0, _ =>
    rw [if_pos rfl]
    have t : 0 ≤ (if v < f 5 8 then v else f 5 8) ∧ (if v < f 5 8 then v else f 5 8) ≤ 11 := by
      have : (1 : Int) ≤ v := hv.1
      split <;> omega
    refine ⟨?_, zB2_u5 (zB2_u5 hB.2.1), zB3_u5 (zB3_u5 hB.2.2)⟩
    show zB1 v (f 5 1) (f 5 2) (f 5 3) (f 5 4) (f 5 5) (f 5 6) (f 5 7) (if v < f 5 8 then v else f 5 8) (f 5 9) (f 5 10) (f 5 11) (f 5 12)
    have : (1 : Int) ≤ v := hv.1
    have : v ≤ 9 := hv.2
    omega
  | 1, _ =>
    refine ⟨?_, zB2_u5 hB.2.1, zB3_u5 hB.2.2⟩
    show zB1 (f 5 0) v (f 5 2) (f 5 3) (f 5 4) (f 5 5) (f 5 6) (f 5 7) (f 5 8) (f 5 9) (f 5 10) (f 5 11) (f 5 12)
    have : (1 : Int) ≤ v := hv.1
    have : v ≤ 9 := hv.2
    omega
  | 2, _ =>
    refine ⟨?_, zB2_u5 hB.2.1, zB3_u5 hB.2.2⟩
    show zB1 (f 5 0) (f 5 1) v (f 5 3) (f 5 4) (f 5 5) (f 5 6) (f 5 7) (f 5 8) (f 5 9) (f 5 10) (f 5 11) (f 5 12)
    have : (1 : Int) ≤ v := hv.1
    have : v ≤ 99 := hv.2
    omega
  | 3, _ =>
    refine ⟨?_, zB2_u5 hB.2.1, zB3_u5 hB.2.2⟩
    show zB1 (f 5 0) (f 5 1) (f 5 2) v (f 5 4) (f 5 5) (f 5 6) (f 5 7) (f 5 8) (f 5 9) (f 5 10) (f 5 11) (f 5 12)
    have : (0 : Int) ≤ v := hv.1
    have : v ≤ 9 := hv.2
    omega
  | 4, _ =>
    refine ⟨?_, zB2_u5 hB.2.1, zB3_u5 hB.2.2⟩
    show zB1 (f 5 0) (f 5 1) (f 5 2) (f 5 3) v (f 5 5) (f 5 6) (f 5 7) (f 5 8) (f 5 9) (f 5 10) (f 5 11) (f 5 12)
    have : (0 : Int) ≤ v := hv.1
    have : v ≤ 9 := hv.2
    omega
/-- changes of the truth alone -/
theorem JX_now {m m' : zf_Me} (hJ : JX m) (h : zfr (fun a => 2 ≤ a ∧ a ≤ 8 ∨ 16 ≤ a ∧ a ≤ 46) m m') (hB : zB (zv 2 3 8 m')) : JX m' := by
  refine ⟨hB, ?_, fun j hj => ?_⟩
  · rw [zv_of h (w := 9) (y := 10) (r := 15) (by omega) (fun a _ _ => by omega) (by omega)]
    exact hJ.2.1
  · rw [h.1 _ (by omega)]
    exact hJ.2.2 j hj
section
variable {m : zf_Me}
theorem zx_75 (hJ : JX m) {s t : Int32} (ht : t = 0 ∨ t = 1) {Q : Int32 → zf_Me → Prop} (hq : ∀ (v : Int32) (m' : zf_Me), JX m' → zfc m m' → Q v m') : wp_75 s t m Q := by
  have K : ∀ v m', zq m m' → Q v m' := fun v m' f => hq v m' (JX_q hJ f) (zfc_q f)
  have b := zB_v hJ.1
  refine ⟨fun _ => zk_109 (by decide) K, fun g => ⟨fun g2 => ⟨fun g3 => zs_66 zd2 (by omega) (fun m' z f => hq _ m' (JX_now hJ (zfr_mono f (fun a ha => by omega)) ?_) (zfc_of f (fun a ha => by omega))), fun _ => zk_109 (by decide) K⟩, fun _ => zk_109 (by decide) K⟩⟩
  rw [z]
  exact zB_addF hJ.1 g3 (by omega) (by split <;> omega)
theorem zx_76 (hJ : JX m) {k a : Int32} {Q : Int32 → zf_Me → Prop} (hq : ∀ (v : Int32) (m' : zf_Me), JX m' → zfc m m' → Q v m') : wp_76 k a m Q := by
  have K : ∀ v m', zq m m' → Q v m' := fun v m' f => hq v m' (JX_q hJ f) (zfc_q f)
  have b := zB_v hJ.1
  refine zs_115 (fun g => ⟨fun _ => ⟨fun _ => zk_109 (by decide) K, fun g1 => ⟨fun g2 => ⟨fun g3 => zs_44 zd2 (by omega) (fun m' z f => hq _ m' (JX_now hJ (zfr_mono f (fun a ha => by omega)) ?_) (zfc_of f (fun a ha => by omega))), fun _ => zk_109 (by decide) K⟩, fun _ => zk_109 (by decide) K⟩⟩, fun z => (nomatch z)⟩) (fun _ => ⟨fun z => (nomatch z), fun _ => zk_109 (by decide) K⟩)
  rw [z]
  exact zB_addP hJ.1 g3 (by omega) (by omega)
theorem zX_77 (hJ : JX m) {f w : Int32} {Q : Int32 → zf_Me → Prop} (K : ∀ (v : Int32) (m' : zf_Me), zq m m' → Q v m') : wp_77 f w m Q := by
  have b := zB_v hJ.1
  exact zs_64t (fun g => ⟨fun z => (nomatch z), fun _ => ⟨fun _ => zk_110 (by decide) K, fun _ => ⟨fun _ => ⟨fun _ => ⟨by omega, K _ m zfr_refl⟩, fun _ => ⟨by omega, K _ m zfr_refl⟩⟩, fun _ => zk_110 (by decide) K⟩⟩⟩) (fun _ => ⟨fun _ => zk_110 (by decide) K, fun z => (nomatch z)⟩)
theorem zx_77 (hJ : JX m) {f w : Int32} {Q : Int32 → zf_Me → Prop} (hq : ∀ (v : Int32) (m' : zf_Me), JX m' → zfc m m' → Q v m') : wp_77 f w m Q := zX_77 hJ (fun v m' f => hq v m' (JX_q hJ f) (zfc_q f))
theorem zX_78 (hJ : JX m) {f w : Int32} {Q : Int32 → zf_Me → Prop} (K : ∀ (v : Int32) (m' : zf_Me), zq m m' → Q v m') : wp_78 f w m Q := by
  have b := zB_v hJ.1
  exact zs_65t (fun g => ⟨fun _ => ⟨fun _ => zk_109 (by decide) K, fun _ => ⟨by omega, K _ m zfr_refl⟩, fun _ => ⟨by omega, K _ m zfr_refl⟩, fun _ => ⟨by omega, K _ m zfr_refl⟩, fun _ => ⟨fun _ => K _ m zfr_refl, fun _ => K _ m zfr_refl⟩⟩, fun z => (nomatch z)⟩) (fun _ => ⟨fun z => (nomatch z), fun _ => zk_109 (by decide) K⟩)
theorem zx_78 (hJ : JX m) {f w : Int32} {Q : Int32 → zf_Me → Prop} (hq : ∀ (v : Int32) (m' : zf_Me), JX m' → zfc m m' → Q v m') : wp_78 f w m Q := zX_78 hJ (fun v m' f => hq v m' (JX_q hJ f) (zfc_q f))
theorem zx_79 (hJ : JX m) {w v : Int32} {Q : Int32 → zf_Me → Prop} (hq : ∀ (v : Int32) (m' : zf_Me), JX m' → zfc m m' → Q v m') : wp_79 w v m Q := by
  have K : ∀ v m', zq m m' → Q v m' := fun v m' f => hq v m' (JX_q hJ f) (zfc_q f)
  refine ⟨fun _ => zk_109 (by decide) K, fun g0 => ⟨fun _ => zk_109 (by decide) K, fun g1 => ⟨⟨g0, g1⟩, fun _ => zk_109 (by decide) K, fun g2 => ⟨⟨g0, g1⟩, fun g3 => zs_45 (w := 2) (y := 3) (r := 8) ⟨g0, g1⟩ (fun x _ => zs_46 zd2 ⟨g0, g1⟩ (fun m' z f => hq _ m' (JX_now hJ (zfr_mono f (fun a ha => by omega)) ?_) (zfc_of f (fun a ha => by omega)))), fun _ => zk_109 (by decide) K⟩⟩⟩⟩
  have lo := zk_lo w.toInt.toNat (by omega)
  rw [z]
  exact zB_ask hJ.1 (by omega) (by rw [← lo.1, ← lo.2]; omega)
theorem zB_tire {f : zS} {k : Nat} {x : Int} (h : zB f) (hx : 0 ≤ x ∧ x ≤ 99) : zB (zU f 4 k x) := ⟨h.1, zB2_u4 h.2.1, zB3_u4 h.2.2 hx⟩
theorem zx_80 (hJ : JX m) {p v : Int32} {Q : Int32 → zf_Me → Prop} (hq : ∀ (v : Int32) (m' : zf_Me), JX m' → zfc m m' → Q v m') : wp_80 p v m Q := by
  have K : ∀ v m', zq m m' → Q v m' := fun v m' f => hq v m' (JX_q hJ f) (zfc_q f)
  have b := zB_v hJ.1
  refine zs_65t (fun g => ⟨fun _ => ⟨fun _ => zk_109 (by decide) K, fun g1 => ⟨fun g2 => ⟨by omega, by omega, fun m5 q5 => ?_⟩, fun _ => zk_109 (by decide) K⟩⟩, fun z => (nomatch z)⟩) (fun _ => ⟨fun z => (nomatch z), fun _ => zk_109 (by decide) K⟩)
  have f : zfr (fun a => a = 8) m m5 := by rw [q5]; exact zfr_u zfr_refl rfl
  refine hq _ m5 (JX_now hJ (zfr_mono f (fun a ha => by omega)) ?_) (zfc_of f (fun a ha => by omega))
  rw [q5, zv_a4 zd2 (by omega)]
  exact zB_tire hJ.1 (by omega)
theorem zB_bag {f : zS} {x : Int} (h : zB f) (hx : -1 ≤ x ∧ x ≤ 5) : zB (zU f 5 7 x) := by
  have h1 := h.1
  refine ⟨?_, zB2_u5 h.2.1, zB3_u5 h.2.2⟩
  show zB1 (f 5 0) (f 5 1) (f 5 2) (f 5 3) (f 5 4) (f 5 5) (f 5 6) x (f 5 8) (f 5 9) (f 5 10) (f 5 11) (f 5 12)
  omega
theorem zx_81 (hJ : JX m) {p : Int32} {Q : Int32 → zf_Me → Prop} (hq : ∀ (v : Int32) (m' : zf_Me), JX m' → zfc m m' → Q v m') : wp_81 p m Q := by
  have K : ∀ v m', zq m m' → Q v m' := fun v m' f => hq v m' (JX_q hJ f) (zfc_q f)
  have b := zB_v hJ.1
  have fin : -1 ≤ p.toInt ∧ p.toInt ≤ 5 → wq_81_25 p m Q := by
    intro g m1 q1
    have f : zfr (fun a => a = 2) m m1 := by rw [q1]; exact zfr_u zfr_refl rfl
    refine hq _ m1 (JX_now hJ (zfr_mono f (fun a ha => by omega)) ?_) (zfc_of f (fun a ha => by omega))
    rw [q1, zv_w2 zd2]
    exact zB_bag hJ.1 g
  exact ⟨fun g => fin (by omega), fun _ => zs_65t (fun g => ⟨fun _ => fin (by omega), fun z => (nomatch z)⟩) (fun _ => ⟨fun z => (nomatch z), fun _ => zk_110 (by decide) K⟩)⟩
theorem zx_83 (hJ : JX m) {Q : Int32 → zf_Me → Prop} (hq : ∀ (v : Int32) (m' : zf_Me), JX m' → zfc m m' → Q v m') : wp_83 m Q := hq _ m hJ zfc_refl
theorem zX_84 (hJ : JX m) {p f : Int32} {Q : Int32 → zf_Me → Prop} (K : ∀ (v : Int32) (m' : zf_Me), zq m m' → Q v m') : wp_84 p f m Q := by
  have b := zB_v hJ.1
  refine zs_65t (fun g => ⟨fun _ => zs_64t (fun g2 => ⟨fun _ => ⟨by omega, zs_51 hJ.1 (by omega) ?_ (fun x _ => K _ m zfr_refl)⟩, fun z => (nomatch z)⟩) (fun _ => ⟨fun z => (nomatch z), fun _ => zk_109 (by decide) K⟩), fun z => (nomatch z)⟩) (fun _ => ⟨fun z => (nomatch z), fun _ => zk_109 (by decide) K⟩)
  have := zB_v2 hJ.1 (k := f.toInt.toNat) (by omega)
  exact ⟨this.1, this.2.1⟩
theorem zx_84 (hJ : JX m) {p f : Int32} {Q : Int32 → zf_Me → Prop} (hq : ∀ (v : Int32) (m' : zf_Me), JX m' → zfc m m' → Q v m') : wp_84 p f m Q := zX_84 hJ (fun v m' f => hq v m' (JX_q hJ f) (zfc_q f))
theorem zX_85 (hJ : JX m) {a : Int32} {Q : Int32 → zf_Me → Prop} (K : ∀ (v : Int32) (m' : zf_Me), zq m m' → Q v m') : wp_85 a m Q := by
  exact ⟨fun _ => zk_109 (by decide) K, fun _ => ⟨fun _ => zs_52 hJ.1 (fun b _ => ⟨fun _ => K _ m zfr_refl, fun _ => K _ m zfr_refl⟩), fun _ => zk_109 (by decide) K⟩⟩
theorem zx_85 (hJ : JX m) {a : Int32} {Q : Int32 → zf_Me → Prop} (hq : ∀ (v : Int32) (m' : zf_Me), JX m' → zfc m m' → Q v m') : wp_85 a m Q := zX_85 hJ (fun v m' f => hq v m' (JX_q hJ f) (zfc_q f))
theorem zX_90 (hJ : JX m) {f : Int32} {Q : Int32 → zf_Me → Prop} (K : ∀ (v : Int32) (m' : zf_Me), zq m m' → Q v m') : wp_90 f m Q := by
  have b := zB_v hJ.1
  have e1 : (1 : Int32).toInt = 1 := rfl
  have e0 : (0 : Int32).toInt = 0 := rfl
  have lp : ∀ (n : Nat) (v2 v3 v4 : Int32), -3 ≤ v2.toInt ∧ v2.toInt ≤ 3 → 0 ≤ v3.toInt ∧ v3.toInt < 6 → 0 ≤ v4.toInt → v4.toInt ≤ 6 → 7 - v4.toInt < n → wq_90_51 f Q n v2 v3 v4 m := by
    intro n
    induction n with
    | zero => intro v2 v3 v4 h2 h3 h4 h5 h6; omega
    | succ n ih =>
      intro v2 v3 v4 h2 h3 h4 h5 h6
      refine ⟨fun _ => K _ m zfr_refl, fun g => zs_51 hJ.1 (by omega) h2 (fun x _ => zs_51 hJ.1 h3 h2 (fun x2 _ => ?_))⟩
      have s := fb_addI (x := v4) (y := 1) (by omega) (by omega)
      exact ⟨fun _ => ih _ _ _ h2 h3 (by omega) (by omega) (by omega), fun _ => ih _ _ _ h2 (by omega) (by omega) (by omega) (by omega)⟩
  refine zs_64t (fun g => ⟨fun z => (nomatch z), fun _ => ⟨fun _ => ⟨by omega, 9, lp 9 _ 0 1 ?_ (by decide) (by decide) (by decide) (by decide)⟩, fun _ => zk_109 (by decide) K⟩⟩) (fun _ => ⟨fun _ => zk_109 (by decide) K, fun z => (nomatch z)⟩)
  have := zB_v2 hJ.1 (k := f.toInt.toNat) (by omega)
  exact ⟨this.1, this.2.1⟩
theorem zx_90 (hJ : JX m) {f : Int32} {Q : Int32 → zf_Me → Prop} (hq : ∀ (v : Int32) (m' : zf_Me), JX m' → zfc m m' → Q v m') : wp_90 f m Q := zX_90 hJ (fun v m' f => hq v m' (JX_q hJ f) (zfc_q f))
theorem zx_105 (hJ : JX m) {i : Int32} {Q : Int32 → zf_Me → Prop} (hq : ∀ (v : Int32) (m' : zf_Me), JX m' → zfc m m' → Q v m') : wp_105 i m Q :=
  ⟨fun _ => hq _ m hJ zfc_refl, fun g => ⟨fun _ => hq _ m hJ zfc_refl, fun g2 => ⟨fun _ => hq _ m hJ zfc_refl, fun _ => ⟨⟨g, g2⟩, hq _ m hJ zfc_refl⟩⟩⟩⟩
theorem zx_103 (hJ : JX m) {v : Int32} {Q : Int32 → zf_Me → Prop} (hq : ∀ (v : Int32) (m' : zf_Me), JX m' → zfc m m' → Q v m') : wp_103 v m Q := by
  intro m1 q1
  have f : zfr (fun a => a = 2) m m1 := by rw [q1]; exact zfr_u zfr_refl rfl
  refine hq _ m1 (JX_now hJ (zfr_mono f (fun a ha => by omega)) ?_) (zfc_of f (fun a ha => by omega))
  rw [q1, zv_w12 zd2]
  have h1 := hJ.1.1
  have r := fb_rng v
  refine ⟨?_, zB2_u5 hJ.1.2.1, zB3_u5 hJ.1.2.2⟩
  show zB1 (zv 2 3 8 m 5 0) (zv 2 3 8 m 5 1) (zv 2 3 8 m 5 2) (zv 2 3 8 m 5 3) (zv 2 3 8 m 5 4) (zv 2 3 8 m 5 5) (zv 2 3 8 m 5 6) (zv 2 3 8 m 5 7) (zv 2 3 8 m 5 8) (zv 2 3 8 m 5 9) (zv 2 3 8 m 5 10) (zv 2 3 8 m 5 11) v.toInt
  omega
theorem zx_106 (hJ : JX m) {Q : Int32 → zf_Me → Prop} (hq : ∀ (v : Int32) (m' : zf_Me), JX m' → zfc m m' → Q v m') : wp_106 m Q := by
  refine zs_63_43 zd9 (by decide) (by decide) (by decide) (fun m4 z4 f4 m5 q5 => ?_)
  have z5 : zv 9 10 15 m5 = zv 2 3 8 m := by
    rw [q5, show zv 9 10 15 (zf_u m4 0 9 1) = zv 9 10 15 m4 from zv_fr (zf_u1 (by decide)) (fun a _ _ => zf_u1 (by omega)) (zf_u1 (by decide)), z4]
  have f5 : zfr (fun a => a = 0 ∨ 9 ≤ a ∧ a ≤ 15) m m5 := by
    rw [q5]
    exact zfr_u (zfr_mono f4 (fun a ha => by omega)) (Or.inl rfl)
  refine hq _ m5 ⟨?_, by rw [z5]; exact hJ.1, fun j hj => ?_⟩ (zfc_of f5 (fun a ha => by omega))
  · rw [zv_of f5 (w := 2) (y := 3) (r := 8) (by omega) (fun a _ _ => by omega) (by omega)]
    exact hJ.1
  · rw [f5.1 _ (by omega)]
    exact hJ.2.2 j hj
theorem zx_102 (hJ : JX m) {Q : Int32 → zf_Me → Prop} (hq : ∀ (v : Int32) (m' : zf_Me), JX m' → zfc m m' → Q v m') : wp_102 m Q := by
  have e1 : (1 : Int32).toInt = 1 := rfl
  have e0 : (0 : Int32).toInt = 0 := rfl
  have b := hJ.1.1
  intro m1 q1 m3 q3 m5 q5 m7 q7
  have f7 : zfr (fun a => a = 2 ∨ a = 8) m m7 := by
    rw [q7, q5, q3, q1]
    exact zfr_u (zfr_u (zfr_u (zfr_u zfr_refl (Or.inl rfl)) (Or.inl rfl)) (Or.inl rfl)) (Or.inl rfl)
  have z7 : zv 2 3 8 m7 = zU (zU (zU (zU (zv 2 3 8 m) 5 10 0) 5 11 0) 5 9 0) 5 8 (zv 2 3 8 m 5 0) := by
    rw [q7, zv_w4 zd2, q5, zv_w6 zd2, q3, zv_w11 zd2, q1, zv_w10 zd2, ← q1, ← q3, ← q5]
    have c : (m5.1 2 3).toInt = zv 2 3 8 m 5 0 := by
      rw [q5, zf_u4 (by decide), q3, zf_u4 (by decide), q1, zf_u4 (by decide)]
      rfl
    rw [c]
    rfl
  have hB7 : zB (zv 2 3 8 m7) := by
    rw [z7]
    refine ⟨?_, zB2_u5 (zB2_u5 (zB2_u5 (zB2_u5 hJ.1.2.1))), zB3_u5 (zB3_u5 (zB3_u5 (zB3_u5 hJ.1.2.2)))⟩
    show zB1 (zv 2 3 8 m 5 0) (zv 2 3 8 m 5 1) (zv 2 3 8 m 5 2) (zv 2 3 8 m 5 3) (zv 2 3 8 m 5 4) (zv 2 3 8 m 5 5) (zv 2 3 8 m 5 6) (zv 2 3 8 m 5 7) (zv 2 3 8 m 5 0) 0 0 0 (zv 2 3 8 m 5 12)
    omega
  have lp : ∀ (n : Nat) (v1 v2 : Int32) (mj : zf_Me), 0 ≤ v2.toInt → v2.toInt ≤ 6 → 6 - v2.toInt < n → zB (zv 2 3 8 mj) → zfr (fun a => a = 2 ∨ a = 8) m mj → wq_102_48 Q n v1 v2 mj := by
    intro n
    induction n with
    | zero => intro v1 v2 mj h0 h1 h2; omega
    | succ n ih =>
      intro v1 v2 mj h0 h1 h2 hB hf
      refine ⟨fun _ => hq _ mj (JX_now hJ (zfr_mono hf (fun a ha => by omega)) hB) (zfc_of hf (fun a ha => by omega)), fun g => ⟨by omega, fun m9 q9 => ?_⟩⟩
      have s := fb_addI (x := v2) (y := 1) (by omega) (by omega)
      refine ih _ _ m9 (by omega) (by omega) (by omega) ?_ (by rw [q9]; exact zfr_u hf (Or.inr rfl))
      rw [q9, zv_a4 zd2 (by omega)]
      exact zB_tire hB (by decide)
  exact ⟨8, lp 8 _ 0 m7 (by decide) (by decide) (by decide) hB7 f7⟩
theorem zx_107 (hJ : JX m) {Q : Int32 → zf_Me → Prop} (hq : ∀ (v : Int32) (m' : zf_Me), JX m' → zfc m m' → Q v m') : wp_107 m Q := by
  have e1 : (1 : Int32).toInt = 1 := rfl
  have K : ∀ v m', zq m m' → Q v m' := fun v m' f => hq v m' (JX_q hJ f) (zfc_q f)
  refine ⟨fun _ => zs_63_43 zd2 (by decide) (by decide) (by decide) (fun m4 z4 f4 => ?_), fun _ => zk_109 (by decide) K⟩
  have J4 : JX m4 := JX_now hJ (zfr_mono f4 (fun a ha => by omega)) (by rw [z4]; exact hJ.2.1)
  have c4 : zfc m m4 := zfc_of f4 (fun a ha => by omega)
  have lp : ∀ (n : Nat) (v3 : Int32) (mj : zf_Me), 0 ≤ v3.toInt → v3.toInt ≤ 8 → 8 - v3.toInt < n → JX mj → zfc m mj → wq_107_52 Q n 8 v3 mj := by
    intro n
    induction n with
    | zero => intro v3 mj h0 h1 h2; omega
    | succ n ih =>
      intro v3 mj h0 h1 h2 hj hc
      have e8 : (8 : Int32).toInt = 8 := rfl
      refine ⟨fun _ => hq _ mj hj hc, fun g => ⟨by omega, ?_⟩⟩
      have s := fb_addI (x := v3) (y := 1) (by omega) (by omega)
      have nx : ∀ m', JX m' → zfc m m' → wq_107_52 Q n 8 (v3 + 1) m' := fun m' => ih _ m' (by omega) (by omega) (by omega)
      have low : ∀ b : Bool, (b = true → wq_107_52 Q n 8 (v3 + 1) mj) ∧ (b = false → ∀ m11, m11 = zf_u mj (47 + 2 * v3.toInt.toNat) 1 (-1) → wq_107_52 Q n 8 (v3 + 1) m11) := fun b => ⟨fun _ => nx mj hj hc, fun _ m11 q11 => by
        have hS : zfS mj m11 := by
          rw [q11]
          exact ⟨fun a ha => zf_u1 (by omega), fun _ _ => rfl⟩
        refine nx m11 (JX_S hj hS (fun j hj8 => ?_)) (zfc_trans hc (zfS_c hS))
        rw [q11]
        by_cases e : 47 + 2 * j = 47 + 2 * v3.toInt.toNat
        · rw [e, zf_u4 (by decide)]
          exact hj.2.2 _ (by omega)
        · rw [zf_u1 e]
          exact hj.2.2 j hj8⟩
      have pers : wp_65 3 (mj.1 (47 + 2 * v3.toInt.toNat) 1) mj (fun b9 m10 => ((b9 = true → wq_107_52 Q n 8 (v3 + 1) m10) ∧ (b9 = false → (∀ m11, m11 = zf_u m10 (47 + 2 * v3.toInt.toNat) 1 (-1) → wq_107_52 Q n 8 (v3 + 1) m11)))) := zs_65t (fun _ => low true) (fun _ => low false)
      exact ⟨fun _ => ⟨fun z => (nomatch z), fun _ => pers⟩, fun _ => ⟨fun _ => nx mj hj hc, fun z => (nomatch z)⟩⟩
  exact ⟨10, lp 10 0 m4 (by decide) (by decide) (by decide) J4 c4⟩
theorem zx_108 (hJ : JX m) {w : Int32} {Q : Int32 → zf_Me → Prop} (hq : ∀ (v : Int32) (m' : zf_Me), JX m' → zfc m m' → Q v m') : wp_108 w m Q := by
  have K : ∀ v, Q v m := fun v => hq v m hJ zfc_refl
  have e6 : (6 : Int32).toInt = 6 := rfl
  have e10 : (10 : Int32).toInt = 10 := rfl
  have t46 : wq_108_46 w m Q := ⟨fun _ => K _, fun _ => K _, fun _ => K _, fun _ => K _, fun _ => K _, fun _ => K _, fun _ => K _, fun _ => K _, fun _ => K _, fun _ => K _, fun _ => K _, fun _ => K _, fun _ => K _, fun _ => K _, fun _ => K _, fun _ => K _, fun _ => K _, fun _ => K _, fun _ => K _, fun _ => K _, fun _ => K _, fun _ => zs_48 (fun b _ => ⟨fun _ => K _, fun _ => K _⟩)⟩
  have t24 : wq_108_24 w m Q := by
    refine ⟨fun _ => t46, fun g => ⟨fun _ => t46, fun g2 => ?_⟩⟩
    have s := fb_subI (x := w) (y := 10) (by omega) (by omega)
    exact ⟨by omega, K _⟩
  refine ⟨fun _ => t24, fun g => ⟨fun _ => t24, fun g2 => ?_⟩⟩
  have s := fb_subI (x := w) (y := 6) (by omega) (by omega)
  exact zs_45 (w := 2) (y := 3) (r := 8) (by omega) (fun x _ => K _)
theorem zs_117 {k a : Int32} {Q : Bool → zf_Me → Prop} (hq : ∀ b, Q b m) : wp_117 k a m Q := by
  have e1 : (1 : Int32).toInt = 1 := rfl
  have lp : ∀ (n : Nat) (v2 v3 : Int32), 0 ≤ v3.toInt → v3.toInt ≤ 7 → 7 - v3.toInt < n → wq_117_4 k a Q n v2 v3 m := by
    intro n
    induction n with
    | zero => intro v2 v3 h0 h1 h2; omega
    | succ n ih =>
      intro v2 v3 h0 h1 h2
      refine ⟨fun _ => hq _, fun g => zs_115 (fun g2 => ⟨fun z => (nomatch z), fun _ => ⟨fun _ => ⟨g2, ?_⟩, fun _ => hq _⟩⟩) (fun _ => ⟨fun _ => hq _, fun z => (nomatch z)⟩)⟩
      have s := fb_addI (x := v3) (y := 1) (by omega) (by omega)
      exact ih _ _ (by omega) (by omega) (by omega)
  exact ⟨9, lp 9 _ 0 (by decide) (by decide) (by decide)⟩
theorem zX_74 (hJ : JX m) {s k : Int32} {Q : Int32 → zf_Me → Prop} (K : ∀ (v : Int32) (m' : zf_Me), zq m m' → Q v m') : wp_74 s k m Q := by
  have K0 : ∀ v, Q v m := fun v => K v m zfr_refl
  have b := zB_v hJ.1
  refine zs_114 (fun g => ⟨fun z => (nomatch z), fun _ => zs_115 (fun g2 => ⟨fun _ => ⟨g, fun g3 => zs_65t (fun g4 => ⟨fun z => (nomatch z), fun _ => ⟨by omega, zs_117 (fun b2 => ⟨fun _ => ⟨fun _ => ⟨by omega, K0 _⟩, fun _ => ⟨by omega, zs_118 (fun x _ => K0 _)⟩, fun _ => zs_48 (fun b3 _ => ⟨fun _ => K0 _, fun _ => K0 _⟩), fun _ => ⟨by omega, zs_118 (fun x _ => K0 _)⟩, fun _ => zs_51 hJ.1 (by omega) (by decide) (fun x _ => K0 _), fun _ => zs_48 (fun b3 _ => ⟨fun _ => K0 _, fun _ => K0 _⟩), fun _ => zs_51 hJ.1 (by omega) (by decide) (fun x _ => K0 _)⟩, fun _ => zk_109 (by decide) K⟩)⟩⟩) (fun _ => ⟨fun _ => zk_109 (by decide) K, fun z => (nomatch z)⟩), fun _ => zk_109 (by decide) K⟩, fun z => (nomatch z)⟩) (fun _ => ⟨fun z => (nomatch z), fun _ => zk_109 (by decide) K⟩)⟩) (fun _ => ⟨fun _ => zk_109 (by decide) K, fun z => (nomatch z)⟩)
theorem zx_74 (hJ : JX m) {s k : Int32} {Q : Int32 → zf_Me → Prop} (hq : ∀ (v : Int32) (m' : zf_Me), JX m' → zfc m m' → Q v m') : wp_74 s k m Q := zX_74 hJ (fun v m' f => hq v m' (JX_q hJ f) (zfc_q f))
end
