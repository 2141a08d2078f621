/-! part 89: the class reads an ITEM, a WAY, exactly -/
section
variable {m : zf_Me} {T : zT} {s : Int}
/-- what is so behind an ITEM -/
def zIo (T : zT) (m : zf_Me) (r : zIt) (m' : zf_Me) : Prop := zfk m m' ∧ (¬ r.1 = -1 → (m'.1 35 6).toInt = r.1) ∧ (r.1 = -1 → m'.1 35 6 = m.1 35 6 ∧ zv 36 37 42 m' = r.2.2 ∧ zPs T r.2.1 m')
theorem zIo_t {m m2 m' : zf_Me} {r : zIt} (f : zfk m m2) (k : m2.1 35 6 = m.1 35 6) (h : zIo T m2 r m') : zIo T m r m' := ⟨zfk_t f h.1, h.2.1, fun e => ⟨(h.2.2 e).1.trans k, (h.2.2 e).2⟩⟩
theorem zone_o {m' : zf_Me} {r : Int × Int} {g : Int → zS} {f : zS} (fk : zfk m m') (e1 : r.1 = -1) (hf : (m'.1 35 6).toInt = r.2) (h0 : 0 ≤ r.2) : zIo T m (zone r g f) m' := by
  have e : zone r g f = (r.2, 0, f) := if_pos e1
  rw [e]
  exact ⟨fk, fun _ => hf, fun z => absurd (show r.2 = -1 from z) (by omega)⟩
theorem ztwo_o {m' : zf_Me} {r : Int × Int} {g : Int → Int → zIt} {f : zS} (fk : zfk m m') (e1 : r.1 = -1) (hf : (m'.1 35 6).toInt = r.2) (h0 : 0 ≤ r.2) : zIo T m (ztwo r g f) m' := by
  have e : ztwo r g f = (r.2, 0, f) := if_pos e1
  rw [e]
  exact ⟨fk, fun _ => hf, fun z => absurd (show r.2 = -1 from z) (by omega)⟩
theorem zone_p {m2 m' : zf_Me} {r : Int × Int} {g : Int → zS} {f : zS} (f2 : zfk m m2) (k2 : m2.1 35 6 = m.1 35 6) (h2 : zPs T r.2 m2) (ne : ¬ r.1 = -1) (fw : zfr (fun a => 36 ≤ a ∧ a ≤ 42) m2 m') (z : zv 36 37 42 m' = g r.1) : zIo T m (zone r g f) m' := by
  have e : zone r g f = (-1, r.2, g r.1) := if_neg ne
  rw [e]
  have c : m'.1 35 = m2.1 35 := fw.1 35 (by omega)
  exact ⟨zfk_t f2 (zfk_w fw), fun z => absurd rfl z, fun _ => ⟨by rw [c]; exact k2, z, zTx_k h2.1 (zfk_w fw), by rw [c]; exact h2.2.1, h2.2.2⟩⟩
theorem zs_29x (h : zPs T s m) (hB : zB (zv 36 37 42 m)) (hf : (m.1 37 4).toInt < 24) {g : Int32} (hs : g.toInt = 1 ∨ g.toInt = -1) {Q : zf_Me → Prop} (hq : ∀ m', zIo T m (zone (znum T s 0 3) (fun v => zaddF (zv 36 37 42 m) (g.toInt * v) 0) (zv 36 37 42 m)) m' → Q m') : wp_29 g m Q := by
  have e0 : (0 : Int32).toInt = 0 := rfl
  have bv := zB_v hB
  have s0 := h.2.2.1
  refine zs_40x (lo := 0) (hi := 3) h (fun x m2 f2 z2 hx c1 c2 => ⟨fun g1 => hq m2 ?_, fun g1 => ?_⟩)
  · exact zone_o f2 (hx.symm.trans g1) (c1 (hx.symm.trans g1)) (znum_f s0 (hx.symm.trans g1))
  · have ne : ¬ (znum T s 0 3).1 = -1 := fun z => g1 (hx.trans z)
    have c := c2 ne
    have b := (znum_b ne).2.1
    rw [show (znum T s 0 3).1 = x.toInt from hx.symm] at b
    have c4 : (m2.1 37 4).toInt = (m.1 37 4).toInt := congrFun (congrFun z2 5) 5
    have sm : (g * x).toInt = g.toInt * x.toInt := fb_mulI (by rcases hs with k | k <;> rw [k] <;> omega) (by rcases hs with k | k <;> rw [k] <;> omega)
    refine zs_66 zd36 (by omega) (fun m' z' f' => hq m' (zone_p f2 c.1 c.2.1 ne (zfr_mono f' (fun a ha => by omega)) ?_))
    rw [z', z2, sm, ← show x.toInt = (znum T s 0 3).1 from hx]
    rfl
theorem zs_30x (h : zPs T s m) (hB : zB (zv 36 37 42 m)) (hf : (m.1 37 5).toInt < 6) {Q : zf_Me → Prop} (hq : ∀ m', zIo T m (ztwo (znum T s 0 6) (fun a q2 => zone (znum T q2 0 9) (fun v => zaddP (zv 36 37 42 m) a v) (zv 36 37 42 m)) (zv 36 37 42 m)) m' → Q m') : wp_30 m Q := by
  have en : (-1 : Int32).toInt = -1 := rfl
  have bv := zB_v hB
  have s0 := h.2.2.1
  refine zs_40x (lo := 0) (hi := 6) h (fun x m2 f2 z2 hx c1 c2 => ⟨fun g => ?_, fun g => ⟨fun _ => hq m2 ?_, fun k => absurd en k⟩⟩)
  · have ne : ¬ (znum T s 0 6).1 = -1 := fun z => g (hx.trans z)
    have c := c2 ne
    have b := (znum_b ne).2.1
    have e2 : ztwo (znum T s 0 6) (fun a q2 => zone (znum T q2 0 9) (fun v => zaddP (zv 36 37 42 m) a v) (zv 36 37 42 m)) (zv 36 37 42 m) = zone (znum T (znum T s 0 6).2 0 9) (fun v => zaddP (zv 36 37 42 m) (znum T s 0 6).1 v) (zv 36 37 42 m) := if_neg ne
    rw [e2] at hq
    have s2 := c.2.1.2.2.1
    refine zs_40x (lo := 0) (hi := 9) c.2.1 (fun y m4 f4 z4 hy d1 d2 => ⟨fun g2 => hq m4 ?_, fun g2 => ?_⟩)
    · exact zone_o (zfk_t f2 f4) (hy.symm.trans g2) (d1 (hy.symm.trans g2)) (znum_f s2 (hy.symm.trans g2))
    · have ne2 : ¬ (znum T (znum T s 0 6).2 0 9).1 = -1 := fun z => g2 (hy.trans z)
      have d := d2 ne2
      have c5 : (m4.1 37 5).toInt = (m.1 37 5).toInt := (congrFun (congrFun z4 5) 6).trans (congrFun (congrFun z2 5) 6)
      refine zs_44 zd36 (by omega) (fun m' z' f' => hq m' (zone_p (zfk_t f2 f4) (d.1.trans c.1) d.2.1 ne2 (zfr_mono f' (fun a ha => by omega)) ?_))
      rw [z', z4, z2, show x.toInt = (znum T s 0 6).1 from hx, show y.toInt = (znum T (znum T s 0 6).2 0 9).1 from hy]
  · exact ztwo_o f2 (hx.symm.trans g) (c1 (hx.symm.trans g)) (znum_f s0 (hx.symm.trans g))
theorem zs_31x (h : zPs T s m) (hB : zB (zv 36 37 42 m)) {Q : zf_Me → Prop} (hq : ∀ m', zIo T m (ztwo (znum T s 0 (zv 36 37 42 m 5 6 - 1)) (fun a q2 => zone (znum T q2 0 99) (fun v => zU (zv 36 37 42 m) 4 a.toNat v) (zv 36 37 42 m)) (zv 36 37 42 m)) m' → Q m') : wp_31 m Q := by
  have e0 : (0 : Int32).toInt = 0 := rfl
  have e1 : (1 : Int32).toInt = 1 := rfl
  have en : (-1 : Int32).toInt = -1 := rfl
  have bv := zB_v hB
  have s0 := h.2.2.1
  have p6 : zv 36 37 42 m 5 6 = (m.1 37 5).toInt := rfl
  have sb := fb_subI (x := m.1 37 5) (y := 1) (by omega) (by omega)
  have hi : (m.1 37 5 - 1).toInt = zv 36 37 42 m 5 6 - 1 := by omega
  refine zs_40x (lo := 0) (hi := m.1 37 5 - 1) h (fun x m2 f2 z2 hx c1 c2 => ?_)
  rw [e0, hi] at hx c1 c2
  refine ⟨fun g => ?_, fun g => ⟨fun _ => hq m2 ?_, fun k => absurd en k⟩⟩
  · have ne : ¬ (znum T s 0 (zv 36 37 42 m 5 6 - 1)).1 = -1 := fun z => g (hx.trans z)
    have c := c2 ne
    have b := (znum_b ne).2.1
    have e2 : ztwo (znum T s 0 (zv 36 37 42 m 5 6 - 1)) (fun a q2 => zone (znum T q2 0 99) (fun v => zU (zv 36 37 42 m) 4 a.toNat v) (zv 36 37 42 m)) (zv 36 37 42 m) = zone (znum T (znum T s 0 (zv 36 37 42 m 5 6 - 1)).2 0 99) (fun v => zU (zv 36 37 42 m) 4 (znum T s 0 (zv 36 37 42 m 5 6 - 1)).1.toNat v) (zv 36 37 42 m) := if_neg ne
    rw [e2] at hq
    have s2 := c.2.1.2.2.1
    refine zs_40x (lo := 0) (hi := 99) c.2.1 (fun y m4 f4 z4 hy d1 d2 => ⟨fun g2 => hq m4 ?_, fun g2 => ?_⟩)
    · exact zone_o (zfk_t f2 f4) (hy.symm.trans g2) (d1 (hy.symm.trans g2)) (znum_f s2 (hy.symm.trans g2))
    · have ne2 : ¬ (znum T (znum T s 0 (zv 36 37 42 m 5 6 - 1)).2 0 99).1 = -1 := fun z => g2 (hy.trans z)
      have d := d2 ne2
      refine ⟨by omega, fun m5 q5 => hq m5 (zone_p (zfk_t f2 f4) (d.1.trans c.1) d.2.1 ne2 (by rw [q5]; exact zfr_u zfr_refl (by omega)) ?_)⟩
      rw [q5, zv_a4 zd36 (by omega), z4, z2, hx, show y.toInt = (znum T (znum T s 0 (zv 36 37 42 m 5 6 - 1)).2 0 99).1 from hy]
  · exact ztwo_o f2 (hx.symm.trans g) (c1 (hx.symm.trans g)) (znum_f s0 (hx.symm.trans g))
theorem zs_32x (h : zPs T s m) (hB : zB (zv 36 37 42 m)) {Q : zf_Me → Prop} (hq : ∀ m', zIo T m (zone (znum T s 0 (zv 36 37 42 m 5 6 - 1)) (fun v => zU (zv 36 37 42 m) 5 7 v) (zv 36 37 42 m)) m' → Q m') : wp_32 m Q := by
  have e0 : (0 : Int32).toInt = 0 := rfl
  have e1 : (1 : Int32).toInt = 1 := rfl
  have bv := zB_v hB
  have s0 := h.2.2.1
  have p6 : zv 36 37 42 m 5 6 = (m.1 37 5).toInt := rfl
  have sb := fb_subI (x := m.1 37 5) (y := 1) (by omega) (by omega)
  have hi : (m.1 37 5 - 1).toInt = zv 36 37 42 m 5 6 - 1 := by omega
  refine zs_40x (lo := 0) (hi := m.1 37 5 - 1) h (fun x m2 f2 z2 hx c1 c2 => ?_)
  rw [e0, hi] at hx c1 c2
  refine ⟨fun g => hq m2 ?_, fun g m3 q3 => ?_⟩
  · exact zone_o f2 (hx.symm.trans g) (c1 (hx.symm.trans g)) (znum_f s0 (hx.symm.trans g))
  · have ne : ¬ (znum T s 0 (zv 36 37 42 m 5 6 - 1)).1 = -1 := fun z => g (hx.trans z)
    have c := c2 ne
    refine hq m3 (zone_p f2 c.1 c.2.1 ne (by rw [q3]; exact zfr_u zfr_refl (by omega)) ?_)
    rw [q3, zv_w2 zd36, z2, hx]
theorem zs_33x (h : zPs T s m) (hB : zB (zv 36 37 42 m)) {Q : zf_Me → Prop} (hq : ∀ m', zIo T m (ztwo (znum T s 0 9) (fun a q2 => if zmay (zv 36 37 42 m) a then (-1, q2, zact (zv 36 37 42 m) a) else (s + 1, 0, zv 36 37 42 m)) (zv 36 37 42 m)) m' → Q m') : wp_33 m Q := by
  have s0 := h.2.2.1
  refine zs_40x (lo := 0) (hi := 9) h (fun x m2 f2 z2 hx c1 c2 => ⟨fun g => ?_, fun g => hq m2 ?_⟩)
  · have ne : ¬ (znum T s 0 9).1 = -1 := fun z => g (hx.trans z)
    have c := c2 ne
    have e2 : ztwo (znum T s 0 9) (fun a q2 => if zmay (zv 36 37 42 m) a then (-1, q2, zact (zv 36 37 42 m) a) else (s + 1, 0, zv 36 37 42 m)) (zv 36 37 42 m) = if zmay (zv 36 37 42 m) x.toInt then (-1, (znum T s 0 9).2, zact (zv 36 37 42 m) x.toInt) else (s + 1, 0, zv 36 37 42 m) := by
      rw [show x.toInt = (znum T s 0 9).1 from hx]
      exact if_neg ne
    rw [e2] at hq
    have B2 : zB (zv 36 37 42 m2) := by rw [z2]; exact hB
    refine zs_52 B2 (fun b hb => ⟨fun e m5 q5 => hq m5 ?_, fun e => zs_56 zd36 B2 (hb.mp e) (fun m' z' f' => hq m' ?_)⟩)
    · have n : ¬ zmay (zv 36 37 42 m) x.toInt := by rw [← z2]; exact zno hb e
      rw [if_neg n, q5]
      exact ⟨zfk_u f2 (by decide) (by decide), fun _ => by rw [zf_u3]; exact c.2.2, fun z => absurd (show s + 1 = -1 from z) (by omega)⟩
    · have n : zmay (zv 36 37 42 m) x.toInt := by rw [← z2]; exact hb.mp e
      have fw : zfr (fun a => 36 ≤ a ∧ a ≤ 42) m2 m' := zfr_mono f' (fun a ha => by omega)
      have c35 : m'.1 35 = m2.1 35 := fw.1 35 (by omega)
      rw [if_pos n]
      exact ⟨zfk_t f2 (zfk_w fw), fun z => absurd rfl z, fun _ => ⟨by rw [c35]; exact c.1, by rw [z', z2], zTx_k c.2.1.1 (zfk_w fw), by rw [c35]; exact c.2.1.2.1, c.2.1.2.2⟩⟩
  · exact ztwo_o f2 (hx.symm.trans g) (c1 (hx.symm.trans g)) (znum_f s0 (hx.symm.trans g))
theorem zs_34x (h : zPs T s m) (hB : zB (zv 36 37 42 m)) {w : Int32} (hw : 0 ≤ w.toInt ∧ w.toInt < 5) {Q : zf_Me → Prop} (hq : ∀ m', zIo T m (zone (znum T s (zlo w.toInt.toNat) (zhi w.toInt.toNat)) (fun v => zask (zv 36 37 42 m) w.toInt.toNat v) (zv 36 37 42 m)) m' → Q m') : wp_34 w m Q := by
  have s0 := h.2.2.1
  have lo := zk_lo w.toInt.toNat (by omega)
  refine ⟨fun g => by omega, fun g => ⟨fun g2 => ⟨⟨g, g2⟩, ⟨g, g2⟩, zs_40x h (fun x m2 f2 z2 hx c1 c2 => ?_)⟩, fun g2 => by omega⟩⟩
  rw [lo.1, lo.2] at hx c1 c2
  refine ⟨fun g3 => hq m2 ?_, fun g3 => ?_⟩
  · exact zone_o f2 (hx.symm.trans g3) (c1 (hx.symm.trans g3)) (znum_f s0 (hx.symm.trans g3))
  · have ne : ¬ (znum T s (zlo w.toInt.toNat) (zhi w.toInt.toNat)).1 = -1 := fun z => g3 (hx.trans z)
    have c := c2 ne
    refine zs_46 zd36 ⟨g, g2⟩ (fun m' z' f' => hq m' (zone_p f2 c.1 c.2.1 ne (zfr_mono f' (fun a ha => by omega)) ?_))
    rw [z', z2, hx]
theorem zs_27x (h : zPs T s m) (hB : zB (zv 36 37 42 m)) {Q : zf_Me → Prop} (hq : ∀ m', zIo T m (zitem T (zv 36 37 42 m) s) m' → Q m') : wp_27 m Q := by
  have e1 : (1 : Int32).toInt = 1 := rfl
  have em : (-1 : Int32).toInt = -1 := rfl
  have s0 := h.2.2.1
  have bv := zB_v hB
  have p5 : zv 36 37 42 m 5 5 = (m.1 37 4).toInt := rfl
  have p6 : zv 36 37 42 m 5 6 = (m.1 37 5).toInt := rfl
  refine zs_35x h (fun nf m' f z k => ⟨fun g => absurd em g, fun _ => hq m' ?_⟩) (fun x m2 hx fx f2 z2 k2 h2 => ⟨fun g => zs_28x hx (fun b hb => ?_), fun g => by omega⟩)
  · have e : zitem T (zv 36 37 42 m) s = (s + zfar T s 8, 0, zv 36 37 42 m) := if_pos nf
    rw [e]
    exact ⟨f, fun _ => k, fun z => absurd (show s + (zfar T s 8 : Nat) = -1 from z) (by omega)⟩
  rw [z2] at hb
  have n12 : ¬ zfind T s 12 = 12 := by omega
  refine ⟨fun e => ?_, fun e m21 q21 => hq m21 ?_⟩
  · have r := hb.mp e
    have ei : zitem T (zv 36 37 42 m) s = zarg T (zv 36 37 42 m2) x.toInt.toNat (s + zln x.toInt.toNat) := by
      unfold zitem
      rw [if_neg n12, fx, if_neg (fun z => z r), z2]
    rw [ei] at hq
    have B2 : zB (zv 36 37 42 m2) := by rw [z2]; exact hB
    have c4 : (m2.1 37 4).toInt = (m.1 37 4).toInt := congrFun (congrFun z2 5) 5
    have c5 : (m2.1 37 5).toInt = (m.1 37 5).toInt := congrFun (congrFun z2 5) 6
    have W : ∀ m' r', zarg T (zv 36 37 42 m2) x.toInt.toNat (s + zln x.toInt.toNat) = r' → zIo T m2 r' m' → Q m' := fun m' r' er o => hq m' (by rw [er]; exact zIo_t f2 k2 o)
    unfold zarg at W
    refine ⟨fun k => ?_, fun k => zs_29x h2 B2 (by have := (zroom_i.mp r).1 (Or.inl (by omega)); omega) (Or.inl rfl) (fun m' o => W m' _ (if_pos (by omega)) ?_), fun k => zs_29x h2 B2 (by have := (zroom_i.mp r).1 (Or.inr (by omega)); omega) (Or.inr rfl) (fun m' o => W m' _ (by rw [if_neg (by omega), if_pos (by omega)]) ?_), fun k => ?_, fun k => zs_30x h2 B2 (by have := (zroom_i.mp r).2.2 (by omega); omega) (fun m' o => W m' _ (by rw [if_neg (by omega), if_neg (by omega), if_neg (by omega), if_pos (by omega)]) o), fun k => zs_31x h2 B2 (fun m' o => W m' _ (by rw [if_neg (by omega), if_neg (by omega), if_neg (by omega), if_neg (by omega), if_pos (by omega)]) o), fun k => zs_32x h2 B2 (fun m' o => W m' _ (by rw [if_neg (by omega), if_neg (by omega), if_neg (by omega), if_neg (by omega), if_neg (by omega), if_pos (by omega)]) o), fun k => zs_33x h2 B2 (fun m' o => W m' _ (by rw [if_neg (by omega), if_neg (by omega), if_neg (by omega), if_neg (by omega), if_neg (by omega), if_neg (by omega), if_pos (by omega)]) o)⟩
    · have e7 : (7 : Int32).toInt = 7 := rfl
      have sb := fb_subI (x := x) (y := 7) (by omega) (by omega)
      have n7 : (x - 7).toInt.toNat = x.toInt.toNat - 7 := by omega
      refine zs_34x h2 B2 (by omega) (fun m' o => W m' _ (by rw [if_neg (by omega), if_neg (by omega), if_neg (by omega), if_neg (by omega), if_neg (by omega), if_neg (by omega), if_neg (by omega)]) ?_)
      rw [n7] at o
      exact o
    · have fe : (fun v => zaddF (zv 36 37 42 m2) ((1 : Int32).toInt * v) 0) = (fun v => zaddF (zv 36 37 42 m2) v 0) := by
        funext v
        rw [e1, Int.one_mul]
      rw [fe] at o
      exact o
    · have fe : (fun v => zaddF (zv 36 37 42 m2) ((-1 : Int32).toInt * v) 0) = (fun v => zaddF (zv 36 37 42 m2) (-v) 0) := by
        funext v
        rw [em, Int.neg_one_mul]
      rw [fe] at o
      exact o
    · have p := (zroom_i.mp r).2.1 (by omega)
      have sb := fb_subI (x := m2.1 37 4) (y := 1) (by omega) (by omega)
      refine ⟨by omega, fun m11 q11 => W m11 _ (by rw [if_neg (by omega), if_neg (by omega), if_pos (by omega)]) ?_⟩
      have f11 : zfr (fun a => 36 ≤ a ∧ a ≤ 42) m2 m11 := by rw [q11]; exact zfr_u zfr_refl (by omega)
      have c35 : m11.1 35 = m2.1 35 := f11.1 35 (by omega)
      refine ⟨zfk_w f11, fun z => absurd rfl z, fun _ => ⟨by rw [c35], ?_, zTx_k h2.1 (zfk_w f11), by rw [c35]; exact h2.2.1, h2.2.2⟩⟩
      have ep : (m2.1 37 4 - 1).toInt.toNat = (zv 36 37 42 m2 5 5 - 1).toNat := by
        rw [show zv 36 37 42 m2 5 5 = (m2.1 37 4).toInt from rfl]
        omega
      rw [q11, zv_a1 zd36 (by omega), ep, e1]
  · have ei : zitem T (zv 36 37 42 m) s = (s, 0, zv 36 37 42 m) := by
      unfold zitem
      rw [if_neg n12, fx, if_pos (zno hb e)]
    rw [ei, q21]
    exact ⟨zfk_u f2 (by decide) (by decide), fun _ => by rw [zf_u3]; exact h.2.1, fun z => absurd (show s = -1 from z) (by omega)⟩
theorem zs_26x {c r : Nat} {F : zS} (hF : zv 2 3 8 m = F) (hB : zB F) (hc : ¬ (35 ≤ c ∧ c ≤ 43)) (hz : 0 ≤ (m.1 c 2).toInt ∧ (m.1 c 2).toInt ≤ 160) {x : zHe} (hl : x.2.1 = (m.1 c 2).toInt) (el : ∀ i : Nat, (i : Int) < x.2.1 → zel x i = (Int64.toInt32 (m.2 r i)).toInt) {Q : zf_Me → Prop} (hq : ∀ m', zfT m m' → (m'.1 35 6).toInt = (zway (ztext x) 170 F 0 0).1 → ((zway (ztext x) 170 F 0 0).1 = -1 → (m'.1 35 5).toInt = (zway (ztext x) 170 F 0 0).2.1 ∧ zv 36 37 42 m' = (zway (ztext x) 170 F 0 0).2.2) → Q m') : wp_26 c r 2 3 8 m Q := by
  have e0 : (0 : Int32).toInt = 0 := rfl
  have e1 : (1 : Int32).toInt = 1 := rfl
  have em : (-1 : Int32).toInt = -1 := rfl
  have tl : (ztext x).1 = (m.1 c 2).toInt := hl
  refine zs_63_43 zd36 (by decide) (by decide) (by decide) (fun m4 z4 f4 m5 q5 => ?_)
  have f5 : zfT m m5 := by
    rw [q5]
    exact zfr_u (zfr_mono f4 (fun a ha => by omega)) (by omega)
  have s5 : (m5.1 35 2).toInt = (m.1 c 2).toInt := by
    rw [q5, zf_u3, f4.1 c (by omega)]
  have z5 : zv 36 37 42 m5 = F := by
    rw [q5, zv36_35, z4, hF]
  have lp77 : ∀ (k j : Nat) (v4 : Int32) (mj : zf_Me) (g : zS) (p : Int), 0 ≤ v4.toInt → v4.toInt ≤ p → 160 - p < k → 160 - p < j → zPs (ztext x) p mj → zB g → zv 36 37 42 mj = g → zfT m mj → (mj.1 35 5).toInt = v4.toInt → (mj.1 35 6).toInt = -1 → zway (ztext x) j g p v4.toInt = zway (ztext x) 170 F 0 0 → wq_26_77 c r 2 3 8 Q (k + 1) 1 v4 mj := by
    intro k
    induction k with
    | zero =>
      intro j v4 mj g p k0 k1 k2 k2' hp
      have := hp.2.2.2
      omega
    | succ k ih =>
      intro j v4 mj g p k0 k1 k2 k2' hp hg zg fj i5 i6 hA
      have pb := hp.2.2.2
      refine ⟨fun z => absurd z (by decide), fun _ => ⟨fun z => by omega, fun _ => zs_27x hp (by rw [zg]; exact hg) (fun m14 o m15 q15 => ?_)⟩⟩
      rw [zg] at o
      obtain ⟨j, rfl⟩ : ∃ i, j = i + 1 := ⟨j - 1, by omega⟩
      replace hA : (if ¬ (zitem (ztext x) g p).1 = -1 then ((zitem (ztext x) g p).1, v4.toInt + 1, g) else if ¬ (zitem (ztext x) g p).2.1 < (ztext x).1 then (-1, v4.toInt + 1, (zitem (ztext x) g p).2.2) else if ¬ zis (ztext x) (zitem (ztext x) g p).2.1 59 then ((zitem (ztext x) g p).2.1, v4.toInt + 1, g) else zway (ztext x) j (zitem (ztext x) g p).2.2 ((zitem (ztext x) g p).2.1 + 1) (v4.toInt + 1)) = zway (ztext x) 170 F 0 0 := hA
      have ig := zitem_g (T := ztext x) (f := g) (s := p) hg hp.2.2.1
      have s4 := fb_addI (x := v4) (y := 1) (by omega) (by omega)
      have i14 : m14.1 35 5 = mj.1 35 5 := o.1.2.2
      have s5 := fb_addI (x := m14.1 35 5) (y := 1) (by rw [i14]; omega) (by rw [i14]; omega)
      have f15 : zfT m m15 := by rw [q15]; exact zfr_u (zfr_trans fj (zfr_mono o.1.1 (fun a ha => by omega))) (by omega)
      have c5 : (m15.1 35 5).toInt = v4.toInt + 1 := by rw [q15, zf_u3, s5, i14]; omega
      have c6 : m15.1 35 6 = m14.1 35 6 := by rw [q15, zf_u4 (by decide)]
      have c2 : m15.1 35 2 = m14.1 35 2 := by rw [q15, zf_u4 (by decide)]
      have c3 : m15.1 35 3 = m14.1 35 3 := by rw [q15, zf_u4 (by decide)]
      have z15 : zv 36 37 42 m15 = zv 36 37 42 m14 := by rw [q15, zv36_35]
      have stop : ∀ mk : zf_Me, zfT m mk → (mk.1 35 6).toInt = (zway (ztext x) 170 F 0 0).1 → ((zway (ztext x) 170 F 0 0).1 = -1 → (mk.1 35 5).toInt = (zway (ztext x) 170 F 0 0).2.1 ∧ zv 36 37 42 mk = (zway (ztext x) 170 F 0 0).2.2) → wq_26_77 c r 2 3 8 Q (k + 1) 0 (v4 + 1) mk := fun mk h1 h2 h3 => ⟨fun _ => hq mk h1 h2 h3, fun z => absurd e0 z⟩
      by_cases er : (zitem (ztext x) g p).1 = -1
      · have o2 := o.2.2 er
        have o3 := ig.2 er
        have k6 : (m15.1 35 6).toInt = -1 := by rw [c6, o2.1]; exact i6
        rw [if_neg (fun z => z er)] at hA
        refine ⟨fun z => absurd k6 z, fun _ => ?_⟩
        have px : zPs (ztext x) (zitem (ztext x) g p).2.1 m15 := by
          have q := o2.2.2
          have f' : zfk m14 m14 := zfk_refl
          refine ⟨⟨by rw [c2]; exact q.1.1, q.1.2.1, fun i hi => ?_⟩, by rw [c3]; exact q.2.1, q.2.2⟩
          rw [q15, zf_u1 (by decide)]
          exact q.1.2.2 i hi
        have sz := px.1.1
        have pl := px.2.1
        refine ⟨fun ge => stop m15 f15 ?_ ?_, fun lt => ?_⟩
        · rw [if_pos (by omega)] at hA
          rw [← hA]
          exact k6
        · rw [if_pos (by omega)] at hA
          rw [← hA]
          exact fun _ => ⟨c5, by rw [z15]; exact o2.2.1⟩
        · rw [if_neg (by omega)] at hA
          refine zs_39x (c := 59) px (fun hz m18 f18 z18 h18 k18 => ⟨fun z => (nomatch z), fun _ => ?_⟩) (fun hz m18 f18 z18 k18 h18 => ⟨fun _ => stop m18 (zfr_trans f15 (zfr_mono f18.1 (fun a ha => by omega))) ?_ ?_, fun z => (nomatch z)⟩)
          · rw [if_neg (fun z => z hz)] at hA
            refine ih j (v4 + 1) m18 _ _ (by omega) (by omega) (by omega) (by omega) h18 o3.2.2 (by rw [z18, z15]; exact o2.2.1) (zfr_trans f15 (zfr_mono f18.1 (fun a ha => by omega))) (by rw [f18.2.2, c5]; omega) (by rw [k18]; exact k6) ?_
            rw [show (v4 + 1).toInt = v4.toInt + 1 by omega]
            exact hA
          · rw [if_pos (show ¬ zis (ztext x) (zitem (ztext x) g p).2.1 59 from hz)] at hA
            rw [← hA]
            exact k18
          · rw [if_pos (show ¬ zis (ztext x) (zitem (ztext x) g p).2.1 59 from hz)] at hA
            rw [← hA]
            exact fun z => absurd (show (zitem (ztext x) g p).2.1 = -1 from z) (by have := hp.2.2.1; omega)
      · have o2 := o.2.1 er
        rw [if_pos er] at hA
        have k6 : (m15.1 35 6).toInt = (zitem (ztext x) g p).1 := by rw [c6]; exact o2
        refine ⟨fun _ => stop m15 f15 ?_ ?_, fun z => absurd (k6.symm.trans (z.trans em)) er⟩
        · rw [← hA]
          exact k6
        · rw [← hA]
          exact fun z => absurd z er
  have lp : ∀ (k : Nat) (v : Int32) (mj : zf_Me), 0 ≤ v.toInt → v.toInt ≤ (m.1 c 2).toInt → (m.1 c 2).toInt - v.toInt < k → (mj.1 35 2).toInt = (m.1 c 2).toInt → zv 36 37 42 mj = F → zfT m mj → (∀ i : Nat, (i : Int) < v.toInt → (mj.1 43 i).toInt = zel x i) → wq_26_32 c r 2 3 8 Q k v mj := by
    intro k
    induction k with
    | zero => intro v mj k0 k1 k2; omega
    | succ k ih =>
      intro v mj k0 k1 k2 sj zj fj lj
      refine ⟨fun g m7 q7 m9 q9 m11 q11 => ?_, fun g => ⟨⟨by omega, by omega⟩, ⟨by omega, by omega⟩, fun m21 q21 => ?_⟩⟩
      · have z11 : zv 36 37 42 m11 = F := by rw [q11, zv36_35, q9, zv36_35, q7, zv36_35, zj]
        have f11 : zfT m m11 := by
          rw [q11, q9, q7]
          exact zfr_u (zfr_u (zfr_u fj (by omega)) (by omega)) (by omega)
        have h11 : zPs (ztext x) 0 m11 := by
          refine ⟨⟨?_, by omega, fun i hi => ?_⟩, ?_, Int.le_refl _, by omega⟩
          · rw [q11, zf_u4 (by decide), q9, zf_u4 (by decide), q7, zf_u4 (by decide), sj, tl]
          · rw [q11, zf_u1 (by decide), q9, zf_u1 (by decide), q7, zf_u1 (by decide)]
            exact lj i (by omega)
          · rw [q11, zf_u4 (by decide), q9, zf_u4 (by decide), q7, zf_u3]
            rfl
        refine ⟨165, lp77 164 170 0 m11 F 0 (by decide) (by decide) (by decide) (by decide) h11 hB z11 f11 ?_ ?_ rfl⟩
        · rw [q11, zf_u4 (by decide), q9, zf_u3]
        · rw [q11, zf_u3]
          rfl
      · have s := fb_addI (x := v) (y := 1) (by omega) (by omega)
        refine ih _ m21 (by omega) (by omega) (by omega) (by rw [q21, zf_u1 (by decide), sj]) ?_ (by rw [q21]; exact zfr_u fj (by omega)) (fun i hi => ?_)
        · rw [q21, show zv 36 37 42 (zf_u mj 43 v.toInt.toNat (Int64.toInt32 (mj.2 r v.toInt.toNat))) = zv 36 37 42 mj from zv_fr (zf_u1 (by decide)) (fun a _ _ => zf_u1 (by omega)) (zf_u1 (by decide))]
          exact zj
        · rw [q21]
          by_cases e : i = v.toInt.toNat
          · rw [e, zf_u3, fj.2]
            exact (el _ (by omega)).symm
          · rw [zf_u4 e]
            exact lj i (by omega)
  exact ⟨162, lp 162 0 m5 (by decide) (by exact hz.1) (by show (m.1 c 2).toInt - 0 < _; omega) s5 z5 f5 (fun i hi => absurd (show (i : Int) < 0 from hi) (by omega))⟩
theorem zX_82 (hJ : JX m) {s : Int32} {Q : Int32 → zf_Me → Prop} (h0 : ¬ zK (zhC m) s.toInt = 0 → ∀ v m', zq m m' → v.toInt = -(zK (zhC m) s.toInt) → Q v m') (h1 : zK (zhC m) s.toInt = 0 → ∀ v m', zfr (fun a => a = 0 ∨ 2 ≤ a ∧ a ≤ 8 ∨ 16 ≤ a ∧ a ≤ 43 ∨ a = 46) m m' → m'.1 0 9 = m.1 0 9 → v.toInt = (zN82 (zhC m) (zv 2 3 8 m) s.toInt).1 → zv 2 3 8 m' = (zN82 (zhC m) (zv 2 3 8 m) s.toInt).2.1 → (m'.1 0 10).toInt = (zN82 (zhC m) (zv 2 3 8 m) s.toInt).2.2 → Q v m') : wp_82 s m Q := by
  have em : (-1 : Int32).toInt = -1 := rfl
  refine zs_111x (fun x h => ⟨fun e => ?_, fun ne => zs_109 (by have := zK_b (h := zhC m) (s := s.toInt); omega) (fun m' f => h0 (by rw [← h]; exact ne) _ m' (zfr_mono f (fun a ha => by omega)) ?_)⟩)
  · have hk := h.symm.trans e
    obtain ⟨g, rr⟩ := zK_0.mp hk
    have c := zhC_c (m := m) (s := s.toInt.toNat) (by omega)
    have l := zhC_l (m := m) (s := s.toInt.toNat) (by omega) (by rw [← c]; exact rr)
    have u : zhC m s.toInt.toNat = ((m.1 (47 + 2 * s.toInt.toNat) 1).toInt, (m.1 (47 + 2 * s.toInt.toNat) 2).toInt, fun (k : Nat) => if (k : Int) < (m.1 (47 + 2 * s.toInt.toNat) 2).toInt then m.2 (48 + 2 * s.toInt.toNat) k else 0) := (zhC_at (m := m) (s := s.toInt.toNat) (by omega)).trans (if_pos (by rw [← c]; exact rr))
    have H1 := h1 hk
    have N : zN82 (zhC m) (zv 2 3 8 m) s.toInt = if (zway (ztext (zhC m s.toInt.toNat)) 170 (zv 2 3 8 m) 0 0).1 = -1 then ((zway (ztext (zhC m s.toInt.toNat)) 170 (zv 2 3 8 m) 0 0).2.1, (zway (ztext (zhC m s.toInt.toNat)) 170 (zv 2 3 8 m) 0 0).2.2, -1) else (-6, zv 2 3 8 m, (zway (ztext (zhC m s.toInt.toNat)) 170 (zv 2 3 8 m) 0 0).1) := if_neg (fun z => z hk)
    rw [N] at H1
    refine ⟨g, zs_26x rfl hJ.1 (by omega) (hJ.2.2 _ (by omega)) (x := zhC m s.toInt.toNat) l (fun i hi => ?_) (fun m6 f6 a6 b6 m7 q7 => ?_)⟩
    · unfold zel
      rw [u]
      show (Int64.toInt32 (if (i : Int) < _ then _ else _)).toInt = _
      rw [l] at hi
      rw [if_pos hi]
    · have f7 : zfr (fun a => a = 0 ∨ (35 ≤ a ∧ a ≤ 43)) m m7 := by
        rw [q7]
        exact zfr_u (zfr_mono f6 (fun a ha => Or.inr ha)) (Or.inl rfl)
      have n7 : m7.1 0 9 = m.1 0 9 := by rw [q7, zf_u4 (by decide), f6.1 0 (by omega)]
      have t7 : (m7.1 0 10).toInt = (zway (ztext (zhC m s.toInt.toNat)) 170 (zv 2 3 8 m) 0 0).1 := by rw [q7, zf_u3]; exact a6
      have z7 : zv 2 3 8 m7 = zv 2 3 8 m := zv_of f7 (w := 2) (y := 3) (r := 8) (by omega) (fun a _ _ => by omega) (by omega)
      refine ⟨fun ok => ?_, fun no => ?_⟩
      · have k1 : (zway (ztext (zhC m s.toInt.toNat)) 170 (zv 2 3 8 m) 0 0).1 = -1 := t7.symm.trans ok
        have b := b6 k1
        rw [if_pos k1] at H1
        refine zs_63_43 zd2 (by decide) (by decide) (by decide) (fun m12 z12 f12 => H1 _ m12 (zfr_trans (zfr_mono f7 (fun a ha => by omega)) (zfr_mono f12 (fun a ha => by omega))) (by rw [f12.1 0 (by omega)]; exact n7) ?_ ?_ ?_)
        · show (m12.1 35 5).toInt = _
          rw [f12.1 35 (by omega), q7, zf_u1 (by decide)]
          exact b.1
        · rw [z12, q7, show zv 36 37 42 (zf_u m6 0 10 (m6.1 35 6)) = zv 36 37 42 m6 from zv_fr (zf_u1 (by decide)) (fun a _ _ => zf_u1 (by omega)) (zf_u1 (by decide))]
          exact b.2
        · rw [f12.1 0 (by omega)]
          exact ok
      · have k1 : ¬ (zway (ztext (zhC m s.toInt.toNat)) 170 (zv 2 3 8 m) 0 0).1 = -1 := fun z => no (t7.trans z)
        rw [if_neg k1] at H1
        exact zs_109 (by decide) (fun m' f => H1 _ m' (zfr_trans (zfr_mono f7 (fun a ha => by omega)) (zfr_mono f (fun a ha => by omega))) (by rw [f.1 0 (by omega)]; exact n7) rfl (by rw [zv_of f (w := 2) (y := 3) (r := 8) (by omega) (fun a _ _ => by omega) (by omega)]; exact z7) (by rw [f.1 0 (by omega)]; exact t7))
  · rw [← h]
    exact fb_negI (by have := zK_b (h := zhC m) (s := s.toInt); omega)
end
