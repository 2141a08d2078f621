/-! part 8b: the reference reads an ITEM, a WAY, exactly -/
def zapp (f : zS) (w a b : Int) : zS := if w = 0 then zaddF f a 0 else if w = 1 then zaddF f (-a) 0 else if w = 2 then zU f 1 (f 5 5 - 1).toNat 1 else if w = 3 then zaddP f a b else if w = 4 then zU f 4 a.toNat b else if w = 5 then zU f 5 7 a else if w = 11 then zact f a else zask f (w - 6).toNat a
def zIq (T : zT) (m : zf_Me) (r : zIt) (b : Bool) (m' : zf_Me) : Prop := zgP m m' ∧ zQx T m' ∧ (¬ r.1 = -1 → b = false ∧ (m'.1 63 33).toInt = r.1) ∧ (r.1 = -1 → b = true ∧ zr m' = r.2.2 ∧ (m'.1 63 30).toInt = r.2.1)
theorem znum_nb {T : zT} {q lo hi : Int} (h : ¬ zis T q 32) : znum T q lo hi = (-1, q) := if_pos h
theorem zarg_nb {T : zT} {f : zS} {w : Nat} {q : Int} (hw : ¬ w = 2) (h : ¬ zis T q 32) : zarg T f w q = (q, 0, f) := by
  unfold zarg
  simp only [znum_nb h]
  have z1 : ∀ (g : Int → zS), zone (-1, q) g f = (q, 0, f) := fun g => if_pos rfl
  have z2 : ∀ (g : Int → Int → zIt), ztwo (-1, q) g f = (q, 0, f) := fun g => if_pos rfl
  simp only [z1, z2, if_neg hw]
  repeat' split
  all_goals rfl
section
variable {m : zf_Me} {T : zT} {s : Int}
theorem zgN_P {m' : zf_Me} (h : zgN m m') : zgP m m' := zgr_mono h (fun a k z => by omega)
theorem zgN_z {m' : zf_Me} (h : zgN m m') : zr m' = zr m := zr_of h (fun a k z => by omega)
theorem zgN_x {m' : zf_Me} (h : zQx T m) (f : zgN m m') : zQx T m' := zQx_g h f (fun a k z => by omega)
/-- a fault -/
theorem zIq_f {m' : zf_Me} {r : zIt} (h : zQx T m) (f : zgN m m') (hr : 0 ≤ r.1) (hw : (m'.1 63 33).toInt = r.1) : zIq T m r false m' := ⟨zgN_P f, zgN_x h f, fun _ => ⟨rfl, hw⟩, fun z => absurd z (by omega)⟩
theorem zIq_t {m2 m' : zf_Me} {r : zIt} {b : Bool} (f : zgP m m2) (h : zIq T m2 r b m') : zIq T m r b m' := ⟨zgr_trans f h.1, h.2⟩
theorem zs_144x {F80 : Int32 → Int32 → zf_Me → Prop} {w i : Int32} {p : Int} (hB : zB (zr m)) (h : zQs T p m) (hw : 0 ≤ w.toInt ∧ w.toInt < 12 ∧ ¬ w.toInt = 2) (hi : 0 ≤ i.toInt ∧ i.toInt < 2) {Q : Bool → zf_Me → Prop} (h0 : ¬ zdg T p → ∀ m', zgN m m' → (m'.1 63 33).toInt = p → Q false m') (h1 : zdg T p → ¬ zok (zr m) w.toInt i.toInt (zdgs T p).1 → ∀ m', zgN m m' → (m'.1 63 33).toInt = p → Q false m') (h2 : zdg T p → zok (zr m) w.toInt i.toInt (zdgs T p).1 → ∀ m', zgN m m' → zQs T (zdgs T p).2 m' → (m'.1 78 i.toInt.toNat).toInt = (zdgs T p).1 → (∀ j, ¬ j = i.toInt.toNat → m'.1 78 j = m.1 78 j) → F80 w (i + 1) m') : wq_159_144 F80 w i m Q := by
  refine zs_157x h (fun d m38 f38 q38 v38 r38 => ⟨fun _ => ?_, fun z => (nomatch z)⟩) (fun d m38 f38 w38 => ⟨fun z => (nomatch z), fun _ => h0 d m38 f38 w38⟩)
  have z38 : zr m38 = zr m := zgN_z f38
  refine zs_158x (by rw [z38]; exact hB) hw (fun ok => ⟨fun _ => ⟨hi, fun m41 q41 => ?_⟩, fun z => (nomatch z)⟩) (fun no => ⟨fun z => (nomatch z), fun _ m' q' => ?_⟩)
  · rw [z38, v38] at ok
    have f41 : zgN m m41 := by rw [q41]; exact zgr_u f38 (by omega)
    exact h2 d ok m41 f41 (zQs_e (zgN_x h.1 f41) (by rw [q41, zf_u1 (by decide)]; exact q38.2.1) q38.2.2.1 q38.2.2.2) (by rw [q41, zf_u3]; exact v38) (fun j hj => by rw [q41, zf_u4 hj]; exact r38 j)
  · rw [z38, v38] at no
    rw [q']
    exact h1 d no _ (zgr_u f38 (by omega)) (by rw [zf_u3]; exact h.2.1)
theorem zs_appx (hB : zB (zr m)) {w : Int32} (hw : 0 ≤ w.toInt ∧ w.toInt < 12) (ho : zoq (zr m) w.toInt) (n0 : ¬ w.toInt = 2 → zgd m w.toInt 0) (n1 : w.toInt = 3 ∨ w.toInt = 4 → zgd m w.toInt 1) {Q : Bool → zf_Me → Prop} (hq : ∀ m', zgc m m' → zr m' = zapp (zr m) w.toInt (m.1 78 0).toInt (m.1 78 1).toInt → Q true m') : (((w.toInt < 0 ∨ w.toInt > 11) → wp_149 (w - 6) (m.1 78 0) m (fun x11 m12 => Q true m12)) ∧ (w.toInt = 0 → wp_140 (m.1 78 0) 0 m (fun x13 m14 => Q true m14)) ∧ (w.toInt = 1 → wp_140 (-(m.1 78 0)) 0 m (fun x15 m16 => Q true m16)) ∧ (w.toInt = 2 → ((0 ≤ (Int32.toInt ((m.1 63 0) - 1)) ∧ (Int32.toInt ((m.1 63 0) - 1)) < (24 : Int)) ∧ ∀ m17, m17 = zf_u m 66 (Int32.toInt ((m.1 63 0) - 1)).toNat 1 → Q true m17)) ∧ (w.toInt = 3 → wp_141 (m.1 78 0) (m.1 78 1) m (fun x19 m20 => Q true m20)) ∧ (w.toInt = 4 → ((0 ≤ (Int32.toInt (m.1 78 0)) ∧ (Int32.toInt (m.1 78 0)) < (6 : Int)) ∧ ∀ m21, m21 = zf_u m 69 (Int32.toInt (m.1 78 0)).toNat (m.1 78 1) → Q true m21)) ∧ (w.toInt = 5 → (∀ m23, m23 = zf_u m 63 2 (m.1 78 0) → Q true m23)) ∧ (w.toInt = 6 → wp_149 (w - 6) (m.1 78 0) m (fun x25 m26 => Q true m26)) ∧ (w.toInt = 7 → wp_149 (w - 6) (m.1 78 0) m (fun x27 m28 => Q true m28)) ∧ (w.toInt = 8 → wp_149 (w - 6) (m.1 78 0) m (fun x29 m30 => Q true m30)) ∧ (w.toInt = 9 → wp_149 (w - 6) (m.1 78 0) m (fun x31 m32 => Q true m32)) ∧ (w.toInt = 10 → wp_149 (w - 6) (m.1 78 0) m (fun x33 m34 => Q true m34)) ∧ (w.toInt = 11 → wp_169 (m.1 78 0) m (fun m36 => Q true m36))) := by
  have e1 : (1 : Int32).toInt = 1 := rfl
  have e0 : (0 : Int32).toInt = 0 := rfl
  have e6 : (6 : Int32).toInt = 6 := rfl
  have b := zB_r hB
  have pf : zr m 5 5 = (m.1 63 0).toInt := rfl
  have pp : zr m 5 6 = (m.1 63 1).toInt := rfl
  unfold zapp at hq
  have w6 : 6 ≤ w.toInt → w.toInt ≤ 10 → wp_149 (w - 6) (m.1 78 0) m (fun x m' => Q true m') := fun g1 g2 => by
    have s := fb_subI (x := w) (y := 6) (by omega) (by omega)
    refine zs_149 (by omega) (fun x m' _ z f => hq m' f ?_)
    rw [if_neg (by omega), if_neg (by omega), if_neg (by omega), if_neg (by omega), if_neg (by omega), if_neg (by omega), if_neg (by omega), z, show (w - 6).toInt = w.toInt - 6 by omega]
  refine ⟨fun z => by omega, fun z => ?_, fun z => ?_, fun z => ?_, fun z => ?_, fun z => ?_, fun z => ?_, fun z => w6 (by omega) (by omega), fun z => w6 (by omega) (by omega), fun z => w6 (by omega) (by omega), fun z => w6 (by omega) (by omega), fun z => w6 (by omega) (by omega), fun z => ?_⟩
  · have nf := ho.1 (Or.inl z)
    rw [pf] at nf
    exact zs_140 (by omega) (fun m' y f => hq m' f (by rw [if_pos z, y]; rfl))
  · have g := n0 (by omega)
    have nf := ho.1 (Or.inr z)
    rw [pf] at nf
    have ng := fb_negI (x := m.1 78 0) (by omega)
    exact zs_140 (by omega) (fun m' y f => hq m' f (by rw [if_neg (by omega), if_pos z, y, ng]; rfl))
  · have nf := ho.2.1 z
    rw [pf] at nf
    have s := fb_subI (x := m.1 63 0) (y := 1) (by omega) (by omega)
    refine ⟨by omega, fun m17 q17 => hq m17 ?_ ?_⟩
    · rw [q17]
      exact zgr_u zgr_refl (by omega)
    · rw [q17, zr_a1 (by omega), if_neg (by omega), if_neg (by omega), if_pos z, pf, e1]
      congr 1
      omega
  · have g0 := n0 (by omega)
    have np := ho.2.2 z
    rw [pp] at np
    exact zs_141 (by omega) (fun m' y f => hq m' f (by rw [if_neg (by omega), if_neg (by omega), if_neg (by omega), if_pos z, y]))
  · have g0 := n0 (by omega)
    have k0 := g0.2.2.2.2.2.1 z (by decide)
    rw [pp] at k0
    refine ⟨by omega, fun m21 q21 => hq m21 ?_ ?_⟩
    · rw [q21]
      exact zgr_u zgr_refl (by omega)
    · rw [q21, zr_a4 (by omega), if_neg (by omega), if_neg (by omega), if_neg (by omega), if_neg (by omega), if_pos z]
  · intro m23 q23
    refine hq m23 ?_ ?_
    · rw [q23]
      exact zgr_u zgr_refl (by omega)
    · rw [q23, zr_w2, if_neg (by omega), if_neg (by omega), if_neg (by omega), if_neg (by omega), if_neg (by omega), if_pos z]
  · have g0 := n0 (by omega)
    have k0 := g0.2.2.2.2.2.2.2.2 z
    exact zs_169 hB ⟨g0.1, k0.1⟩ k0.2 (fun m' y f => hq m' f (by rw [if_neg (by omega), if_neg (by omega), if_neg (by omega), if_neg (by omega), if_neg (by omega), if_neg (by omega), if_pos z, y]))
/-- behind all numbers -/
theorem zs_80c (hB : zB (zr m)) {p : Int} (h : zQs T p m) {w v : Int32} (hw : 0 ≤ w.toInt ∧ w.toInt < 12) (hv : (znl.getD w.toInt.toNat 0).toInt ≤ v.toInt) (ho : zoq (zr m) w.toInt) (n0 : ¬ w.toInt = 2 → zgd m w.toInt 0) (n1 : w.toInt = 3 ∨ w.toInt = 4 → zgd m w.toInt 1) {Q : Bool → zf_Me → Prop} {n : Nat} (hq : ∀ m', zIq T m (-1, p, zapp (zr m) w.toInt (m.1 78 0).toInt (m.1 78 1).toInt) true m' → Q true m') : wq_159_80 Q (n + 1) w v m := by
  have en : (m.1 77 w.toInt.toNat).toInt = (znl.getD w.toInt.toNat 0).toInt := by rw [h.1.1.2 w.toInt.toNat (by omega)]
  refine ⟨by omega, fun _ => zs_appx hB hw ho n0 n1 (fun m' f z => hq m' ?_), fun g => by rw [en] at g; omega⟩
  have c30 : m'.1 63 30 = m.1 63 30 := f.1 63 30 (by omega)
  exact ⟨zgr_mono f (fun a k z => Or.inl z), zQx_g h.1 f (fun a k z => by omega), fun z => absurd rfl z, fun _ => ⟨rfl, z, by rw [c30]; exact h.2.1⟩⟩
/-- the first number -/
theorem zs_80a (hB : zB (zr m)) {p : Int} (h : zQs T p m) {w : Int32} (hw : 0 ≤ w.toInt ∧ w.toInt < 12 ∧ ¬ w.toInt = 2) (hN : 1 ≤ (znl.getD w.toInt.toNat 0).toInt) {Q : Bool → zf_Me → Prop} {n : Nat} (h0 : ¬ zdg T p → ∀ m', zgN m m' → (m'.1 63 33).toInt = p → Q false m') (h1 : zdg T p → ¬ zok (zr m) w.toInt 0 (zdgs T p).1 → ∀ m', zgN m m' → (m'.1 63 33).toInt = p → Q false m') (h2 : zdg T p → zok (zr m) w.toInt 0 (zdgs T p).1 → ∀ m', zgN m m' → zQs T (zdgs T p).2 m' → (m'.1 78 0).toInt = (zdgs T p).1 → wq_159_80 Q n w 1 m') : wq_159_80 Q (n + 1) w 0 m := by
  have e0 : (0 : Int32).toInt = 0 := rfl
  have en : (m.1 77 w.toInt.toNat).toInt = (znl.getD w.toInt.toNat 0).toInt := by rw [h.1.1.2 w.toInt.toNat (by omega)]
  refine ⟨by omega, fun g => by rw [en] at g; omega, fun _ => ⟨fun _ => ?_, fun g => absurd g (by decide)⟩⟩
  exact zs_144x hB h hw (by decide) h0 h1 (fun d ok m' f q v _ => h2 d ok m' f q v)
/-- the second number -/
theorem zs_80b (hB : zB (zr m)) {p : Int} (h : zQs T p m) {w : Int32} (hw : 0 ≤ w.toInt ∧ w.toInt < 12 ∧ ¬ w.toInt = 2) (hN : 2 ≤ (znl.getD w.toInt.toNat 0).toInt) {Q : Bool → zf_Me → Prop} {n : Nat} (hb : ¬ zis T p 32 → ∀ m', zgN m m' → (m'.1 63 33).toInt = p → Q false m') (h0 : zis T p 32 → ¬ zdg T (p + 1) → ∀ m', zgN m m' → (m'.1 63 33).toInt = p + 1 → Q false m') (h1 : zis T p 32 → zdg T (p + 1) → ¬ zok (zr m) w.toInt 1 (zdgs T (p + 1)).1 → ∀ m', zgN m m' → (m'.1 63 33).toInt = p + 1 → Q false m') (h2 : zis T p 32 → zdg T (p + 1) → zok (zr m) w.toInt 1 (zdgs T (p + 1)).1 → ∀ m', zgN m m' → zQs T (zdgs T (p + 1)).2 m' → (m'.1 78 1).toInt = (zdgs T (p + 1)).1 → m'.1 78 0 = m.1 78 0 → wq_159_80 Q n w 2 m') : wq_159_80 Q (n + 1) w 1 m := by
  have e1 : (1 : Int32).toInt = 1 := rfl
  have en : (m.1 77 w.toInt.toNat).toInt = (znl.getD w.toInt.toNat 0).toInt := by rw [h.1.1.2 w.toInt.toNat (by omega)]
  have et := h.1.2.2.1
  have pp := h.2.1
  have no : ¬ zis T p 32 → wp_153 (m.1 63 30) m (fun b m' => Q b m') := fun nz m' q' => by
    rw [q']
    exact hb nz _ (zgr_u zgr_refl (by omega)) (by rw [zf_u3]; exact pp)
  refine ⟨by omega, fun g => by rw [en] at g; omega, fun _ => ⟨fun g => absurd g (by decide), fun _ => ⟨fun g => no (fun z => by have := z.1; omega), fun g => ?_⟩⟩⟩
  have at1 := zQs_at h.1 (v := m.1 63 30) (by have := h.2.2.1; omega) (by omega)
  have l := at1.2
  rw [pp] at l
  refine ⟨at1.1, fun e m47 q47 => ?_, fun ne => no (fun z => ne (l.trans z.2))⟩
  have hz : zis T p 32 := ⟨by omega, l.symm.trans e⟩
  have p0 := h.2.2.1
  have sa := fb_addI (x := m.1 63 30) (y := 1) (by omega) (by have := h.1.2.2.2.1; omega)
  have f47 : zgN m m47 := by rw [q47]; exact zgr_u zgr_refl (by omega)
  have z47 : zr m47 = zr m := zgN_z f47
  have h47 : zQs T (p + 1) m47 := zQs_e (zgN_x h.1 f47) (by rw [q47, zf_u3]; omega) (by omega) (by omega)
  refine zs_144x (by rw [z47]; exact hB) h47 hw (by decide) (fun d m' f v => h0 hz d m' (zgr_trans f47 f) v) (fun d ok m' f v => h1 hz d (by rw [z47] at ok; exact ok) m' (zgr_trans f47 f) v) (fun d ok m' f q v r => h2 hz d (by rw [z47] at ok; exact ok) m' (zgr_trans f47 f) q v (by rw [r 0 (by decide), q47, zf_u1 (by decide)]))
/-- a word with one number -/
theorem zs_one {q lo hi : Int} {g : Int → zS} (hB : zB (zr m)) (h : zQs T (q + 1) m) (q0 : 0 ≤ q) (hz : zis T q 32) {w : Int32} (hw : 0 ≤ w.toInt ∧ w.toInt < 12 ∧ ¬ w.toInt = 2 ∧ ¬ (w.toInt = 3 ∨ w.toInt = 4)) (hN : (znl.getD w.toInt.toNat 0).toInt = 1) (ho : zoq (zr m) w.toInt) (hok : ∀ v, 0 ≤ v → v ≤ 99 → (zok (zr m) w.toInt 0 v ↔ lo ≤ v ∧ v ≤ hi)) (ha : ∀ v b, zapp (zr m) w.toInt v b = g v) {Q : Bool → zf_Me → Prop} (hq : ∀ b m', zIq T m (zone (znum T q lo hi) g (zr m)) b m' → Q b m') : wq_159_80 Q 3 w 0 m := by
  have e1 : (1 : Int32).toInt = 1 := rfl
  refine zs_80a hB h ⟨hw.1, hw.2.1, hw.2.2.1⟩ (by omega) (fun d m' f v => hq _ _ (zIq_f h.1 f ?_ ?_)) (fun d ok m' f v => hq _ _ (zIq_f h.1 f ?_ ?_)) (fun d ok m' f q1 v => ?_)
  · have N : znum T q lo hi = (-1, q + 1) := by
      unfold znum
      rw [if_neg (fun z => z hz), if_pos d]
    rw [N]
    show 0 ≤ q + 1
    omega
  · have N : znum T q lo hi = (-1, q + 1) := by
      unfold znum
      rw [if_neg (fun z => z hz), if_pos d]
    rw [N]
    exact v
  · have b := zdgs_b d
    have nk : ¬ (lo ≤ (zdgs T (q + 1)).1 ∧ (zdgs T (q + 1)).1 ≤ hi) := fun z => ok ((hok _ b.1 b.2.1).mpr z)
    have N : znum T q lo hi = (-1, q + 1) := by
      unfold znum
      rw [if_neg (fun z => z hz), if_neg (fun z => z d), if_pos (by omega)]
    rw [N]
    show 0 ≤ q + 1
    omega
  · have b := zdgs_b d
    have nk : ¬ (lo ≤ (zdgs T (q + 1)).1 ∧ (zdgs T (q + 1)).1 ≤ hi) := fun z => ok ((hok _ b.1 b.2.1).mpr z)
    have N : znum T q lo hi = (-1, q + 1) := by
      unfold znum
      rw [if_neg (fun z => z hz), if_neg (fun z => z d), if_pos (by omega)]
    rw [N]
    exact v
  · have b := zdgs_b d
    have k := (hok _ b.1 b.2.1).mp ok
    have z' : zr m' = zr m := zgN_z f
    have N : zone (znum T q lo hi) g (zr m) = (-1, (zdgs T (q + 1)).2, g (zdgs T (q + 1)).1) := by
      have N : znum T q lo hi = zdgs T (q + 1) := by
        unfold znum
        rw [if_neg (fun z => z hz), if_neg (fun z => z d), if_neg (by omega)]
      rw [N]
      exact if_neg (by omega)
    rw [N] at hq
    refine zs_80c (by rw [z']; exact hB) q1 ⟨hw.1, hw.2.1⟩ (by omega) (by rw [z']; exact ho) (fun _ => ⟨by rw [v]; exact b.1, by rw [v]; exact b.2.1, by rw [z', v]; exact ok⟩) (fun z => absurd z hw.2.2.2) (fun m2 o => hq true m2 ?_)
    rw [z', ha, v] at o
    exact zIq_t (zgN_P f) o
/-- a word with two numbers -/
theorem zs_two {q hi hi2 : Int} {g : Int → Int → zS} (hB : zB (zr m)) (h : zQs T (q + 1) m) (q0 : 0 ≤ q) (hz : zis T q 32) {w : Int32} (hw : w.toInt = 3 ∨ w.toInt = 4) (hN : (znl.getD w.toInt.toNat 0).toInt = 2) (ho : zoq (zr m) w.toInt) (hok : ∀ v, 0 ≤ v → v ≤ 99 → (zok (zr m) w.toInt 0 v ↔ v ≤ hi)) (hok2 : ∀ v, 0 ≤ v → v ≤ 99 → (zok (zr m) w.toInt 1 v ↔ v ≤ hi2)) (ha : ∀ v b, zapp (zr m) w.toInt v b = g v b) {Q : Bool → zf_Me → Prop} (hq : ∀ b m', zIq T m (ztwo (znum T q 0 hi) (fun a q2 => zone (znum T q2 0 hi2) (fun v => g a v) (zr m)) (zr m)) b m' → Q b m') : wq_159_80 Q 3 w 0 m := by
  have e2 : (2 : Int32).toInt = 2 := rfl
  refine zs_80a hB h (by omega) (by omega) (fun d m' f v => hq _ _ (zIq_f h.1 f ?_ ?_)) (fun d ok m' f v => hq _ _ (zIq_f h.1 f ?_ ?_)) (fun d ok m' f q1 v => ?_)
  · have N : znum T q 0 hi = (-1, q + 1) := by
      unfold znum
      rw [if_neg (fun z => z hz), if_pos d]
    rw [N]
    show 0 ≤ q + 1
    omega
  · have N : znum T q 0 hi = (-1, q + 1) := by
      unfold znum
      rw [if_neg (fun z => z hz), if_pos d]
    rw [N]
    exact v
  · have b := zdgs_b d
    have nk : ¬ (zdgs T (q + 1)).1 ≤ hi := fun z => ok ((hok _ b.1 b.2.1).mpr z)
    have N : znum T q 0 hi = (-1, q + 1) := by
      unfold znum
      rw [if_neg (fun z => z hz), if_neg (fun z => z d), if_pos (by omega)]
    rw [N]
    show 0 ≤ q + 1
    omega
  · have b := zdgs_b d
    have nk : ¬ (zdgs T (q + 1)).1 ≤ hi := fun z => ok ((hok _ b.1 b.2.1).mpr z)
    have N : znum T q 0 hi = (-1, q + 1) := by
      unfold znum
      rw [if_neg (fun z => z hz), if_neg (fun z => z d), if_pos (by omega)]
    rw [N]
    exact v
  · have b := zdgs_b d
    have k := (hok _ b.1 b.2.1).mp ok
    have z' : zr m' = zr m := zgN_z f
    have R : ztwo (znum T q 0 hi) (fun a q2 => zone (znum T q2 0 hi2) (fun v => g a v) (zr m)) (zr m) = zone (znum T (zdgs T (q + 1)).2 0 hi2) (fun v => g (zdgs T (q + 1)).1 v) (zr m) := by
      have N : znum T q 0 hi = zdgs T (q + 1) := by
        unfold znum
        rw [if_neg (fun z => z hz), if_neg (fun z => z d), if_neg (by omega)]
      rw [N]
      exact if_neg (by omega)
    rw [R] at hq
    have p0 := q1.2.2.1
    refine zs_80b (by rw [z']; exact hB) q1 (by omega) (by omega) (fun n2 m2 f2 v2 => hq _ _ (zIq_t (zgN_P f) (zIq_f q1.1 f2 ?_ ?_))) (fun i2 d2 m2 f2 v2 => hq _ _ (zIq_t (zgN_P f) (zIq_f q1.1 f2 ?_ ?_))) (fun i2 d2 ok2 m2 f2 v2 => hq _ _ (zIq_t (zgN_P f) (zIq_f q1.1 f2 ?_ ?_))) (fun i2 d2 ok2 m2 f2 q2 v2 r2 => ?_)
    · rw [znum_nb n2]
      exact p0
    · rw [znum_nb n2]
      exact v2
    · have N : znum T (zdgs T (q + 1)).2 0 hi2 = (-1, (zdgs T (q + 1)).2 + 1) := by
        unfold znum
        rw [if_neg (fun z => z i2), if_pos d2]
      rw [N]
      show 0 ≤ (zdgs T (q + 1)).2 + 1
      omega
    · have N : znum T (zdgs T (q + 1)).2 0 hi2 = (-1, (zdgs T (q + 1)).2 + 1) := by
        unfold znum
        rw [if_neg (fun z => z i2), if_pos d2]
      rw [N]
      exact v2
    · have b2 := zdgs_b d2
      rw [z'] at ok2
      have nk : ¬ (zdgs T ((zdgs T (q + 1)).2 + 1)).1 ≤ hi2 := fun z => ok2 ((hok2 _ b2.1 b2.2.1).mpr z)
      have N : znum T (zdgs T (q + 1)).2 0 hi2 = (-1, (zdgs T (q + 1)).2 + 1) := by
        unfold znum
        rw [if_neg (fun z => z i2), if_neg (fun z => z d2), if_pos (by omega)]
      rw [N]
      show 0 ≤ (zdgs T (q + 1)).2 + 1
      omega
    · have b2 := zdgs_b d2
      rw [z'] at ok2
      have nk : ¬ (zdgs T ((zdgs T (q + 1)).2 + 1)).1 ≤ hi2 := fun z => ok2 ((hok2 _ b2.1 b2.2.1).mpr z)
      have N : znum T (zdgs T (q + 1)).2 0 hi2 = (-1, (zdgs T (q + 1)).2 + 1) := by
        unfold znum
        rw [if_neg (fun z => z i2), if_neg (fun z => z d2), if_pos (by omega)]
      rw [N]
      exact v2
    · have b2 := zdgs_b d2
      rw [z'] at ok2
      have k2 := (hok2 _ b2.1 b2.2.1).mp ok2
      have z2 : zr m2 = zr m := (zgN_z f2).trans z'
      have N : zone (znum T (zdgs T (q + 1)).2 0 hi2) (fun v => g (zdgs T (q + 1)).1 v) (zr m) = (-1, (zdgs T ((zdgs T (q + 1)).2 + 1)).2, g (zdgs T (q + 1)).1 (zdgs T ((zdgs T (q + 1)).2 + 1)).1) := by
        have N : znum T (zdgs T (q + 1)).2 0 hi2 = zdgs T ((zdgs T (q + 1)).2 + 1) := by
          unfold znum
          rw [if_neg (fun z => z i2), if_neg (fun z => z d2), if_neg (by omega)]
        rw [N]
        exact if_neg (by omega)
      rw [N] at hq
      have v0 : (m2.1 78 0).toInt = (zdgs T (q + 1)).1 := by rw [r2]; exact v
      refine zs_80c (by rw [z2]; exact hB) q2 (by omega) (by omega) (by rw [z2]; exact ho) (fun _ => ⟨by rw [v0]; exact b.1, by rw [v0]; exact b.2.1, by rw [z2, v0]; exact ok⟩) (fun _ => ⟨by rw [v2]; exact b2.1, by rw [v2]; exact b2.2.1, by rw [z2, v2]; exact ok2⟩) (fun m3 o => hq true m3 ?_)
      rw [z2, ha, v0, v2] at o
      exact zIq_t (zgr_trans (zgN_P f) (zgN_P f2)) o
/-- an act told -/
theorem zs_tell11 {q : Int} (hB : zB (zr m)) (h : zQs T (q + 1) m) (q0 : 0 ≤ q) (hz : zis T q 32) {w : Int32} (hw : w.toInt = 11) (hN : (znl.getD w.toInt.toNat 0).toInt = 1) {Q : Bool → zf_Me → Prop} (hq : ∀ b m', zIq T m (ztwo (znum T q 0 9) (fun a q2 => if zmay (zr m) a then (-1, q2, zact (zr m) a) else (q + 1, 0, zr m)) (zr m)) b m' → Q b m') : wq_159_80 Q 3 w 0 m := by
  have e1 : (1 : Int32).toInt = 1 := rfl
  have ok1 : ∀ v, zok (zr m) w.toInt 0 v → v ≤ 9 ∧ zmay (zr m) v := fun v z => z.2.2.2.2.2.2 hw
  have ok2 : ∀ v, v ≤ 9 ∧ zmay (zr m) v → zok (zr m) w.toInt 0 v := fun v z => ⟨fun y => by omega, fun y => by omega, fun y => by omega, fun y => by omega, fun y => by omega, fun y y2 => by omega, fun _ => z⟩
  refine zs_80a hB h (by omega) (by omega) (fun d m' f v => hq _ _ (zIq_f h.1 f ?_ ?_)) (fun d ok m' f v => ?_) (fun d ok m' f q1 v => ?_)
  · have N : znum T q 0 9 = (-1, q + 1) := by
      unfold znum
      rw [if_neg (fun z => z hz), if_pos d]
    rw [N]
    show 0 ≤ q + 1
    omega
  · have N : znum T q 0 9 = (-1, q + 1) := by
      unfold znum
      rw [if_neg (fun z => z hz), if_pos d]
    rw [N]
    exact v
  · have b := zdgs_b d
    have R : (ztwo (znum T q 0 9) (fun a q2 => if zmay (zr m) a then (-1, q2, zact (zr m) a) else (q + 1, 0, zr m)) (zr m)).1 = q + 1 := by
      by_cases l : (zdgs T (q + 1)).1 ≤ 9
      · have N : znum T q 0 9 = zdgs T (q + 1) := by
          unfold znum
          rw [if_neg (fun z => z hz), if_neg (fun z => z d), if_neg (by omega)]
        have nm : ¬ zmay (zr m) (zdgs T (q + 1)).1 := fun z => ok (ok2 _ ⟨l, z⟩)
        have e : ztwo (znum T q 0 9) (fun a q2 => if zmay (zr m) a then (-1, q2, zact (zr m) a) else (q + 1, 0, zr m)) (zr m) = (q + 1, 0, zr m) := by
          rw [N]
          have t2 : ztwo (zdgs T (q + 1)) (fun a q2 => if zmay (zr m) a then (-1, q2, zact (zr m) a) else (q + 1, 0, zr m)) (zr m) = (if zmay (zr m) (zdgs T (q + 1)).1 then (-1, (zdgs T (q + 1)).2, zact (zr m) (zdgs T (q + 1)).1) else (q + 1, 0, zr m)) := if_neg (by omega)
          rw [t2, if_neg nm]
        rw [e]
      · have N : znum T q 0 9 = (-1, q + 1) := by
          unfold znum
          rw [if_neg (fun z => z hz), if_neg (fun z => z d), if_pos (by omega)]
        rw [N]
        rfl
    exact hq _ _ (zIq_f h.1 f (by rw [R]; omega) (by rw [R]; exact v))
  · have b := zdgs_b d
    have k := ok1 _ ok
    have z' : zr m' = zr m := zgN_z f
    have N : ztwo (znum T q 0 9) (fun a q2 => if zmay (zr m) a then (-1, q2, zact (zr m) a) else (q + 1, 0, zr m)) (zr m) = (-1, (zdgs T (q + 1)).2, zact (zr m) (zdgs T (q + 1)).1) := by
      have N : znum T q 0 9 = zdgs T (q + 1) := by
        unfold znum
        rw [if_neg (fun z => z hz), if_neg (fun z => z d), if_neg (by omega)]
      rw [N]
      have t2 : ztwo (zdgs T (q + 1)) (fun a q2 => if zmay (zr m) a then (-1, q2, zact (zr m) a) else (q + 1, 0, zr m)) (zr m) = (if zmay (zr m) (zdgs T (q + 1)).1 then (-1, (zdgs T (q + 1)).2, zact (zr m) (zdgs T (q + 1)).1) else (q + 1, 0, zr m)) := if_neg (by omega)
      rw [t2, if_pos k.2]
    rw [N] at hq
    refine zs_80c (by rw [z']; exact hB) q1 (by omega) (by omega) (by rw [z']; exact ⟨fun y => by omega, fun y => by omega, fun y => by omega⟩) (fun _ => ⟨by rw [v]; exact b.1, by rw [v]; exact b.2.1, by rw [z', v]; exact ok⟩) (fun z => by omega) (fun m2 o => hq true m2 ?_)
    rw [z', v] at o
    have a : ∀ x y, zapp (zr m) w.toInt x y = zact (zr m) x := fun x y => by
      unfold zapp
      rw [hw]
      rfl
    rw [a] at o
    exact zIq_t (zgN_P f) o
theorem zs_80x {q : Int} (hB : zB (zr m)) (q0 : 0 ≤ q) {x : Int32} (hx : 0 ≤ x.toInt ∧ x.toInt < 12) (h : zQs T (q + (if x.toInt = 2 then 0 else 1)) m) (hz : ¬ x.toInt = 2 → zis T q 32) (ho : zoq (zr m) x.toInt) {Q : Bool → zf_Me → Prop} (hq : ∀ b m', zIq T m (zarg T (zr m) (zrho x.toInt.toNat) q) b m' → Q b m') : wq_159_80 Q 3 x 0 m := by
  have nn : ∀ (c : Nat) (d : Int), x.toInt = c → (znl.getD c 0).toInt = d → (znl.getD x.toInt.toNat 0).toInt = d := fun c d e z => by
    rw [e]
    exact z
  have rr : ∀ c : Nat, x.toInt = c → zrho x.toInt.toNat = zrho c := fun c e => by rw [e]; rfl
  have zkB : ∀ v : Int, 6 ≤ x.toInt → x.toInt ≤ 10 → (zok (zr m) x.toInt 0 v ↔ zlo (x.toInt - 6).toNat ≤ v ∧ v ≤ zhi (x.toInt - 6).toNat) := fun v g1 g2 => ⟨fun z => z.2.2.2.2.2.1 g1 g2, fun z => ⟨fun y => by omega, fun y => by omega, fun y => by omega, fun y => by omega, fun y => by omega, fun _ _ => z, fun y => by omega⟩⟩
  have zkA : ∀ v b : Int, 6 ≤ x.toInt → x.toInt ≤ 10 → zapp (zr m) x.toInt v b = zask (zr m) (x.toInt - 6).toNat v := fun v b g1 g2 => by
    unfold zapp
    rw [if_neg (by omega), if_neg (by omega), if_neg (by omega), if_neg (by omega), if_neg (by omega), if_neg (by omega), if_neg (by omega)]
  by_cases e2 : x.toInt = 2
  · rw [if_pos e2, Int.add_zero] at h
    refine zs_80c hB h hx (by rw [nn 2 0 e2 rfl]; decide) ho (fun z => absurd e2 z) (fun z => by omega) (fun m' o => hq true m' ?_)
    rw [rr 2 e2]
    have a : zapp (zr m) x.toInt (m.1 78 0).toInt (m.1 78 1).toInt = zU (zr m) 1 (zr m 5 5 - 1).toNat 1 := by
      unfold zapp
      rw [e2]
      rfl
    rw [a] at o
    exact o
  rw [if_neg e2] at h
  have hz := hz e2
  have c : x.toInt = 0 ∨ x.toInt = 1 ∨ x.toInt = 3 ∨ x.toInt = 4 ∨ x.toInt = 5 ∨ x.toInt = 6 ∨ x.toInt = 7 ∨ x.toInt = 8 ∨ x.toInt = 9 ∨ x.toInt = 10 ∨ x.toInt = 11 := by omega
  rcases c with e | e | e | e | e | e | e | e | e | e | e
  · rw [rr 0 e] at hq
    exact zs_one (lo := 0) (hi := 3) (g := fun v => zaddF (zr m) v 0) hB h q0 hz (by omega) (nn 0 1 e rfl) ho (fun v v0 v9 => ⟨fun z => ⟨v0, z.1 (Or.inl e)⟩, fun z => ⟨fun _ => z.2, fun y => by omega, fun y => by omega, fun y => by omega, fun y => by omega, fun y => by omega, fun y => by omega⟩⟩) (fun v b => by unfold zapp; rw [e]; rfl) hq
  · rw [rr 1 e] at hq
    exact zs_one (lo := 0) (hi := 3) (g := fun v => zaddF (zr m) (-v) 0) hB h q0 hz (by omega) (nn 1 1 e rfl) ho (fun v v0 v9 => ⟨fun z => ⟨v0, z.1 (Or.inr e)⟩, fun z => ⟨fun _ => z.2, fun y => by omega, fun y => by omega, fun y => by omega, fun y => by omega, fun y => by omega, fun y => by omega⟩⟩) (fun v b => by unfold zapp; rw [e]; rfl) hq
  · rw [rr 3 e] at hq
    exact zs_two (hi := 6) (hi2 := 9) (g := fun a v => zaddP (zr m) a v) hB h q0 hz (Or.inl e) (nn 3 2 e rfl) ho (fun v v0 v9 => ⟨fun z => z.2.1 e rfl, fun z => ⟨fun y => by omega, fun _ _ => z, fun _ y => absurd rfl y, fun y => by omega, fun y => by omega, fun y => by omega, fun y => by omega⟩⟩) (fun v v0 v9 => ⟨fun z => z.2.2.1 e (by decide), fun z => ⟨fun y => by omega, fun _ y => absurd y (by decide), fun _ _ => z, fun y => by omega, fun y => by omega, fun y => by omega, fun y => by omega⟩⟩) (fun v b => by unfold zapp; rw [e]; rfl) hq
  · rw [rr 4 e] at hq
    exact zs_two (hi := zr m 5 6 - 1) (hi2 := 99) (g := fun a v => zU (zr m) 4 a.toNat v) hB h q0 hz (Or.inr e) (nn 4 2 e rfl) ho (fun v v0 v9 => ⟨fun z => by have := z.2.2.2.1 e (by decide); omega, fun z => ⟨fun y => by omega, fun y => by omega, fun y => by omega, fun _ _ => by omega, fun y => by omega, fun y => by omega, fun y => by omega⟩⟩) (fun v v0 v9 => ⟨fun z => v9, fun z => ⟨fun y => by omega, fun y => by omega, fun y => by omega, fun _ y => absurd rfl y, fun y => by omega, fun y => by omega, fun y => by omega⟩⟩) (fun v b => by unfold zapp; rw [e]; rfl) hq
  · rw [rr 5 e] at hq
    exact zs_one (lo := 0) (hi := zr m 5 6 - 1) (g := fun v => zU (zr m) 5 7 v) hB h q0 hz (by omega) (nn 5 1 e rfl) ho (fun v v0 v9 => ⟨fun z => ⟨v0, by have := z.2.2.2.2.1 e; omega⟩, fun z => ⟨fun y => by omega, fun y => by omega, fun y => by omega, fun y => by omega, fun _ => by omega, fun y => by omega, fun y => by omega⟩⟩) (fun v b => by unfold zapp; rw [e]; rfl) hq
  · rw [rr 6 e] at hq
    exact zs_one (lo := zlo 0) (hi := zhi 0) (g := fun v => zask (zr m) 0 v) hB h q0 hz (by omega) (nn 6 1 e rfl) ho (fun v v0 v9 => by have := zkB v (by omega) (by omega); rw [e] at this ⊢; exact this) (fun v b => by have := zkA v b (by omega) (by omega); rw [e] at this ⊢; exact this) hq
  · rw [rr 7 e] at hq
    exact zs_one (lo := zlo 1) (hi := zhi 1) (g := fun v => zask (zr m) 1 v) hB h q0 hz (by omega) (nn 7 1 e rfl) ho (fun v v0 v9 => by have := zkB v (by omega) (by omega); rw [e] at this ⊢; exact this) (fun v b => by have := zkA v b (by omega) (by omega); rw [e] at this ⊢; exact this) hq
  · rw [rr 8 e] at hq
    exact zs_one (lo := zlo 2) (hi := zhi 2) (g := fun v => zask (zr m) 2 v) hB h q0 hz (by omega) (nn 8 1 e rfl) ho (fun v v0 v9 => by have := zkB v (by omega) (by omega); rw [e] at this ⊢; exact this) (fun v b => by have := zkA v b (by omega) (by omega); rw [e] at this ⊢; exact this) hq
  · rw [rr 9 e] at hq
    exact zs_one (lo := zlo 3) (hi := zhi 3) (g := fun v => zask (zr m) 3 v) hB h q0 hz (by omega) (nn 9 1 e rfl) ho (fun v v0 v9 => by have := zkB v (by omega) (by omega); rw [e] at this ⊢; exact this) (fun v b => by have := zkA v b (by omega) (by omega); rw [e] at this ⊢; exact this) hq
  · rw [rr 10 e] at hq
    exact zs_one (lo := zlo 4) (hi := zhi 4) (g := fun v => zask (zr m) 4 v) hB h q0 hz (by omega) (nn 10 1 e rfl) ho (fun v v0 v9 => by have := zkB v (by omega) (by omega); rw [e] at this ⊢; exact this) (fun v b => by have := zkA v b (by omega) (by omega); rw [e] at this ⊢; exact this) hq
  · rw [rr 11 e] at hq
    exact zs_tell11 hB h q0 hz e (nn 11 1 e rfl) hq
theorem zs_159x (hB : zB (zr m)) (h : zQs T s m) {Q : Bool → zf_Me → Prop} (hq : ∀ b m', zIq T m (zitem T (zr m) s) b m' → Q b m') : wp_159 m Q := by
  have pf : zr m 5 5 = (m.1 63 0).toInt := rfl
  have pp : zr m 5 6 = (m.1 63 1).toInt := rfl
  have b := zB_r hB
  have s0 := h.2.2.1
  have no : ∀ w, w < 12 → zMb T s w (zln w) = true → ¬ zroomB (zr m) w = true → wp_153 (m.1 63 30) m (fun b m' => Q b m') := fun w hw hm nr m' q' => by
    have fu := zfind_u hw hm
    have ei : zitem T (zr m) s = (s, 0, zr m) := by
      unfold zitem
      rw [fu, if_neg (by omega), if_pos nr]
    rw [q']
    exact hq _ _ (zIq_f h.1 (zgr_u zgr_refl (by omega)) (by rw [ei]; exact s0) (by rw [ei, zf_u3]; exact h.2.1))
  have t66 : (zMb T s 0 (zln 0) = true → ¬ (m.1 63 0).toInt = 24) → (zMb T s 1 (zln 1) = true → ¬ (m.1 63 0).toInt = 24) → (zMb T s 2 (zln 2) = true → ¬ (m.1 63 0).toInt = 0) → (zMb T s 3 (zln 3) = true → ¬ (m.1 63 1).toInt = 6) → wq_159_66 m Q := by
    intro g0 g1 g2 g3
    have room : ¬ zfind T s 12 = 12 → zroomB (zr m) (zfind T s 12) = true := fun nf => by
      obtain ⟨c1, c2⟩ := (zfind_c (T := T) (s := s) 12 (Nat.le_refl _)).resolve_left nf
      refine zroom_i.mpr ⟨fun z => ?_, fun z => ?_, fun z => ?_⟩
      · rw [pf]
        rcases z with z | z
        · rw [z] at c2
          have := g0 c2
          omega
        · rw [z] at c2
          have := g1 c2
          omega
      · rw [z] at c2
        have := g2 c2
        rw [pf]
        omega
      · rw [z] at c2
        have := g3 c2
        rw [pp]
        omega
    refine zs_155x h (fun nf m' f v => ⟨fun z => absurd rfl z, fun _ => hq _ _ ?_⟩) (fun nf n2 nb m' f v => ⟨fun z => absurd rfl z, fun _ => hq _ _ ?_⟩) (fun x m' hx fx hz f q r => ⟨fun _ => ⟨3, ?_⟩, fun z => by have e : (-1 : Int32).toInt = -1 := rfl; omega⟩)
    · have ei : zitem T (zr m) s = (s + zfar T s 8, 0, zr m) := if_pos nf
      rw [ei]
      exact zIq_f h.1 f (by show 0 ≤ s + (zfar T s 8 : Nat); omega) v
    · have ei : zitem T (zr m) s = (s + zln (zfind T s 12), 0, zr m) := by
        unfold zitem
        rw [if_neg nf, if_neg (fun z => z (room nf)), zarg_nb n2 nb]
      rw [ei]
      exact zIq_f h.1 f (by show 0 ≤ s + (zln (zfind T s 12) : Nat); omega) v
    · have rl := zrho_lt x.toInt.toNat (by omega)
      have nf : ¬ zfind T s 12 = 12 := by omega
      have rm := zroom_i.mp (room nf)
      rw [fx] at rm
      have z' : zr m' = zr m := zgN_z f
      have ei : zitem T (zr m) s = zarg T (zr m') (zrho x.toInt.toNat) (s + zln (zrho x.toInt.toNat)) := by
        unfold zitem
        rw [if_neg nf, if_neg (fun z => z (room nf)), fx, z']
      have r0 : ∀ c : Nat, c < 4 → x.toInt = c → zrho x.toInt.toNat = c := fun c hc e => by
        have : ∀ k, k < 4 → zrho k = k := by decide
        rw [show x.toInt.toNat = c by omega]
        exact this c hc
      refine zs_80x (by rw [z']; exact hB) (by omega) hx q hz ?_ (fun b m2 o => hq b m2 (by rw [ei]; exact zIq_t (zgN_P f) o))
      rw [z']
      refine ⟨fun z => ?_, fun z => ?_, fun z => ?_⟩
      · have := rm.1 (z.elim (fun z => Or.inl (r0 0 (by decide) z)) (fun z => Or.inr (r0 1 (by decide) z)))
        omega
      · have := rm.2.1 (r0 2 (by decide) z)
        omega
      · have := rm.2.2 (r0 3 (by decide) z)
        omega
  have fu : (m.1 63 0).toInt = 24 → ∀ w, w = 0 ∨ w = 1 → ¬ zroomB (zr m) w = true := fun e w hw z => by
    have := (zroom_i.mp z).1 hw
    omega
  have t40 : (zMb T s 0 (zln 0) = true → ¬ (m.1 63 0).toInt = 24) → (zMb T s 1 (zln 1) = true → ¬ (m.1 63 0).toInt = 24) → (zMb T s 2 (zln 2) = true → ¬ (m.1 63 0).toInt = 0) → wq_159_40 m Q := fun g0 g1 g2 =>
    zs_154x h (by decide) (fun b hb => ⟨fun e => t66 g0 g1 g2 (fun z => absurd z (zno hb e)), fun e => ⟨fun n => t66 g0 g1 g2 (fun _ => n), fun e6 => no 3 (by decide) (hb.mp e) (fun z => by have := (zroom_i.mp z).2.2 rfl; omega)⟩⟩)
  have t25 : (zMb T s 0 (zln 0) = true → ¬ (m.1 63 0).toInt = 24) → (zMb T s 1 (zln 1) = true → ¬ (m.1 63 0).toInt = 24) → wq_159_25 m Q := fun g0 g1 =>
    zs_154x h (by decide) (fun b hb => ⟨fun e => t40 g0 g1 (fun z => absurd z (zno hb e)), fun e => ⟨fun e0 => no 2 (by decide) (hb.mp e) (fun z => by have := (zroom_i.mp z).2.1 rfl; omega), fun n => t40 g0 g1 (fun _ => n)⟩⟩)
  have t16 : ∀ w, w = 0 ∨ w = 1 → zMb T s w (zln w) = true → wq_159_16 m Q := fun w hw hm => ⟨fun e => no w (by omega) hm (fu e w hw), fun n => t25 (fun _ => n) (fun _ => n)⟩
  exact zs_154x h (by decide) (fun b hb => ⟨fun e => t16 0 (Or.inl rfl) (hb.mp e), fun e => zs_154x h (by decide) (fun b2 hb2 => ⟨fun e2 => t25 (fun z => absurd z (zno hb e)) (fun z => absurd z (zno hb2 e2)), fun e2 => t16 1 (Or.inr rfl) (hb2.mp e2)⟩)⟩)
theorem zY_162 (hJ : JM m) (ho : zso m) {s : Int32} {Q : Int32 → zf_Me → Prop} (h0 : ¬ zK (zhR m) s.toInt = 0 → ∀ v m', zgQ m m' → zr m' = zr m → v.toInt = -(zK (zhR m) s.toInt) → Q v m') (h1 : zK (zhR m) s.toInt = 0 → ∀ v m', zgr' (fun a k => zcoQ a k ∨ (a = 63 ∧ k = 13)) m m' → v.toInt = (zN82 (zhR m) (zr m) s.toInt).1 → zr m' = (zN82 (zhR m) (zr m) s.toInt).2.1 → (m'.1 63 13).toInt = (zN82 (zhR m) (zr m) s.toInt).2.2 → Q v m') : wp_162 s m Q := by
  have e1 : (1 : Int32).toInt = 1 := rfl
  have e0 : (0 : Int32).toInt = 0 := rfl
  have em : (-1 : Int32).toInt = -1 := rfl
  have e160 : (160 : Int32).toInt = 160 := rfl
  refine zs_137x hJ ho (fun x h => ⟨fun e => ?_, fun ne => zs_125 (by have := zK_b (h := zhR m) (s := s.toInt); omega) (fun m' f => h0 (by omega) _ m' (zg64_q f) (zg64_r f) h)⟩)
  have hk : zK (zhR m) s.toInt = 0 := by omega
  have H1 := h1 hk
  obtain ⟨g, rr⟩ := zK_0.mp hk
  have bs := hJ.2.1 s.toInt.toNat (by omega)
  have kk := zhR_k hJ ho (s := s.toInt.toNat) (by omega)
  have k1 : (m.1 70 s.toInt.toNat).toInt = 1 := by
    by_cases k0 : (m.1 70 s.toInt.toNat).toInt = 0
    · have := kk.2.2 k0
      omega
    · by_cases k2 : (m.1 70 s.toInt.toNat).toInt = 2
      · have := kk.2.1 k2
        omega
      · omega
  have k := kk.1 k1
  have N : zN82 (zhR m) (zr m) s.toInt = if (zway (ztext (zhR m s.toInt.toNat)) 170 (zr m) 0 0).1 = -1 then ((zway (ztext (zhR m s.toInt.toNat)) 170 (zr m) 0 0).2.1, (zway (ztext (zhR m s.toInt.toNat)) 170 (zr m) 0 0).2.2, -1) else (-6, zr m, (zway (ztext (zhR m s.toInt.toNat)) 170 (zr m) 0 0).1) := if_neg (fun z => z hk)
  rw [N] at H1
  obtain ⟨T, hT⟩ : ∃ T, T = ztext (zhR m s.toInt.toNat) := ⟨_, rfl⟩
  rw [← hT] at H1
  have T1 : T.1 = (m.1 72 s.toInt.toNat).toInt := by rw [hT]; exact k.2.1
  have T2 : ∀ i : Nat, (i : Int) < T.1 → T.2 i = (Int64.toInt32 (m.2 74 (160 * s.toInt.toNat + i))).toInt := fun i hi => by
    rw [hT]
    show zel (zhR m s.toInt.toNat) i = _
    unfold zel
    rw [k.2.2.2 i (by omega)]
  refine zs_161s (by decide) rfl (by decide) (fun m4 a4 f4 z4 m5 q5 m7 q7 => ⟨g, fun m9 q9 m11 q11 => ?_⟩)
  have a4' : zA 79 0 m4 = zr m := a4
  have mu := fb_mulI (x := 160) (y := s) (by rw [e160]; omega) (by rw [e160]; omega)
  rw [e160] at mu
  have f11 : zgr' (fun a k => (a = 63 ∧ 13 ≤ k ∧ k < 40) ∨ a = 79) m m11 := by
    rw [q11, q9, q7, q5]
    exact zgr_u (zgr_u (zgr_u (zgr_u (zgr_mono f4 (fun a k z => by omega)) (by omega)) (by omega)) (by omega)) (by omega)
  have z11 : zr m11 = zr m := zr_of f11 (fun a k z => by omega)
  have l7 : m7.1 72 s.toInt.toNat = m.1 72 s.toInt.toNat := by rw [q7, zf_u1 (by decide), q5, zf_u1 (by decide), f4.1 72 _ (by omega)]
  have A11 : zA 79 0 m11 = zr m := by
    rw [← a4']
    exact zL_ext (fun i _ => by rw [q11, zf_u1 (by decide), q9, zf_u1 (by decide), q7, zf_u1 (by decide), q5, zf_u1 (by decide)])
  have c29 : (m11.1 63 29).toInt = 160 * s.toInt := by rw [q11, zf_u4 (by decide), q9, zf_u4 (by decide), q7, zf_u4 (by decide), q5, zf_u3, mu]
  have c30 : (m11.1 63 30).toInt = 0 := by rw [q11, zf_u4 (by decide), q9, zf_u4 (by decide), q7, zf_u3, e0]
  have c31 : (m11.1 63 31).toInt = (m.1 72 s.toInt.toNat).toInt := by rw [q11, zf_u4 (by decide), q9, zf_u3, l7]
  have c13 : m11.1 63 13 = -1 := by rw [q11, zf_u3]
  have h11 : zQs T 0 m11 := by
    refine ⟨⟨zwd_of f11 (fun a k z => by omega) hJ.2.2.2, by omega, by omega, by omega, fun i hi => ?_⟩, c30, Int.le_refl _, by omega⟩
    rw [c29, f11.2, T2 i hi, show (160 * s.toInt + (i : Int)).toNat = 160 * s.toInt.toNat + i by omega]
  have gq : ∀ {m'}, zgP m11 m' → zgr' (fun a k => zcoQ a k ∨ (a = 63 ∧ k = 13)) m m' := fun f => zgr_trans (zgr_mono f11 (fun a k z => by omega)) (zgr_mono f (fun a k z => by omega))
  have bad : ∀ (v3 : Int32) (mj : zf_Me), zgP m11 mj → (mj.1 63 33).toInt = (zway T 170 (zr m) 0 0).1 → ¬ (zway T 170 (zr m) 0 0).1 = -1 → wq_162_134 s v3 0 mj Q := by
    intro v3 mj fj hw nw
    rw [if_neg nw] at H1
    refine ⟨fun _ => zs_161b (by decide) (by decide) (by decide) (fun m16 z16 f16 m17 q17 => zs_125 (by decide) (fun m' f' => H1 _ m' ?_ rfl ?_ ?_)), fun z => absurd e0 z⟩
    · have F17 : zgr' (fun a k => zcoQ a k ∨ (a = 63 ∧ k = 13)) m m17 := by
        rw [q17]
        exact zgr_u (zgr_trans (gq fj) (zgr_mono f16 (fun a k z => by omega))) (by omega)
      exact zgr_trans F17 (zgr_mono f' (fun a k z => by omega))
    · have z16' : zr m16 = zA 79 0 mj := z16
      rw [zg64_r f', q17, zrk_44 (by decide), z16', zA_of fj (fun k => by omega)]
      exact A11
    · rw [f'.1 63 13 (by omega), q17, zf_u3, f16.1 63 33 (by omega)]
      exact hw
  have lp : ∀ (n j : Nat) (v3 : Int32) (b : Bool) (mj : zf_Me) (r : zIt) (p : Int) (fA : zS), 0 ≤ p → p ≤ 160 → 160 - p < n → 160 - p < j → 0 ≤ v3.toInt → v3.toInt ≤ p + 1 → zIq T m11 r b mj → zIg T (p + 1) r → (if ¬ r.1 = -1 then (r.1, v3.toInt, fA) else if ¬ r.2.1 < T.1 then (-1, v3.toInt, r.2.2) else if ¬ zis T r.2.1 59 then (r.2.1, v3.toInt, fA) else zway T j r.2.2 (r.2.1 + 1) v3.toInt) = zway T 170 (zr m) 0 0 → wq_162_63 s Q (n + 1) v3 (zb b) mj := by
    intro n
    induction n with
    | zero => intro j v3 b mj r p fA p0 p1 p2; omega
    | succ n ih =>
      intro j v3 b mj r p fA p0 p1 p2 p3 v0 v1 hI hG hA
      by_cases er : r.1 = -1
      · have i2 := hI.2.2.2 er
        have g2 := hG.2 er
        rw [if_neg (fun z => z er)] at hA
        have bt : b = true := i2.1
        rw [bt]
        have en := hI.2.1.2.2.1
        have pl := i2.2.2
        refine ⟨fun z => absurd z (by decide), fun _ => ⟨fun ge => ⟨fun z => absurd z (by decide), fun _ => ?_⟩, fun lt => ?_⟩⟩
        · rw [if_pos (by omega)] at hA
          have V1 : (zway T 170 (zr m) 0 0).1 = -1 := by rw [← hA]
          rw [if_pos V1] at H1
          have c13j : mj.1 63 13 = -1 := by rw [hI.1.1 63 13 (by omega)]; exact c13
          exact H1 v3 mj (gq hI.1) (by rw [← hA]) (by rw [← hA]; exact i2.2.1) (by rw [c13j]; rfl)
        · rw [if_neg (by omega)] at hA
          have at1 := zQs_at hI.2.1 (v := mj.1 63 30) (by omega) (by omega)
          have l := at1.2
          rw [pl] at l
          refine ⟨at1.1, fun e m21 q21 => ?_, fun ne m26 q26 => ?_⟩
          · have hz : zis T r.2.1 59 := ⟨by omega, l.symm.trans e⟩
            rw [if_neg (fun z => z hz)] at hA
            have Tl := hI.2.1.2.2.2.1
            have sa := fb_addI (x := mj.1 63 30) (y := 1) (by omega) (by omega)
            have f21 : zgN mj m21 := by rw [q21]; exact zgr_u zgr_refl (by omega)
            have z21 : zr m21 = r.2.2 := (zgN_z f21).trans i2.2.1
            have h21 : zQs T (r.2.1 + 1) m21 := zQs_e (zgN_x hI.2.1 f21) (by rw [q21, zf_u3]; omega) (by omega) (by omega)
            have sv := fb_addI (x := v3) (y := 1) (by omega) (by omega)
            obtain ⟨j, rfl⟩ : ∃ i, j = i + 1 := ⟨j - 1, by omega⟩
            have hg := zitem_g (T := T) (f := r.2.2) (s := r.2.1 + 1) g2.2.2 (by omega)
            refine zs_159x (by rw [z21]; exact g2.2.2) h21 (fun b24 m24 o => ih j (v3 + 1) b24 m24 (zitem T r.2.2 (r.2.1 + 1)) (r.2.1 + 1) r.2.2 (by omega) (by omega) (by omega) (by omega) (by omega) (by omega) ?_ (zIg_le hg (by omega)) ?_)
            · rw [z21] at o
              exact zIq_t (zgr_trans hI.1 (zgN_P f21)) o
            · rw [show (v3 + 1).toInt = v3.toInt + 1 by omega, ← hA]
              rfl
          · have nz : ¬ zis T r.2.1 59 := fun z => ne (l.trans z.2)
            rw [if_pos nz] at hA
            obtain ⟨n, rfl⟩ : ∃ i, n = i + 1 := ⟨n - 1, by omega⟩
            have f26 : zgP m11 m26 := by
              rw [q26]
              exact zgr_u hI.1 (by omega)
            refine ⟨fun _ => bad v3 m26 f26 ?_ ?_, fun z => absurd e0 z⟩
            · rw [q26, zf_u3, ← hA]
              exact pl
            · rw [← hA]
              show ¬ r.2.1 = -1
              omega
      · have i1 := hI.2.2.1 er
        rw [if_pos er] at hA
        rw [i1.1]
        exact ⟨fun _ => bad v3 mj hI.1 (by rw [← hA]; exact i1.2) (by rw [← hA]; exact er), fun z => absurd e0 z⟩
  refine zs_159x (by rw [z11]; exact hJ.1) h11 (fun b m14 o => ⟨165, lp 164 169 1 b m14 (zitem T (zr m) 0) 0 (zr m) (Int.le_refl _) (by decide) (by decide) (by decide) (by decide) (by decide) ?_ ?_ ?_⟩)
  · rw [z11] at o
    exact o
  · exact zIg_le (zitem_g hJ.1 (Int.le_refl _)) (by decide)
  · rw [e1]
    rfl
end
