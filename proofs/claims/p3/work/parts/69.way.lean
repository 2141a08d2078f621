/-! part 69: the reference's way told in words -/
section
variable {m : zf_Me}
/-- what a sentence needs before its word may act -/
abbrev zoq (f : zS) (w : Int) : Prop := (w = 0 ∨ w = 1 → ¬ f 5 5 = 24) ∧ (w = 2 → ¬ f 5 5 = 0) ∧ (w = 3 → ¬ f 5 6 = 6)
abbrev zgd (m : zf_Me) (w : Int) (i : Nat) : Prop := 0 ≤ (m.1 78 i).toInt ∧ (m.1 78 i).toInt ≤ 99 ∧ zok (zr m) w i (m.1 78 i).toInt
theorem zs_act80 (h : zPt m) {w : Int32} (hw : 0 ≤ w.toInt ∧ w.toInt < 12) (ho : zoq (zr m) w.toInt) (n0 : 0 < (znl.getD w.toInt.toNat 0).toInt → zgd m w.toInt 0) (n1 : 1 < (znl.getD w.toInt.toNat 0).toInt → zgd m w.toInt 1) {Q : Bool → zf_Me → Prop} (hq : ∀ b m', zPo m m' → Q b m') : (((w.toInt < 0 ∨ w.toInt > 11) → wp_149 (w - 6) (m.1 78 0) m (fun x11 m12 => Q true m12)) ∧ (w.toInt = 0 → wp_140 (m.1 78 0) 0 m (fun x13 m14 => Q true m14)) ∧ (w.toInt = 1 → wp_140 (-(m.1 78 0)) 0 m (fun x15 m16 => Q true m16)) ∧ (w.toInt = 2 → ((0 ≤ (Int32.toInt ((m.1 63 0) - 1)) ∧ (Int32.toInt ((m.1 63 0) - 1)) < (24 : Int)) ∧ ∀ m17, m17 = zf_u m 66 (Int32.toInt ((m.1 63 0) - 1)).toNat 1 → Q true m17)) ∧ (w.toInt = 3 → wp_141 (m.1 78 0) (m.1 78 1) m (fun x19 m20 => Q true m20)) ∧ (w.toInt = 4 → ((0 ≤ (Int32.toInt (m.1 78 0)) ∧ (Int32.toInt (m.1 78 0)) < (6 : Int)) ∧ ∀ m21, m21 = zf_u m 69 (Int32.toInt (m.1 78 0)).toNat (m.1 78 1) → Q true m21)) ∧ (w.toInt = 5 → (∀ m23, m23 = zf_u m 63 2 (m.1 78 0) → Q true m23)) ∧ (w.toInt = 6 → wp_149 (w - 6) (m.1 78 0) m (fun x25 m26 => Q true m26)) ∧ (w.toInt = 7 → wp_149 (w - 6) (m.1 78 0) m (fun x27 m28 => Q true m28)) ∧ (w.toInt = 8 → wp_149 (w - 6) (m.1 78 0) m (fun x29 m30 => Q true m30)) ∧ (w.toInt = 9 → wp_149 (w - 6) (m.1 78 0) m (fun x31 m32 => Q true m32)) ∧ (w.toInt = 10 → wp_149 (w - 6) (m.1 78 0) m (fun x33 m34 => Q true m34)) ∧ (w.toInt = 11 → wp_169 (m.1 78 0) m (fun m36 => Q true m36))) := by
  have e1 : (1 : Int32).toInt = 1 := rfl
  have e0 : (0 : Int32).toInt = 0 := rfl
  have e6 : (6 : Int32).toInt = 6 := rfl
  have b := zB_r h.2.1
  have pf : zr m 5 5 = (m.1 63 0).toInt := rfl
  have pp : zr m 5 6 = (m.1 63 1).toInt := rfl
  have K : ∀ b m', zgc m m' → zB (zr m') → Q b m' := fun b m' f z => hq b m' (zPc_o h f z)
  have nn : ∀ (c : Nat) (d : Int), w.toInt = c → (znl.getD c 0).toInt = d → (znl.getD w.toInt.toNat 0).toInt = d := fun c d e z => by
    rw [e]
    exact z
  have w6 : 6 ≤ w.toInt → w.toInt ≤ 10 → wp_149 (w - 6) (m.1 78 0) m (fun x m' => Q true m') := fun g1 g2 => by
    have g := n0 (by rw [zw_n2 w.toInt.toNat (by omega) (by omega)]; decide)
    have s := fb_subI (x := w) (y := 6) (by omega) (by omega)
    have k := g.2.2.2.2.2.2.2.1 g1 g2
    rw [show (w.toInt - 6).toNat = (w - 6).toInt.toNat by omega] at k
    exact zs_149 (by omega) (fun x m' _ z f => K _ m' f (by rw [z]; exact zB_ask h.2.1 (by omega) k))
  refine ⟨fun z => by omega, fun z => ?_, fun z => ?_, fun z => ?_, fun z => ?_, fun z => ?_, fun z => ?_, fun z => w6 (by omega) (by omega), fun z => w6 (by omega) (by omega), fun z => w6 (by omega) (by omega), fun z => w6 (by omega) (by omega), fun z => w6 (by omega) (by omega), fun z => ?_⟩
  · have g := n0 (by rw [nn 0 1 z rfl]; decide)
    have k := g.2.2.1 (Or.inl z)
    have nf := ho.1 (Or.inl z)
    rw [pf] at nf
    exact zs_140 (by omega) (fun m' y f => K _ m' f (by rw [y]; exact zB_addF h.2.1 (by rw [pf]; omega) (by omega) (by decide)))
  · have g := n0 (by rw [nn 1 1 z rfl]; decide)
    have k := g.2.2.1 (Or.inr z)
    have nf := ho.1 (Or.inr z)
    rw [pf] at nf
    have ng := fb_negI (x := m.1 78 0) (by omega)
    exact zs_140 (by omega) (fun m' y f => K _ m' f (by rw [y]; exact zB_addF h.2.1 (by rw [pf]; omega) (by rw [ng]; omega) (by decide)))
  · have nf := ho.2.1 z
    rw [pf] at nf
    have s := fb_subI (x := m.1 63 0) (y := 1) (by omega) (by omega)
    refine ⟨by omega, fun m17 q17 => K _ m17 ?_ ?_⟩
    · rw [q17]
      exact zgr_u zgr_refl (by omega)
    · rw [q17, zr_a1 (by omega)]
      exact zB_stile h.2.1 (by decide)
  · have g0 := n0 (by rw [nn 3 2 z rfl]; decide)
    have g1 := n1 (by rw [nn 3 2 z rfl]; decide)
    have k0 := g0.2.2.2.1 z (by decide)
    have k1 := g1.2.2.2.2.1 z (by decide)
    have np := ho.2.2 z
    rw [pp] at np
    exact zs_141 (by omega) (fun m' y f => K _ m' f (by rw [y]; exact zB_addP h.2.1 (by rw [pp]; omega) (by omega) (by omega)))
  · have g0 := n0 (by rw [nn 4 2 z rfl]; decide)
    have g1 := n1 (by rw [nn 4 2 z rfl]; decide)
    have k0 := g0.2.2.2.2.2.1 z (by decide)
    rw [pp] at k0
    refine ⟨by omega, fun m21 q21 => K _ m21 ?_ ?_⟩
    · rw [q21]
      exact zgr_u zgr_refl (by omega)
    · rw [q21, zr_a4 (by omega)]
      exact zB_tire h.2.1 (by omega)
  · have g0 := n0 (by rw [nn 5 1 z rfl]; decide)
    have k0 := g0.2.2.2.2.2.2.1 z
    rw [pp] at k0
    intro m23 q23
    refine K _ m23 ?_ ?_
    · rw [q23]
      exact zgr_u zgr_refl (by omega)
    · rw [q23, zr_w2]
      exact zB_bag h.2.1 (by omega)
  · have g0 := n0 (by rw [nn 11 1 z rfl]; decide)
    have k0 := g0.2.2.2.2.2.2.2.2 z
    exact zs_169 h.2.1 ⟨g0.1, k0.1⟩ k0.2 (fun m' y f => K _ m' f (by rw [y]; exact zB_act h.2.1 k0.2))
theorem zs_80 (h : zPt m) {w : Int32} (hw : 0 ≤ w.toInt ∧ w.toInt < 12) (ho : zoq (zr m) w.toInt) {Q : Bool → zf_Me → Prop} (hq : ∀ b m', zPo m m' → Q b m') : ∃ n80, wq_159_80 Q n80 w 0 m := by
  have e1 : (1 : Int32).toInt = 1 := rfl
  have e0 : (0 : Int32).toInt = 0 := rfl
  have nb := zw_nl w.toInt.toNat (by omega)
  have lp : ∀ (k : Nat) (v : Int32) (mj : zf_Me), 0 ≤ v.toInt → v.toInt ≤ (znl.getD w.toInt.toNat 0).toInt → 2 - v.toInt < k → zPn m mj → (0 < v.toInt → zgd mj w.toInt 0) → (1 < v.toInt → zgd mj w.toInt 1) → wq_159_80 Q k w v mj := by
    intro k
    induction k with
    | zero => intro v mj k0 k1 k2; omega
    | succ k ih =>
      intro v mj k0 k1 k2 kf kg0 kg1
      have hj := zPt_n h kf
      have bj := hj.1
      have zj := zPn_z kf
      have en : (mj.1 77 w.toInt.toNat).toInt = (znl.getD w.toInt.toNat 0).toInt := by rw [hj.2.2.2 w.toInt.toNat (by omega)]
      have Qn : ∀ b m', zPn mj m' → Q b m' := fun b m' f => hq b m' (zPn_o h (zPn_t kf f))
      have t144 : v.toInt < (znl.getD w.toInt.toNat 0).toInt → ∀ mi, zPn mj mi → (∀ i, mi.1 78 i = mj.1 78 i) → wq_159_144 (wq_159_80 Q k) w v mi Q := by
        intro gv mi fi ri
        have hi := zPt_n hj fi
        refine zs_157 hi (fun m38 f38 a0 a9 r38 => ⟨fun _ => ?_, fun z => (nomatch z)⟩) (fun m38 f38 => ⟨fun z => (nomatch z), fun _ => Qn _ m38 (zPn_t fi f38)⟩)
        have h38 := zPt_n hi f38
        refine zs_158 h38 ⟨hw.1, hw.2, fun z => ?_⟩ (fun ok => ⟨fun _ => ⟨by omega, fun m41 q41 => ?_⟩, fun z => (nomatch z)⟩) ⟨fun z => (nomatch z), fun _ => zs_153 h38 (fun m' f' => Qn _ m' (zPn_t fi (zPn_t f38 f')))⟩
        · have y : (znl.getD w.toInt.toNat 0).toInt = 0 := by
            rw [z]
            rfl
          omega
        · have f41 : zPn m38 m41 := by
            rw [q41]
            exact zPn_u (zPn_r h38) (by omega)
          have z41 : zr m41 = zr m38 := zPn_z f41
          have z38 : zr m38 = zr mj := (zPn_z f38).trans (zPn_z fi)
          have sv := fb_addI (x := v) (y := 1) (by omega) (by omega)
          refine ih _ m41 (by omega) (by omega) (by omega) (zPn_t kf (zPn_t fi (zPn_t f38 f41))) (fun _ => ?_) (fun _ => ?_)
          · unfold zgd
            rw [z41]
            by_cases e : v.toInt = 0
            · rw [q41, show v.toInt.toNat = 0 by omega, zf_u3]
              rw [e] at ok
              exact ⟨a0, a9, ok⟩
            · have g := kg0 (by omega)
              rw [q41, zf_u4 (by omega), r38, ri, z38]
              exact g
          · have e : v.toInt = 1 := by omega
            unfold zgd
            rw [z41, q41, show v.toInt.toNat = 1 by omega, zf_u3]
            rw [e] at ok
            exact ⟨a0, a9, ok⟩
      refine ⟨by omega, fun g => ?_, fun g => ?_⟩
      · rw [en] at g
        exact zs_act80 hj hw (by rw [zj]; exact ho) (fun z => kg0 (by omega)) (fun z => kg1 (by omega)) (fun b m' f => hq b m' (zPo_t (zPn_o h kf) f))
      · rw [en] at g
        refine ⟨fun _ => t144 g mj (zPn_r hj) (fun i => rfl), fun _ => ⟨fun _ => zs_153 hj (fun m' f' => Qn _ m' f'), fun g3 => ?_⟩⟩
        have ad := fb_addI (x := mj.1 63 29) (y := mj.1 63 30) (by omega) (by omega)
        have sa := fb_addI (x := mj.1 63 30) (y := 1) (by omega) (by omega)
        refine ⟨by omega, fun _ m47 q47 => t144 g m47 ?_ (fun i => by rw [q47, zf_u1 (by decide)]), fun _ => zs_153 hj (fun m' f' => Qn _ m' f')⟩
        rw [q47]
        exact zPn_at (zPn_r hj) (by omega) (by omega)
  exact ⟨4, lp 4 0 m (by decide) (by rw [e0]; exact nb.1) (by decide) (zPn_r h) (fun z => absurd z (by decide)) (fun z => absurd z (by decide))⟩
theorem zs_159 (h : zPt m) {Q : Bool → zf_Me → Prop} (hq : ∀ b m', zPo m m' → Q b m') : wp_159 m Q := by
  have pf : zr m 5 5 = (m.1 63 0).toInt := rfl
  have pp : zr m 5 6 = (m.1 63 1).toInt := rfl
  have no : ∀ v, wp_153 v m (fun b m' => Q b m') := fun v => zs_153 h (fun m' f => hq _ m' (zPn_o h f))
  have t66 : (zmw m 0 → ¬ (m.1 63 0).toInt = 24) → (zmw m 1 → ¬ (m.1 63 0).toInt = 24) → (zmw m 2 → ¬ (m.1 63 0).toInt = 0) → (zmw m 3 → ¬ (m.1 63 1).toInt = 6) → wq_159_66 m Q := by
    intro g0 g1 g2 g3
    refine zs_155 h (fun m' f => ⟨fun z => absurd rfl z, fun _ => hq _ m' (zPn_o h f)⟩) (fun x m' x0 x12 mw f => ⟨fun _ => zs_80 (zPt_n h f) ⟨x0, x12⟩ ?_ (fun b m'' f' => hq b m'' (zPo_t (zPn_o h f) f')), fun z => by have e : (-1 : Int32).toInt = -1 := rfl; omega⟩)
    rw [zPn_z f]
    refine ⟨fun z => ?_, fun z => ?_, fun z => ?_⟩
    · rw [pf]
      rcases z with z | z
      · rw [z] at mw
        exact g0 mw
      · rw [z] at mw
        exact g1 mw
    · rw [pf]
      rw [z] at mw
      exact g2 mw
    · rw [pp]
      rw [z] at mw
      exact g3 mw
  have t40 : (zmw m 0 → ¬ (m.1 63 0).toInt = 24) → (zmw m 1 → ¬ (m.1 63 0).toInt = 24) → (zmw m 2 → ¬ (m.1 63 0).toInt = 0) → wq_159_40 m Q := fun g0 g1 g2 =>
    zs_154 h (by decide) ⟨fun z => (nomatch z), fun _ => ⟨fun n => t66 g0 g1 g2 (fun _ => n), fun _ => no _⟩⟩ (fun n => ⟨fun _ => t66 g0 g1 g2 (fun z => absurd z n), fun z => (nomatch z)⟩)
  have t25 : (zmw m 0 → ¬ (m.1 63 0).toInt = 24) → (zmw m 1 → ¬ (m.1 63 0).toInt = 24) → wq_159_25 m Q := fun g0 g1 =>
    zs_154 h (by decide) ⟨fun z => (nomatch z), fun _ => ⟨fun _ => no _, fun n => t40 g0 g1 (fun _ => n)⟩⟩ (fun n => ⟨fun _ => t40 g0 g1 (fun z => absurd z n), fun z => (nomatch z)⟩)
  have t16 : wq_159_16 m Q := ⟨fun _ => no _, fun n => t25 (fun _ => n) (fun _ => n)⟩
  exact zs_154 h (by decide) ⟨fun _ => t16, fun z => (nomatch z)⟩ (fun n0 => ⟨fun z => (nomatch z), fun _ => zs_154 h (by decide) ⟨fun z => (nomatch z), fun _ => t16⟩ (fun n1 => ⟨fun _ => t25 (fun z => absurd z n0) (fun z => absurd z n1), fun z => (nomatch z)⟩)⟩)
theorem zy_162 (hJ : JM m) {s : Int32} {Q : Int32 → zf_Me → Prop} (hq : ∀ (v : Int32) (m' : zf_Me), JM m' → zfd m m' → Q v m') : wp_162 s m Q := by
  have K : ∀ v m', zgB m m' → zB (zr m') → Q v m' := fun v m' f b => hq v m' (JM_b hJ f b) (zfd_b f)
  have R : ∀ {w : Int32}, (-8 < w.toInt ∧ w.toInt ≤ 0) → wp_125 w m Q := fun hw => zk_125 hw hJ.1 (fun v m' f b => K v m' (zgQ_b f) b)
  have e1 : (1 : Int32).toInt = 1 := rfl
  have e0 : (0 : Int32).toInt = 0 := rfl
  have e160 : (160 : Int32).toInt = 160 := rfl
  refine zs_137 (fun hs _ _ => ⟨fun _ => ?_, fun z => absurd rfl z⟩) (fun x a b => ⟨fun z => by omega, fun _ => R (by omega)⟩)
  refine zs_161s (by decide) rfl (by decide) (fun m4 a4 f4 z4 m5 q5 m7 q7 => ⟨hs, fun m9 q9 m11 q11 => ?_⟩)
  have a4' : zA 79 0 m4 = zr m := a4
  have bs := hJ.2.1 s.toInt.toNat (by omega)
  have mu := fb_mulI (x := 160) (y := s) (by rw [e160]; omega) (by rw [e160]; omega)
  rw [e160] at mu
  have f11 : zgr' (fun a k => (a = 63 ∧ 13 ≤ k ∧ k < 40) ∨ a = 79) m m11 := by
    rw [q11, q9, q7, q5]
    exact zgr_u (zgr_u (zgr_u (zgr_u (zgr_mono f4 (fun a k z => by omega)) (by omega)) (by omega)) (by omega)) (by omega)
  have z11 : zr m11 = zr m := zr_of f11 (fun a k z => by omega)
  have l7 : m7.1 72 s.toInt.toNat = m.1 72 s.toInt.toNat := by rw [q7, zf_u1 (by decide), q5, zf_u1 (by decide), f4.1 72 _ (by omega)]
  have A11 : zA 79 0 m11 = zr m := by
    rw [← a4']
    exact zL_ext (fun i _ => by rw [q11, zf_u1 (by decide), q9, zf_u1 (by decide), q7, zf_u1 (by decide), q5, zf_u1 (by decide)])
  have c29 : (m11.1 63 29).toInt = 160 * s.toInt := by rw [q11, zf_u4 (by decide), q9, zf_u4 (by decide), q7, zf_u4 (by decide), q5, zf_u3, mu]
  have c30 : (m11.1 63 30).toInt = 0 := by rw [q11, zf_u4 (by decide), q9, zf_u4 (by decide), q7, zf_u3, e0]
  have c31 : (m11.1 63 31).toInt = (m.1 72 s.toInt.toNat).toInt := by rw [q11, zf_u4 (by decide), q9, zf_u3, l7]
  have h11 : zPt m11 := ⟨by unfold zpt; rw [c29, c30, c31]; omega, by rw [z11]; exact hJ.1, zwd_of f11 (fun a k z => by omega) hJ.2.2.2⟩
  have q79 : ∀ {m'}, zPo m11 m' → zA 79 0 m' = zr m := fun f => by
    rw [zA_of f.1 (fun k => by omega)]
    exact A11
  have gq : ∀ {m'}, zPo m11 m' → zgB m m' := fun f => zgr_trans (zgr_mono f11 (fun a k z => by omega)) (zgr_mono f.1 (fun a k z => by omega))
  have t134 : ∀ v3 v4 mj, zPo m11 mj → wq_162_134 s v3 v4 mj Q := by
    intro v3 v4 mj fj
    refine ⟨fun _ => zs_161b (by decide) (by decide) (by decide) (fun m16 z16 f16 m17 q17 => ?_), fun _ => K _ mj (gq fj) fj.2.1.2.1⟩
    have z16' : zr m16 = zA 79 0 mj := z16
    have z17 : zr m17 = zr m := by
      rw [q17, zrk_44 (by decide), z16']
      exact q79 fj
    have F17 : zgB m m17 := by
      rw [q17]
      exact zgr_u (zgr_trans (gq fj) (zgQ_b (zgc_q f16))) (by omega)
    exact zk_125 (by decide) (by rw [z17]; exact hJ.1) (fun v m' f b => K v m' (zgr_trans F17 (zgQ_b f)) b)
  have lp : ∀ (k : Nat) (v3 v4 : Int32) (mj : zf_Me), 160 - (mj.1 63 30).toInt + 2 < k → zPo m11 mj → wq_162_63 s Q k v3 v4 mj := by
    intro k
    induction k with
    | zero =>
      intro v3 v4 mj k0 kf
      have := kf.2.1.1
      omega
    | succ k ih =>
      intro v3 v4 mj k0 kf
      have hj := kf.2.1
      have bj := hj.1
      refine ⟨fun _ => t134 _ _ mj kf, fun _ => ⟨fun _ => t134 _ _ mj kf, fun g => ?_⟩⟩
      have ad := fb_addI (x := mj.1 63 29) (y := mj.1 63 30) (by omega) (by omega)
      have sa := fb_addI (x := mj.1 63 30) (y := 1) (by omega) (by omega)
      refine ⟨by omega, fun _ m21 q21 => ?_, fun _ => zs_153 hj (fun m' f' => ?_)⟩
      · have f21 : zPn mj m21 := by
          rw [q21]
          exact zPn_at (zPn_r hj) (by omega) (by omega)
        have a21 : (m21.1 63 30).toInt = (mj.1 63 30).toInt + 1 := by rw [q21, zf_u3, sa, e1]
        refine zs_159 (zPt_n hj f21) (fun b m24 f24 => ih _ _ m24 ?_ (zPo_t kf (zPo_t (zPn_o hj f21) f24)))
        have := f24.2.2
        omega
      · obtain ⟨j, rfl⟩ : ∃ j, k = j + 1 := ⟨k - 1, by omega⟩
        exact ⟨fun _ => t134 _ _ m' (zPo_t kf (zPn_o hj f')), fun z => absurd rfl z⟩
  exact zs_159 h11 (fun b m14 f14 => ⟨164, lp 164 1 _ m14 (by have := f14.2.1.1; omega) f14⟩)
end
