/-! part 64: the reference's rules keep to the same functions -/
def zrm (m : zf_Me) : zRS := (zr m, (m.1 63 44).toInt, (m.1 63 46).toInt, (m.1 63 45).toInt)
abbrev zcoR (a k : Nat) : Prop := zcore a k ∨ (a = 63 ∧ 44 ≤ k ∧ k ≤ 46)
abbrev zgR (m m' : zf_Me) : Prop := zgr' zcoR m m'
theorem zgc_R {m m' : zf_Me} (h : zgc m m') : zgR m m' := zgr_mono h (fun _ _ z => Or.inl z)
theorem zrk_44 {m : zf_Me} {k : Nat} {x : Int32} (hk : 13 ≤ k) : zr (zf_u m 63 k x) = zr m := zr_fr (fun j hj => zf_u4 (by omega)) (fun a _ _ => zf_u1 (by omega))
theorem zno {b : Bool} {p : Prop} (h : b = true ↔ p) (e : b = false) : ¬ p := fun z => by rw [h.mpr z] at e; cases e
section
variable {m : zf_Me}
theorem zs_176 (hB : zB (zr m)) {Q : Int32 → zf_Me → Prop} (hq : ∀ x : Int32, x.toInt = zfresh (zr m) (m.1 63 1).toInt.toNat → Q x m) : wp_176 m Q := by
  have e1 : (1 : Int32).toInt = 1 := rfl
  have e0 : (0 : Int32).toInt = 0 := rfl
  have b := zB_r hB
  have lp : ∀ (n : Nat) (v1 v2 : Int32), 0 ≤ v2.toInt → v2.toInt ≤ (m.1 63 1).toInt → (m.1 63 1).toInt - v2.toInt < n → v1.toInt = zfresh (zr m) v2.toInt.toNat → wq_176_4 Q n v1 v2 m := by
    intro n
    induction n with
    | zero => intro v1 v2 h0 h1 h2; omega
    | succ n ih =>
      intro v1 v2 h0 h1 h2 h3
      have s := fb_addI (x := v2) (y := 1) (by omega) (by omega)
      have e2 : (v2 + 1).toInt.toNat = v2.toInt.toNat + 1 := by omega
      have ej : ((v2.toInt.toNat : Nat) : Int) = v2.toInt := by omega
      have go : ∀ x : Int32, v2.toInt < (m.1 63 1).toInt → x.toInt = zfresh (zr m) (v2.toInt.toNat + 1) → wq_176_4 Q n x (v2 + 1) m := fun x hl hx => ih x _ (by omega) (by omega) (by omega) (by rw [e2]; exact hx)
      have st : zfresh (zr m) (v2.toInt.toNat + 1) = if zcarryOk (zr m) v2.toInt ∧ (zfresh (zr m) v2.toInt.toNat = -1 ∨ zr m 4 v2.toInt.toNat < zr m 4 (zfresh (zr m) v2.toInt.toNat).toNat) then v2.toInt else zfresh (zr m) v2.toInt.toNat := by
        show (if zcarryOk (zr m) ((v2.toInt.toNat : Nat) : Int) ∧ _ then ((v2.toInt.toNat : Nat) : Int) else _) = _
        rw [ej]
      refine ⟨fun g => hq v1 (by rw [h3, show v2.toInt = (m.1 63 1).toInt by omega]), fun g => zs_166 hB (fun b1 h1b => ⟨fun e => go v1 g ?_, fun e => ⟨fun g2 => go v2 g ?_, fun g2 => ?_⟩⟩)⟩
      · rw [st, if_neg (fun z => zno h1b e z.1), h3]
      · rw [st, if_pos ⟨h1b.mp e, Or.inl (by rw [← h3, g2])⟩]
      · have ok := (zfresh_ok (zr m) v2.toInt.toNat).resolve_left (fun z => g2 (by rw [h3, z]))
        have hb : 0 ≤ v1.toInt ∧ v1.toInt < (m.1 63 1).toInt := by
          rw [h3]
          exact ok.1
        have a1 : zr m 4 v2.toInt.toNat = (m.1 69 v2.toInt.toNat).toInt := zN_lt (by omega)
        have a2 : zr m 4 v1.toInt.toNat = (m.1 69 v1.toInt.toNat).toInt := zN_lt (by omega)
        refine ⟨⟨by omega, by omega⟩, ⟨by omega, by omega⟩, fun g3 => go v1 g ?_, fun g3 => go v2 g ?_⟩
        · rw [st, if_neg (fun z => ?_), h3]
          rcases z.2 with z | z
          · exact g2 (by rw [h3, z])
          · rw [← h3, a1, a2] at z
            omega
        · have lt : zr m 4 v2.toInt.toNat < zr m 4 (zfresh (zr m) v2.toInt.toNat).toNat := by
            rw [← h3, a1, a2]
            omega
          rw [st, if_pos ⟨h1b.mp e, Or.inr lt⟩]
  exact ⟨7, lp 7 (-1) 0 (by omega) (by omega) (by omega) rfl⟩
theorem zs_177 (hB : zB (zr m)) (ht : 0 ≤ (m.1 63 44).toInt ∧ (m.1 63 44).toInt ≤ 5) {rule : Int32} (hr : 0 ≤ rule.toInt ∧ rule.toInt ≤ 3) {Q : Int32 → zf_Me → Prop} (hq : ∀ (x : Int32) (m' : zf_Me), x.toInt = zchoose (zr m) rule.toInt (m.1 63 44).toInt → zr m' = zr m → (m'.1 63 44).toInt = zturn1 (zr m) rule.toInt (m.1 63 44).toInt → m'.1 63 45 = m.1 63 45 → m'.1 63 46 = m.1 63 46 → zgR m m' → Q x m') : wp_177 rule m Q := by
  have e1 : (1 : Int32).toInt = 1 := rfl
  have e0 : (0 : Int32).toInt = 0 := rfl
  have e6 : (6 : Int32).toInt = 6 := rfl
  have e7 : (7 : Int32).toInt = 7 := rfl
  have e8 : (8 : Int32).toInt = 8 := rfl
  have e9 : (9 : Int32).toInt = 9 := rfl
  have en : (-1 : Int32).toInt = -1 := rfl
  have b := zB_r hB
  -- nobody was chosen
  have t117 : zfirst (zr m) rule.toInt (m.1 63 44).toInt = -1 → zchoose (zr m) rule.toInt (m.1 63 44).toInt = zrest (zr m) (zfirst (zr m) rule.toInt (m.1 63 44).toInt) → (m.1 63 44).toInt = zturn1 (zr m) rule.toInt (m.1 63 44).toInt → wq_177_117 rule m Q := by
    intro hf hc tu
    have c : zchoose (zr m) rule.toInt (m.1 63 44).toInt = if zmay (zr m) 6 then 6 else if zmay (zr m) 9 then 9 else -1 := by
      rw [hc, hf]
      exact if_pos rfl
    refine zs_167 hB (by decide) (fun b1 k1 => ⟨fun e => zs_167 hB (by decide) (fun b2 k2 => ⟨fun e2 => hq (-1) m ?_ rfl tu rfl rfl zgr_refl, fun e2 => hq 9 m ?_ rfl tu rfl rfl zgr_refl⟩), fun e => hq 6 m ?_ rfl tu rfl rfl zgr_refl⟩)
    · rw [c, if_neg (show ¬ zmay (zr m) 6 from zno k1 e), if_neg (show ¬ zmay (zr m) 9 from zno k2 e2), en]
    · rw [c, if_neg (show ¬ zmay (zr m) 6 from zno k1 e), if_pos (show zmay (zr m) 9 from k2.mp e2), e9]
    · rw [c, if_pos (show zmay (zr m) 6 from k1.mp e), e6]
  have tu : ¬ rule.toInt = 0 → (m.1 63 44).toInt = zturn1 (zr m) rule.toInt (m.1 63 44).toInt := fun g => by
    unfold zturn1
    rw [if_neg (fun z => g z.1)]
  -- no walk, biscuit, race came first
  have t101 : (rule.toInt = 0 → zwho (zr m) (m.1 63 44).toInt (m.1 63 1).toInt.toNat 0 = -1) → zchoose (zr m) rule.toInt (m.1 63 44).toInt = zrest (zr m) (zfirst (zr m) rule.toInt (m.1 63 44).toInt) → wq_177_101 rule m Q := by
    intro h0 hc
    refine ⟨fun g => t117 ?_ hc ?_, fun g => zs_176 hB (fun x hx => ⟨fun g2 => t117 ?_ hc (tu (by omega)), fun g2 => hq x m ?_ rfl (tu (by omega)) rfl rfl zgr_refl⟩)⟩
    · unfold zfirst
      rw [if_pos (by omega)]
      exact h0 (by omega)
    · unfold zturn1
      exact (if_neg (fun z => z.2 (h0 z.1))).symm
    · unfold zfirst
      rw [if_neg (by omega)]
      show zfresh (zr m) (m.1 63 1).toInt.toNat = -1
      rw [← hx, g2]
    · have ff : zfirst (zr m) rule.toInt (m.1 63 44).toInt = x.toInt := by
        unfold zfirst
        rw [if_neg (by omega)]
        exact hx.symm
      rw [hc, ff]
      exact (if_neg g2).symm
  have t50 : (rule.toInt = 0 → zwho (zr m) (m.1 63 44).toInt (m.1 63 1).toInt.toNat 0 = -1) → wq_177_50 rule m Q := by
    intro h0
    have t67 : ¬ (2 ≤ rule.toInt ∧ zmay (zr m) 6) → wq_177_67 rule m Q := by
      intro n1
      have t84 : ¬ (rule.toInt = 3 ∧ zmay (zr m) 7) → wq_177_84 rule m Q := by
        intro n2
        refine ⟨fun g => t101 h0 ?_, fun g => zs_167 hB (by decide) (fun b1 k1 => ⟨fun e => t101 h0 ?_, fun e => hq 8 m ?_ rfl (tu (by omega)) rfl rfl zgr_refl⟩)⟩
        · unfold zchoose
          rw [if_neg n1, if_neg n2, if_neg (fun z => g z.1)]
        · unfold zchoose
          rw [if_neg n1, if_neg n2, if_neg (fun z => zno k1 e z.2)]
        · unfold zchoose
          rw [if_neg n1, if_neg n2, if_pos ⟨g, k1.mp e⟩, e8]
      refine ⟨fun g => t84 (fun z => g z.1), fun g => zs_167 hB (by decide) (fun b1 k1 => ⟨fun e => t84 (fun z => zno k1 e z.2), fun e => hq 7 m ?_ rfl (tu (by omega)) rfl rfl zgr_refl⟩)⟩
      unfold zchoose
      rw [if_neg n1, if_pos ⟨g, k1.mp e⟩, e7]
    refine ⟨fun g => t67 (fun z => by omega), fun g => zs_167 hB (by decide) (fun b1 k1 => ⟨fun e => t67 (fun z => zno k1 e z.2), fun e => hq 6 m ?_ rfl (tu (by omega)) rfl rfl zgr_refl⟩)⟩
    unfold zchoose
    rw [if_pos ⟨by omega, k1.mp e⟩, e6]
  refine ⟨fun g => t50 (fun z => absurd z g), fun g => ?_⟩
  have lp : ∀ (n : Nat) (v2 : Int32), 0 ≤ v2.toInt → v2.toInt ≤ (m.1 63 1).toInt → (m.1 63 1).toInt - v2.toInt < n → zwho (zr m) (m.1 63 44).toInt (m.1 63 1).toInt.toNat 0 = zwho (zr m) (m.1 63 44).toInt ((m.1 63 1).toInt - v2.toInt).toNat v2.toInt.toNat → wq_177_6 rule Q n v2 m := by
    intro n
    induction n with
    | zero => intro v2 h0 h1 h2; omega
    | succ n ih =>
      intro v2 h0 h1 h2 h3
      have s := fb_addI (x := v2) (y := 1) (by omega) (by omega)
      have e2 : (v2 + 1).toInt.toNat = v2.toInt.toNat + 1 := by omega
      have s2 := fb_addI (x := m.1 63 44) (y := v2) (by omega) (by omega)
      refine ⟨fun gg => t50 (fun _ => by rw [h3, show ((m.1 63 1).toInt - v2.toInt).toNat = 0 by omega]; rfl), fun gg => ⟨by omega, ?_⟩⟩
      have rm := zf_remG (x := m.1 63 44 + v2) (y := m.1 63 1) (by omega) (by omega)
      rw [s2] at rm
      have st : zwho (zr m) (m.1 63 44).toInt ((m.1 63 1).toInt - v2.toInt).toNat v2.toInt.toNat = if zcarryOk (zr m) (((m.1 63 44).toInt + v2.toInt) % (m.1 63 1).toInt) then ((m.1 63 44).toInt + v2.toInt) % (m.1 63 1).toInt else zwho (zr m) (m.1 63 44).toInt ((m.1 63 1).toInt - (v2 + 1).toInt).toNat (v2 + 1).toInt.toNat := by
        rw [show ((m.1 63 1).toInt - v2.toInt).toNat = ((m.1 63 1).toInt - (v2 + 1).toInt).toNat + 1 by omega, e2]
        show (if zcarryOk (zr m) (((m.1 63 44).toInt + ((v2.toInt.toNat : Nat) : Int)) % (m.1 63 1).toInt) then _ else _) = _
        rw [show ((v2.toInt.toNat : Nat) : Int) = v2.toInt by omega]
        rfl
      refine zs_166 hB (fun b1 hb1 => ⟨fun e m15 q15 => ?_, fun e => ih _ (by omega) (by omega) (by omega) ?_⟩)
      · obtain ⟨x, hx⟩ : ∃ x, x = m.1 63 44 + v2 - (m.1 63 44 + v2) / m.1 63 1 * m.1 63 1 := ⟨_, rfl⟩
        rw [← hx] at q15 rm ⊢
        have ok : zcarryOk (zr m) x.toInt := by
          rw [hx]
          exact hb1.mp e
        have w : zwho (zr m) (m.1 63 44).toInt (zr m 5 6).toNat 0 = x.toInt := by
          show zwho (zr m) (m.1 63 44).toInt (m.1 63 1).toInt.toNat 0 = _
          rw [h3, st, if_pos (by rw [← rm]; exact ok), rm]
        have xb : 0 ≤ x.toInt := ok.1.1
        refine hq x m15 ?_ (by rw [q15]; exact zrk_44 (by decide)) ?_ (by rw [q15, zf_u4 (by decide)]) (by rw [q15, zf_u4 (by decide)]) (by rw [q15]; exact zgr_u zgr_refl (by omega))
        · unfold zchoose
          rw [if_neg (by omega), if_neg (by omega), if_neg (by omega)]
          unfold zfirst
          rw [if_pos g, w]
          exact (if_neg (by omega)).symm
        · rw [q15, zf_u3]
          unfold zturn1
          rw [w]
          exact (if_pos ⟨g, by omega⟩).symm
      · rw [h3, st, if_neg (fun z => by rw [← rm] at z; exact zno hb1 e z)]
  refine ⟨7, lp 7 0 (by omega) (by omega) (by omega) ?_⟩
  rw [e0, Int.sub_zero]
  rfl
theorem zs_179 (hR : zRB (zrm m)) {rule : Int32} (hr : 0 ≤ rule.toInt ∧ rule.toInt ≤ 3) {Q : Bool → zf_Me → Prop} (hq : ∀ (b : Bool) (m' : zf_Me), (b = true → zstp (zrm m) rule.toInt = some (zrm m')) → (b = false → zstp (zrm m) rule.toInt = none ∧ zrm m' = zrm m) → zgR m m' → Q b m') : wp_179 rule m Q := by
  have e1 : (1 : Int32).toInt = 1 := rfl
  have e0 : (0 : Int32).toInt = 0 := rfl
  have hB : zB (zr m) := hR.1
  have ht : 0 ≤ (m.1 63 44).toInt ∧ (m.1 63 44).toInt ≤ 5 := hR.2.1
  have hn : 0 ≤ (m.1 63 46).toInt ∧ (m.1 63 46).toInt ≤ 60 := hR.2.2.1
  have hw : 0 ≤ (m.1 63 45).toInt ∧ (m.1 63 45).toInt ≤ 99 := hR.2.2.2
  have b := zB_r hB
  have no : zstp (zrm m) rule.toInt = none → Q false m := fun h => hq false m (fun z => nomatch z) (fun _ => ⟨h, rfl⟩) zgr_refl
  refine ⟨fun g => no ?_, fun g => ⟨fun hh' => zs_177 hB ht hr (fun x mc hx hz h1 h2 h3 hf => ?_), fun g2 => no ?_⟩⟩
  · unfold zstp
    exact if_neg (fun z => by have q : (m.1 63 46).toInt < 60 := z.1; omega)
  · have hh : (m.1 63 10).toInt < (m.1 63 0).toInt := by omega
    refine ⟨fun g2 => ?_, fun g2 => hq false mc (fun z => nomatch z) (fun _ => ⟨?_, ?_⟩) hf⟩
    · have hc : ¬ zchoose (zr m) rule.toInt (m.1 63 44).toInt = -1 := by rw [← hx]; exact g2
      have hm := zchoose_may hB hc
      have yes : zstp (zrm m) rule.toInt = some (znext (zrm m) rule.toInt (zchoose (zr m) rule.toInt (m.1 63 44).toInt)) := by
        unfold zstp
        exact if_pos ⟨by show (m.1 63 46).toInt < 60; omega, hh, hc⟩
      rw [← hx] at hm yes
      have xb : 0 ≤ x.toInt ∧ x.toInt ≤ 9 := by
        rcases hm with z | z | z | z | z
        · omega
        · omega
        · omega
        · omega
        · have q : 0 ≤ x.toInt ∧ x.toInt < (m.1 63 1).toInt := z.2.2.2.2.1
          omega
      have hB2 := zB_act hB hm
      have b2 := hB2.1
      have t1b := zturn1_b (rule := rule.toInt) hB ht
      refine zs_169 (by rw [hz]; exact hB) xb (by rw [hz]; exact hm) (fun m4 z4 f4 m5 q5 => ?_)
      rw [hz] at z4
      have z5 : zr m5 = zact (zr m) x.toInt := by rw [q5, zrk_44 (by decide), z4]
      have k4 : ∀ k, 13 ≤ k → m4.1 63 k = mc.1 63 k := fun k hk => f4.1 63 k (by omega)
      have n5 : (m5.1 63 46).toInt = (m.1 63 46).toInt + 1 := by rw [q5, zf_u3, k4 46 (by decide), h3, fb_addI (by omega) (by omega), e1]
      have w5 : m5.1 63 45 = m.1 63 45 := by rw [q5, zf_u4 (by decide), k4 45 (by decide), h2]
      have t5 : (m5.1 63 44).toInt = zturn1 (zr m) rule.toInt (m.1 63 44).toInt := by rw [q5, zf_u4 (by decide), k4 44 (by decide), h1]
      have f5 : zgR m m5 := by
        rw [q5]
        exact zgr_u (zgr_trans hf (zgc_R f4)) (by omega)
      have p5 : (m5.1 63 1).toInt = (m.1 63 1).toInt := by
        show zr m5 5 6 = _
        rw [z5, zact_people]
        rfl
      have h5 : (m5.1 63 10).toInt = zact (zr m) x.toInt 5 10 := by rw [← z5]; rfl
      -- the greatest tired, then the end
      have t93 : ∀ mj, zr mj = zr m5 → mj.1 63 45 = m5.1 63 45 → mj.1 63 46 = m5.1 63 46 → zgR m mj → (mj.1 63 44).toInt = (znext (zrm m) rule.toInt x.toInt).2.1 → wq_179_93 rule mj Q := by
        intro mj a1 a2 a3 a4 a5
        have pj : (mj.1 63 1).toInt = (m.1 63 1).toInt := by
          show zr mj 5 6 = _
          rw [a1, z5, zact_people]
          rfl
        refine zs_170 (by rw [a1, z5]; exact hB2) (fun y hy => ?_)
        rw [a1, z5, pj] at hy
        have fin : ∀ (v : Int32) (m' : zf_Me), m' = zf_u mj 63 45 v → v.toInt = (if (m.1 63 45).toInt < y.toInt then y.toInt else (m.1 63 45).toInt) → Q true m' := by
          intro v m' q' hv
          refine hq true m' (fun _ => ?_) (fun z => nomatch z) (by rw [q']; exact zgr_u a4 (by omega))
          rw [yes]
          congr 1
          unfold zrm
          rw [q', zrk_44 (by decide), a1, z5, zf_u4 (by decide), a5, zf_u4 (by decide), a3, n5, zf_u3, hv, hy]
          rfl
        rw [a2, w5]
        exact ⟨fun gy m9 q9 => fin _ m9 q9 (by rw [if_neg (by omega)]), fun gy m11 q11 => fin _ m11 q11 (by rw [if_pos (by omega)])⟩
      have keep : ¬ (¬ x.toInt = 9 ∧ 0 < (m.1 63 1).toInt ∧ zact (zr m) x.toInt 1 (zact (zr m) x.toInt 5 10 - 1).toNat = 1) → wq_179_93 rule m5 Q := fun k => t93 m5 rfl rfl rfl f5 (by
        rw [t5]
        exact (if_neg k).symm)
      have ah := zact_here (f := zr m) (a := x.toInt)
      refine ⟨fun k => keep (fun z => z.1 k), fun k => ?_⟩
      rw [if_neg k] at ah
      have ah2 : zact (zr m) x.toInt 5 10 = (m.1 63 10).toInt + 1 := ah
      have s5 := fb_subI (x := m5.1 63 10) (y := 1) (by omega) (by omega)
      have a1 : (m5.1 66 (m5.1 63 10 - 1).toInt.toNat).toInt = zact (zr m) x.toInt 1 (zact (zr m) x.toInt 5 10 - 1).toNat := by
        rw [s5, e1, h5, ← z5]
        exact (zN_lt (by rw [z5]; omega)).symm
      refine ⟨⟨by omega, by omega⟩, fun k3 => keep (fun z => k3 (by rw [a1]; exact z.2.2)), fun k3 => ⟨fun k2 => keep (fun z => by have := z.2.1; omega), fun k2 => ⟨by omega, fun m13 q13 => ?_⟩⟩⟩
      refine t93 m13 (by rw [q13, zrk_44 (by decide)]) (by rw [q13, zf_u4 (by decide)]) (by rw [q13, zf_u4 (by decide)]) (by rw [q13]; exact zgr_u f5 (by omega)) ?_
      have s9 := fb_addI (x := m5.1 63 44) (y := 1) (by omega) (by omega)
      have r9 := zf_remG (x := m5.1 63 44 + 1) (y := m5.1 63 1) (by omega) (by omega)
      have kk : ¬ x.toInt = 9 ∧ 0 < (m.1 63 1).toInt ∧ zact (zr m) x.toInt 1 (zact (zr m) x.toInt 5 10 - 1).toNat = 1 := ⟨k, by omega, by rw [← a1]; exact k3⟩
      rw [q13, zf_u3, r9, s9, t5, p5, e1]
      exact (if_pos kk).symm
    · unfold zstp
      exact if_neg (fun z => z.2.2 (by rw [← g2, hx]; rfl))
    · have hw0 : zwho (zr m) (m.1 63 44).toInt (m.1 63 1).toInt.toNat 0 = -1 ∨ ¬ rule.toInt = 0 := by
        by_cases r0 : rule.toInt = 0
        · left
          have c : zchoose (zr m) rule.toInt (m.1 63 44).toInt = -1 := by rw [← hx, g2]
          unfold zchoose at c
          rw [if_neg (by omega), if_neg (by omega), if_neg (by omega)] at c
          unfold zrest zfirst at c
          rw [if_pos r0] at c
          split at c
          · rename_i k; exact k
          · exact c
        · exact Or.inr r0
      have t1 : (mc.1 63 44).toInt = (m.1 63 44).toInt := by
        rw [h1]
        unfold zturn1
        refine if_neg (fun z => ?_)
        rcases hw0 with k | k
        · exact z.2 k
        · exact k z.1
      unfold zrm
      rw [hz, t1, h2, h3]
  · unfold zstp
    exact if_neg (fun z => by have q : (m.1 63 10).toInt < (m.1 63 0).toInt := z.2.1; omega)
theorem zs_178 (hB : zB (zr m)) {Q : zf_Me → Prop} (hq : ∀ m', zrm m' = zbeg (zr m) → zgR m m' → zr m' = zr m → Q m') : wp_178 m Q := by
  have e0 : (0 : Int32).toInt = 0 := rfl
  intro m1 q1 m3 q3
  have z3 : zr m3 = zr m := by rw [q3, zrk_44 (by decide), q1, zrk_44 (by decide)]
  have c1 : m3.1 63 1 = m.1 63 1 := by rw [q3, zf_u4 (by decide), q1, zf_u4 (by decide)]
  refine zs_170 (by rw [z3]; exact hB) (fun x hx m7 q7 => hq m7 ?_ ?_ ?_)
  · have z7 : zr m7 = zr m := by rw [q7, zrk_44 (by decide), z3]
    have a1 : (m7.1 63 44).toInt = 0 := by rw [q7, zf_u4 (by decide), q3, zf_u4 (by decide), q1, zf_u3, e0]
    have a2 : (m7.1 63 46).toInt = 0 := by rw [q7, zf_u4 (by decide), q3, zf_u3, e0]
    have a3 : (m7.1 63 45).toInt = zgr (zr m) (zr m 5 6).toNat := by
      rw [q7, zf_u3, hx, z3, c1]
      rfl
    unfold zrm zbeg
    rw [z7, a1, a2, a3]
  · rw [q7, q3, q1]
    exact zgr_u (zgr_u (zgr_u zgr_refl (by omega)) (by omega)) (by omega)
  · rw [q7, zrk_44 (by decide), z3]
abbrev zcoL (a k : Nat) : Prop := zcore a k ∨ (a = 63 ∧ 44 ≤ k ∧ k ≤ 49) ∨ a = 81
abbrev zgL (m m' : zf_Me) : Prop := zgr' zcoL m m'
theorem zA_of {P : Nat → Nat → Prop} {a o : Nat} {m m' : zf_Me} (h : zgr' P m m') (hp : ∀ k, ¬ P a k) : zA a o m' = zA a o m := zL_ext (fun i _ => by rw [h.1 a _ (hp _)])
/-- a rule led to the end; what was before lies in the row -/
theorem zs_181 (hB : zB (zr m)) {rule : Int32} (hr : 0 ≤ rule.toInt ∧ rule.toInt ≤ 3) {Q : zf_Me → Prop} (hq : ∀ m', zrm m' = zgo rule.toInt 60 (zbeg (zr m)) → zA 81 0 m' = zr m → zgL m m' → m'.1 63 47 = m'.1 63 10 → m'.1 63 48 = m'.1 63 11 → m'.1 63 49 = m'.1 63 45 → Q m') : wp_181 rule m Q := by
  refine zs_161s (by decide) rfl (by decide) (fun m2 s2 f2 z2 => zs_178 (by rw [z2]; exact hB) (fun m4 z4 f4 y4 => ?_))
  rw [z2] at z4 y4
  have A4 : zA 81 0 m4 = zr m := by
    rw [zA_of f4 (fun k => by omega)]
    exact s2
  have F4 : zgL m m4 := zgr_trans (zgr_mono f2 (fun a k h => by omega)) (zgr_mono f4 (fun a k h => by omega))
  have fin : ∀ (n : Nat) (mj : zf_Me), zgL m mj → zA 81 0 mj = zr m → zgo rule.toInt 60 (zbeg (zr m)) = zgo rule.toInt (60 - (zrm mj).2.2.1).toNat (zrm mj) → zstp (zrm mj) rule.toInt = none → wq_181_16 rule Q (n + 1) 0 mj := by
    intro n mj h3 h4 h5 hs
    refine ⟨fun _ m5 q5 m7 q7 m9 q9 => hq m9 ?_ ?_ ?_ ?_ ?_ ?_, fun z => absurd rfl z⟩
    · have e : zrm m9 = zrm mj := by
        have z9 : zr m9 = zr mj := by rw [q9, zrk_44 (by decide), q7, zrk_44 (by decide), q5, zrk_44 (by decide)]
        have k : ∀ k, ¬ k = 47 → ¬ k = 48 → ¬ k = 49 → m9.1 63 k = mj.1 63 k := fun k k7 k8 k9 => by rw [q9, zf_u4 k9, q7, zf_u4 k8, q5, zf_u4 k7]
        unfold zrm
        rw [z9, k 44 (by decide) (by decide) (by decide), k 46 (by decide) (by decide) (by decide), k 45 (by decide) (by decide) (by decide)]
      rw [e, h5]
      cases hk : (60 - (zrm mj).2.2.1).toNat with
      | zero => rfl
      | succ k =>
        show _ = (match zstp (zrm mj) rule.toInt with | none => zrm mj | some s' => zgo rule.toInt k s')
        rw [hs]
    · rw [← h4]
      refine zL_ext (fun i _ => ?_)
      rw [q9, zf_u1 (by decide), q7, zf_u1 (by decide), q5, zf_u1 (by decide)]
    · rw [q9, q7, q5]
      exact zgr_u (zgr_u (zgr_u h3 (by omega)) (by omega)) (by omega)
    · rw [q9, zf_u4 (by decide), zf_u4 (by decide), q7, zf_u4 (by decide), zf_u4 (by decide), q5, zf_u3, zf_u4 (by decide)]
    · rw [q9, zf_u4 (by decide), zf_u4 (by decide), q7, zf_u3, zf_u4 (by decide)]
    · rw [q9, zf_u3, zf_u4 (by decide)]
  have lp : ∀ (n : Nat) (mj : zf_Me), zRB (zrm mj) → 60 - (zrm mj).2.2.1 + 1 < n → zgL m mj → zA 81 0 mj = zr m → zgo rule.toInt 60 (zbeg (zr m)) = zgo rule.toInt (60 - (zrm mj).2.2.1).toNat (zrm mj) → wq_181_16 rule Q n 1 mj := by
    intro n
    induction n with
    | zero =>
      intro mj h1 h2
      have := h1.2.2.1
      omega
    | succ n ih =>
      intro mj h1 h2 h3 h4 h5
      have nb := h1.2.2.1
      refine ⟨fun z => absurd z (by decide), fun _ => zs_179 h1 hr (fun b m' y1 n1 f1 => ?_)⟩
      have F' : zgL m m' := zgr_trans h3 (zgr_mono f1 (fun a k h => by omega))
      have A' : zA 81 0 m' = zr m := by
        rw [zA_of f1 (fun k => by omega)]
        exact h4
      cases b with
      | true =>
        have z := y1 rfl
        have rb := zRB_stp h1 z
        have acts : (zrm m').2.2.1 = (zrm mj).2.2.1 + 1 ∧ (zrm mj).2.2.1 < 60 := by
          have z2 := z
          unfold zstp at z2
          split at z2
          · rename_i g
            have := Option.some.inj z2
            rw [← this]
            exact ⟨rfl, g.1⟩
          · cases z2
        refine ih m' rb (by omega) F' A' ?_
        rw [h5, show (60 - (zrm mj).2.2.1).toNat = (60 - (zrm m').2.2.1).toNat + 1 by omega]
        show (match zstp (zrm mj) rule.toInt with | none => zrm mj | some s' => zgo rule.toInt (60 - (zrm m').2.2.1).toNat s') = _
        rw [z]
      | false =>
        have z := n1 rfl
        obtain ⟨k, rfl⟩ : ∃ k, n = k + 1 := ⟨n - 1, by omega⟩
        exact fin k m' F' A' (by rw [z.2]; exact h5) (by rw [z.2]; exact z.1)
  exact ⟨63, lp 63 m4 (by rw [z4]; exact zRB_beg hB) (by rw [z4]; show (60 : Int) - 0 + 1 < 63; decide) F4 A4 (by rw [z4]; rfl)⟩
theorem zs_182 {Q : zf_Me → Prop} (hq : ∀ m', zr m' = zA 81 0 m → zgc m m' → Q m') : wp_182 m Q :=
  zs_161b (by decide) (by decide) (by decide) (fun m' z f => hq m' z f)
end
