/-! part 66: the reference's trials of its rules -/
theorem zB_bis {f : zS} {x : Int} (h : zB f) (hx : 0 ≤ x ∧ x ≤ 9) : zB (zU f 5 3 x) := by
  have h1 := h.1
  refine ⟨?_, zB2_u5 h.2.1, zB3_u5 h.2.2⟩
  show zB1 (f 5 0) (f 5 1) (f 5 2) x (f 5 4) (f 5 5) (f 5 6) (f 5 7) (f 5 8) (f 5 9) (f 5 10) (f 5 11) (f 5 12)
  omega
theorem zB_worn {f : zS} {x : Int} (h : zB f) (hx : 1 ≤ x ∧ x ≤ 99) : zB (zU f 5 2 x) := by
  have h1 := h.1
  refine ⟨?_, zB2_u5 h.2.1, zB3_u5 h.2.2⟩
  show zB1 (f 5 0) (f 5 1) x (f 5 3) (f 5 4) (f 5 5) (f 5 6) (f 5 7) (f 5 8) (f 5 9) (f 5 10) (f 5 11) (f 5 12)
  omega
section
variable {m : zf_Me}
theorem zs_tr (hB : zB (zr m)) {rule : Int32} (hr : 0 ≤ rule.toInt ∧ rule.toInt ≤ 3) {Q : zf_Me → Prop} (hq : ∀ m4, zgL m m4 → zrm m4 = zgo rule.toInt 60 (zbeg (zr m)) → zB (zr m4) → (∀ {R : zf_Me → Prop}, (∀ m6, zgL m m6 → zr m6 = zr m → m6.1 63 47 = m4.1 63 10 → m6.1 63 48 = m4.1 63 11 → m6.1 63 49 = m4.1 63 45 → R m6) → wp_182 m4 R) → Q m4) : wp_181 rule m Q := by
  refine zs_181 hB hr (fun m4 z4 a4 f4 e7 e8 e9 => hq m4 f4 z4 ?_ (fun k => zs_182 (fun m6 z6 f6 => k m6 ?_ ?_ ?_ ?_ ?_)))
  · have := (zRB_go (rule := rule.toInt) 60 (zRB_beg hB)).1
    rw [← z4] at this
    exact this
  · exact zgr_trans f4 (zgr_mono f6 (fun a k z => Or.inl z))
  · rw [z6]
    exact a4
  · rw [f6.1 63 47 (by omega), e7]
  · rw [f6.1 63 48 (by omega), e8]
  · rw [f6.1 63 49 (by omega), e9]
theorem zy_183 (hJ : JM m) {rule q : Int32} {Q : Int32 → zf_Me → Prop} (hq : ∀ (v : Int32) (m' : zf_Me), JM m' → zfd m m' → Q v m') : wp_183 rule q m Q := by
  have K : ∀ v m', zgQ m m' → zB (zr m') → Q v m' := fun v m' f b => hq v m' (JM_q hJ f b) (zfd_q f)
  have R : ∀ {w : Int32}, (-8 < w.toInt ∧ w.toInt ≤ 0) → wp_125 w m Q := fun hw => zk_125 hw hJ.1 K
  have b := zB_r hJ.1
  have t27 : (0 ≤ q.toInt ∧ q.toInt ≤ 3) ∨ (0 ≤ (q - 10).toInt ∧ (q - 10).toInt < 6) → wq_183_27 rule q m Q := by
    intro h
    have L : ∀ (u : zf_Me → Int32) (m4 : zf_Me), (∀ {R : zf_Me → Prop}, (∀ m6, zgL m m6 → zr m6 = zr m → m6.1 63 47 = m4.1 63 10 → m6.1 63 48 = m4.1 63 11 → m6.1 63 49 = m4.1 63 45 → R m6) → wp_182 m4 R) → wp_182 m4 (fun m' => Q (u m4) m') := fun u m4 l => l (fun m6 f6 z6 _ _ _ => K _ m6 (zgL_q f6) (by rw [z6]; exact hJ.1))
    refine zs_180 (fun g => ⟨fun _ => zs_tr hJ.1 g (fun m4 f4 _ _ l => ⟨fun h0 => ⟨fun h1 => ⟨fun h2 => ⟨fun h3 => ⟨by omega, L (fun m => m.1 69 (Int32.toInt (q - 10)).toNat) m4 l⟩, fun _ => L (fun m => m.1 63 46) m4 l⟩, fun _ => L (fun m => m.1 63 45) m4 l⟩, fun _ => L (fun m => m.1 63 11) m4 l⟩, fun _ => L (fun m => m.1 63 10) m4 l⟩), fun z => (nomatch z)⟩) (fun _ => ⟨fun z => (nomatch z), fun _ => R (by decide)⟩)
  exact ⟨fun _ => R (by decide), fun g0 => ⟨fun g3 => t27 (Or.inl ⟨g0, g3⟩), fun _ => zs_128 (fun g => ⟨fun _ => t27 (Or.inr (by omega)), fun z => (nomatch z)⟩) (fun _ => ⟨fun z => (nomatch z), fun _ => R (by decide)⟩)⟩⟩
theorem zgL_t {a b c : zf_Me} (h : zgL a b) (k : zgL b c) : zgL a c := zgr_trans h k
theorem zy_184 (hJ : JM m) {w : Int32} {Q : Int32 → zf_Me → Prop} (hq : ∀ (v : Int32) (m' : zf_Me), JM m' → zfd m m' → Q v m') : wp_184 w m Q := by
  have K : ∀ v m', zgQ m m' → zB (zr m') → Q v m' := fun v m' f b => hq v m' (JM_q hJ f b) (zfd_q f)
  have R : ∀ {w : Int32}, (-8 < w.toInt ∧ w.toInt ≤ 0) → wp_125 w m Q := fun hw => zk_125 hw hJ.1 K
  have e1 : (1 : Int32).toInt = 1 := rfl
  have lp : ∀ (n : Nat) (v2 v3 v4 v5 : Int32) (mj : zf_Me), 0 ≤ v5.toInt → v5.toInt ≤ 4 → 4 - v5.toInt < n → zgL m mj → zr mj = zr m → wq_184_26 w Q n v2 v3 v4 v5 mj := by
    intro n
    induction n with
    | zero => intro v2 v3 v4 v5 mj h0 h1 h2; omega
    | succ n ih =>
      intro v2 v3 v4 v5 mj h0 h1 h2 hf hz
      refine ⟨fun _ => K _ mj (zgL_q hf) (by rw [hz]; exact hJ.1), fun g => zs_tr (by rw [hz]; exact hJ.1) (by omega) (fun m4 f4 _ _ l => l (fun m6 f6 z6 _ _ _ => ?_))⟩
      have t := fb_addI (x := v5) (y := 1) (by omega) (by omega)
      have nx : ∀ a b c, wq_184_26 w Q n a b c (v5 + 1) m6 := fun a b c => ih a b c _ m6 (by omega) (by omega) (by omega) (zgL_t hf f6) (z6.trans hz)
      exact ⟨fun _ => ⟨fun _ => nx _ _ _, fun _ => ⟨fun _ => nx _ _ _, fun _ => ⟨fun _ => nx _ _ _, fun _ => ⟨fun _ => nx _ _ _, fun _ => nx _ _ _⟩⟩⟩⟩, fun _ => ⟨fun _ => nx _ _ _, fun _ => ⟨fun _ => nx _ _ _, fun _ => ⟨fun _ => nx _ _ _, fun _ => ⟨fun _ => nx _ _ _, fun _ => nx _ _ _⟩⟩⟩⟩⟩
  exact ⟨fun _ => R (by decide), fun _ => ⟨fun _ => ⟨6, lp 6 _ _ _ 0 m (by decide) (by decide) (by decide) zgr_refl rfl⟩, fun _ => R (by decide)⟩⟩
theorem zy_186 (hJ : JM m) {rule t : Int32} {Q : Int32 → zf_Me → Prop} (hq : ∀ (v : Int32) (m' : zf_Me), JM m' → zfd m m' → Q v m') : wp_186 rule t m Q := by
  have K : ∀ v m', zgQ m m' → zB (zr m') → Q v m' := fun v m' f b => hq v m' (JM_q hJ f b) (zfd_q f)
  have R : ∀ {w : Int32}, (-8 < w.toInt ∧ w.toInt ≤ 0) → wp_126 w m Q := fun hw => zk_126 hw hJ.1 K
  refine zs_180 (fun hr => ⟨fun z => (nomatch z), fun _ => ⟨fun g => ?_, fun _ => R (by decide)⟩⟩) (fun _ => ⟨fun _ => R (by decide), fun z => (nomatch z)⟩)
  refine zs_161s (by decide) rfl (by decide) (fun m2 s2 f2 z2 => zs_178 (by rw [z2]; exact hJ.1) (fun m4 z4 f4 y4 => ?_))
  rw [z2] at z4 y4
  have A4 : zA 81 0 m4 = zr m := by
    rw [zA_of f4 (fun k => by omega)]
    exact s2
  have F4 : zgL m m4 := zgr_trans (zgr_mono f2 (fun a k h => by omega)) (zgr_mono f4 (fun a k h => by omega))
  have fin : ∀ (n : Nat) (v3 v4 : Int32) (mj : zf_Me), zgL m mj → zA 81 0 mj = zr m → wq_186_44 rule t Q (n + 1) v3 v4 0 mj := fun n v3 v4 mj h3 h4 =>
    ⟨fun _ => zs_182 (fun m6 z6 f6 => K _ m6 (zgr_trans (zgL_q h3) (zgc_q f6)) (by rw [z6, h4]; exact hJ.1)), fun z => absurd rfl z⟩
  have lp : ∀ (n : Nat) (v3 v4 v5 : Int32) (mj : zf_Me), zRB (zrm mj) → 60 - (zrm mj).2.2.1 + 1 < n → zgL m mj → zA 81 0 mj = zr m → wq_186_44 rule t Q n v3 v4 v5 mj := by
    intro n
    induction n with
    | zero =>
      intro v3 v4 v5 mj h1 h2
      have := h1.2.2.1
      omega
    | succ n ih =>
      intro v3 v4 v5 mj h1 h2 h3 h4
      have nb := h1.2.2.1
      have go : ∀ v3' v4', wp_179 rule mj (fun b11 m12 => wq_186_44 rule t Q n v3' v4' (zb b11) m12) := by
        intro v3' v4'
        refine zs_179 h1 hr (fun b m' y1 n1 f1 => ?_)
        have F' : zgL m m' := zgr_trans h3 (zgr_mono f1 (fun a k h => by omega))
        have A' : zA 81 0 m' = zr m := by
          rw [zA_of f1 (fun k => by omega)]
          exact h4
        cases b with
        | true =>
          have z := y1 rfl
          have rb := zRB_stp h1 z
          have acts : (zrm m').2.2.1 = (zrm mj).2.2.1 + 1 ∧ (zrm mj).2.2.1 < 60 := by
            have z2 := z
            unfold zstp at z2
            split at z2
            · rename_i g
              have := Option.some.inj z2
              rw [← this]
              exact ⟨rfl, g.1⟩
            · cases z2
          exact ih _ _ _ m' rb (by omega) F' A'
        | false =>
          obtain ⟨k, rfl⟩ : ∃ k, n = k + 1 := ⟨n - 1, by omega⟩
          exact fin k _ _ m' F' A'
      exact ⟨fun _ => zs_182 (fun m6 z6 f6 => K _ m6 (zgr_trans (zgL_q h3) (zgc_q f6)) (by rw [z6, h4]; exact hJ.1)), fun _ => ⟨fun _ => go _ _, fun _ => go _ _⟩⟩
  exact ⟨63, lp 63 _ _ _ m4 (by rw [z4]; exact zRB_beg hJ.1) (by rw [z4]; show (60 : Int) - 0 + 1 < 63; decide) F4 A4⟩
theorem zy_187 (hJ : JM m) {rule : Int32} {Q : Int32 → zf_Me → Prop} (hq : ∀ (v : Int32) (m' : zf_Me), JM m' → zfd m m' → Q v m') : wp_187 rule m Q := by
  have K : ∀ v m', zgQ m m' → zB (zr m') → Q v m' := fun v m' f b => hq v m' (JM_q hJ f b) (zfd_q f)
  have R : ∀ {w : Int32}, (-8 < w.toInt ∧ w.toInt ≤ 0) → wp_125 w m Q := fun hw => zk_125 hw hJ.1 K
  have e9 : (9 : Int32).toInt = 9 := rfl
  refine zs_180 (fun hr => ⟨fun _ => zs_167 hJ.1 (by decide) (fun b hb => ⟨fun e => ?_, fun _ => K _ m zgr_refl hJ.1⟩), fun z => (nomatch z)⟩) (fun _ => ⟨fun z => (nomatch z), fun _ => R (by decide)⟩)
  have hm := hb.mp e
  refine zs_tr hJ.1 hr (fun m4 f4 _ _ l => l (fun m8 f8 z8 _ _ _ => ?_))
  have B8 : zB (zr m8) := by rw [z8]; exact hJ.1
  refine zs_170 B8 (fun x9 _ => zs_161s (by decide) rfl (by decide) (fun m12 a12 f12 z12 => ?_))
  have a12' : zA 79 0 m12 = zr m8 := a12
  have B12 : zB (zr m12) := by rw [z12]; exact B8
  have M12 : zmay (zr m12) (9 : Int32).toInt := by rw [z12, z8]; exact hm
  refine zs_169 B12 (by decide) M12 (fun m14 z14 f14 => ?_)
  have B14 : zB (zr m14) := by rw [z14]; exact zB_act B12 M12
  refine zs_181 B14 hr (fun m16 _ _ f16 _ _ _ => zs_161b (by decide) (by decide) (by decide) (fun m18 z18 f18 => ?_))
  have z18' : zr m18 = zA 79 0 m16 := z18
  have B18 : zB (zr m18) := by
    rw [z18', zA_of f16 (fun k => by omega), zA_of f14 (fun k => by omega), a12']
    exact B8
  have F : zgQ m m18 := zgr_trans (zgL_q f8) (zgr_trans (zgr_mono f12 (fun a k z => by omega)) (zgr_trans (zgc_q f14) (zgr_trans (zgL_q f16) (zgc_q f18))))
  have E : ∀ a b c, wq_187_100 rule a b c m18 Q := fun a b c => ⟨fun _ => K _ m18 F B18, fun _ => ⟨fun _ => K _ m18 F B18, fun _ => ⟨fun _ => K _ m18 F B18, fun _ => K _ m18 F B18⟩⟩⟩
  exact ⟨fun _ => E _ _ _, fun _ => E _ _ _⟩
theorem zy_188 (hJ : JM m) {rule : Int32} {Q : Int32 → zf_Me → Prop} (hq : ∀ (v : Int32) (m' : zf_Me), JM m' → zfd m m' → Q v m') : wp_188 rule m Q := by
  have K : ∀ v m', zgQ m m' → zB (zr m') → Q v m' := fun v m' f b => hq v m' (JM_q hJ f b) (zfd_q f)
  have R : ∀ {w : Int32}, (-8 < w.toInt ∧ w.toInt ≤ 0) → wp_126 w m Q := fun hw => zk_126 hw hJ.1 K
  have e1 : (1 : Int32).toInt = 1 := rfl
  have b := zB_r hJ.1
  refine zs_180 (fun hr => ⟨fun _ => ?_, fun z => (nomatch z)⟩) (fun _ => ⟨fun z => (nomatch z), fun _ => R (by decide)⟩)
  have lp : ∀ (n : Nat) (v3 v4 v5 v6 : Int32) (mj : zf_Me), -1 ≤ v6.toInt → v6.toInt ≤ (m.1 63 1).toInt → (m.1 63 1).toInt - v6.toInt < n → zgL m mj → zB (zr mj) → mj.1 63 1 = m.1 63 1 → wq_188_31 rule Q n (m.1 63 2) v3 v4 v5 v6 mj := by
    intro n
    induction n with
    | zero => intro v3 v4 v5 v6 mj h0 h1 h2; omega
    | succ n ih =>
      intro v3 v4 v5 v6 mj h0 h1 h2 hf hB hp
      refine ⟨fun _ m3 q3 => K _ m3 ?_ ?_, fun g m5 q5 => ?_⟩
      · rw [q3]
        exact zgr_u (zgL_q hf) (by omega)
      · rw [q3, zr_w2]
        exact zB_bag hB (by omega)
      · rw [hp] at g
        have F5 : zgL m m5 := by
          rw [q5]
          exact zgr_u hf (by omega)
        have B5 : zB (zr m5) := by
          rw [q5, zr_w2]
          exact zB_bag hB (by omega)
        refine zs_tr B5 hr (fun m8 f8 _ _ l => l (fun m10 f10 z10 _ _ _ => ?_))
        have t := fb_addI (x := v6) (y := 1) (by omega) (by omega)
        have p10 : m10.1 63 1 = m.1 63 1 := by
          apply zi_inj
          have z : zr m10 5 6 = zr m5 5 6 := by rw [z10]
          have z' : (m10.1 63 1).toInt = (m5.1 63 1).toInt := z
          rw [z', q5, zf_u4 (by decide), hp]
        have nx : ∀ a b c, wq_188_31 rule Q n (m.1 63 2) a b c (v6 + 1) m10 := fun a b c => ih a b c _ m10 (by omega) (by omega) (by omega) (zgL_t F5 f10) (by rw [z10]; exact B5) p10
        exact ⟨fun _ => nx _ _ _, fun _ => ⟨fun _ => nx _ _ _, fun _ => ⟨fun _ => nx _ _ _, fun _ => ⟨fun _ => nx _ _ _, fun _ => nx _ _ _⟩⟩⟩⟩
  exact ⟨9, lp 9 _ _ _ (-1) m (by decide) (by show (-1 : Int) ≤ _; omega) (by show (m.1 63 1).toInt - (-1 : Int) < _; omega) zgr_refl hJ.1 rfl⟩
theorem zy_194 (hJ : JM m) {s : Int32} {Q : Int32 → zf_Me → Prop} (hq : ∀ (v : Int32) (m' : zf_Me), JM m' → zfd m m' → Q v m') : wp_194 s m Q := by
  have K : ∀ v m', zgQ m m' → zB (zr m') → Q v m' := fun v m' f b => hq v m' (JM_q hJ f b) (zfd_q f)
  have R : ∀ {w : Int32}, (-8 < w.toInt ∧ w.toInt ≤ 0) → wp_125 w m Q := fun hw => zk_125 hw hJ.1 K
  have e1 : (1 : Int32).toInt = 1 := rfl
  have no : ∀ x : Int32, -5 ≤ x.toInt → x.toInt ≤ -1 → wq_194_26 s x m Q := fun x h0 h1 => ⟨fun z => by omega, fun _ => R (by omega)⟩
  refine zs_137 (fun hs g1 g2 => ⟨fun z => absurd rfl z, fun _ => ⟨hs, fun _ => ⟨fun _ => ?_, fun z => absurd rfl z⟩, fun _ => no (-5) (by decide) (by decide)⟩⟩) (fun x h0 h1 => ⟨fun _ => no x (by omega) h1, fun z => by omega⟩)
  have lp : ∀ (n : Nat) (v3 v4 : Int32) (mj : zf_Me), 0 ≤ v4.toInt → v4.toInt ≤ 4 → 4 - v4.toInt < n → zgL m mj → zr mj = zr m → wq_194_41 s Q n v3 v4 mj := by
    intro n
    induction n with
    | zero => intro v3 v4 mj h0 h1 h2; omega
    | succ n ih =>
      intro v3 v4 mj h0 h1 h2 hf hz
      refine ⟨fun _ => K _ mj (zgL_q hf) (by rw [hz]; exact hJ.1), fun g => zs_tr (by rw [hz]; exact hJ.1) (by omega) (fun m4 f4 _ B4 l => ?_)⟩
      have b4 := zB_r B4
      have t := fb_addI (x := v4) (y := 1) (by omega) (by omega)
      have lp2 : ∀ (k : Nat) (v5 v6 : Int32), 0 ≤ v6.toInt → v6.toInt ≤ (m4.1 63 1).toInt → (m4.1 63 1).toInt - v6.toInt < k → wq_194_59 s (wq_194_41 s Q n) Q k v3 v4 v5 v6 m4 := by
        intro k
        induction k with
        | zero => intro v5 v6 k0 k1 k2; omega
        | succ k ik =>
          intro v5 v6 k0 k1 k2
          refine ⟨fun _ => l (fun m6 f6 z6 _ _ _ => ⟨fun _ => ih _ _ m6 (by omega) (by omega) (by omega) (zgL_t hf f6) (z6.trans hz), fun _ => ih _ _ m6 (by omega) (by omega) (by omega) (zgL_t hf f6) (z6.trans hz)⟩), fun g6 => ⟨by omega, ?_⟩⟩
          have x := zix (s := s) (i := v6) hs (by omega)
          have t6 := fb_addI (x := v6) (y := 1) (by omega) (by omega)
          exact ⟨by omega, fun _ => ik _ _ (by omega) (by omega) (by omega), fun _ => ik _ _ (by omega) (by omega) (by omega)⟩
      exact ⟨8, lp2 8 _ 0 (by decide) (by show (0 : Int) ≤ _; omega) (by show (m4.1 63 1).toInt - (0 : Int) < _; omega)⟩
  exact ⟨6, lp 6 _ 0 m (by decide) (by decide) (by decide) zgr_refl rfl⟩
theorem zy_195 (hJ : JM m) {Q : Int32 → zf_Me → Prop} (hq : ∀ (v : Int32) (m' : zf_Me), JM m' → zfd m m' → Q v m') : wp_195 m Q := by
  have K : ∀ v m', zgQ m m' → zB (zr m') → Q v m' := fun v m' f b => hq v m' (JM_q hJ f b) (zfd_q f)
  have e1 : (1 : Int32).toInt = 1 := rfl
  have b := zB_r hJ.1
  have lp : ∀ (n : Nat) (v2 v3 : Int32) (mj : zf_Me), 0 ≤ v3.toInt → v3.toInt ≤ 10 → 10 - v3.toInt < n → zgL m mj → zB (zr mj) → wq_195_9 Q n (m.1 63 7) v2 v3 mj := by
    intro n
    induction n with
    | zero => intro v2 v3 mj h0 h1 h2; omega
    | succ n ih =>
      intro v2 v3 mj h0 h1 h2 hf hB
      have E : ∀ m3, m3 = zf_u mj 63 7 (m.1 63 7) → Q v2 m3 := fun m3 q3 => K _ m3 (by rw [q3]; exact zgr_u (zgL_q hf) (by omega)) (by rw [q3, zr_w7]; exact zB_bis hB (by omega))
      refine ⟨fun _ => E, fun g => ⟨fun _ => E, fun _ m5 q5 => ?_⟩⟩
      have F5 : zgL m m5 := by
        rw [q5]
        exact zgr_u hf (by omega)
      have B5 : zB (zr m5) := by
        rw [q5, zr_w7]
        exact zB_bis hB (by omega)
      refine zs_tr B5 (by decide) (fun m8 f8 _ _ l => l (fun m10 f10 z10 _ _ _ => ?_))
      have t := fb_addI (x := v3) (y := 1) (by omega) (by omega)
      have nx : ∀ a, wq_195_9 Q n (m.1 63 7) a (v3 + 1) m10 := fun a => ih a _ m10 (by omega) (by omega) (by omega) (zgL_t F5 f10) (by rw [z10]; exact B5)
      exact ⟨fun _ => nx _, fun _ => nx _⟩
  exact ⟨12, lp 12 _ 0 m (by decide) (by decide) (by decide) zgr_refl hJ.1⟩
theorem zy_196 (hJ : JM m) {rule : Int32} {Q : Int32 → zf_Me → Prop} (hq : ∀ (v : Int32) (m' : zf_Me), JM m' → zfd m m' → Q v m') : wp_196 rule m Q := by
  have K : ∀ v m', zgQ m m' → zB (zr m') → Q v m' := fun v m' f b => hq v m' (JM_q hJ f b) (zfd_q f)
  have R : ∀ {w : Int32}, (-8 < w.toInt ∧ w.toInt ≤ 0) → wp_126 w m Q := fun hw => zk_126 hw hJ.1 K
  have e1 : (1 : Int32).toInt = 1 := rfl
  have b := zB_r hJ.1
  refine zs_180 (fun hr => ⟨fun _ => ?_, fun z => (nomatch z)⟩) (fun _ => ⟨fun z => (nomatch z), fun _ => R (by decide)⟩)
  have lp : ∀ (n : Nat) (v2 v3 : Int32) (mj : zf_Me), 1 ≤ v3.toInt → v3.toInt ≤ 100 → 100 - v3.toInt < n → zgL m mj → zB (zr mj) → wq_196_25 rule Q n (m.1 63 9) v2 v3 mj := by
    intro n
    induction n with
    | zero => intro v2 v3 mj h0 h1 h2; omega
    | succ n ih =>
      intro v2 v3 mj h0 h1 h2 hf hB
      have E : ∀ m3, m3 = zf_u mj 63 9 (m.1 63 9) → Q v2 m3 := fun m3 q3 => K _ m3 (by rw [q3]; exact zgr_u (zgL_q hf) (by omega)) (by rw [q3, zr_w9]; exact zB_worn hB (by omega))
      refine ⟨fun _ => E, fun g => ⟨fun _ => E, fun _ m5 q5 => ?_⟩⟩
      have F5 : zgL m m5 := by
        rw [q5]
        exact zgr_u hf (by omega)
      have B5 : zB (zr m5) := by
        rw [q5, zr_w9]
        exact zB_worn hB (by omega)
      refine zs_tr B5 hr (fun m8 f8 _ _ l => l (fun m10 f10 z10 _ _ _ => ?_))
      have t := fb_addI (x := v3) (y := 1) (by omega) (by omega)
      have nx : ∀ a, wq_196_25 rule Q n (m.1 63 9) a (v3 + 1) m10 := fun a => ih a _ m10 (by omega) (by omega) (by omega) (zgL_t F5 f10) (by rw [z10]; exact B5)
      exact ⟨fun _ => nx _, fun _ => nx _⟩
  exact ⟨102, lp 102 _ 1 m (by decide) (by decide) (by decide) zgr_refl hJ.1⟩
theorem zy_197 (hJ : JM m) {a : Int32} {Q : Int32 → zf_Me → Prop} (hq : ∀ (v : Int32) (m' : zf_Me), JM m' → zfd m m' → Q v m') : wp_197 a m Q := by
  have K : ∀ v m', zgQ m m' → zB (zr m') → Q v m' := fun v m' f b => hq v m' (JM_q hJ f b) (zfd_q f)
  have R : ∀ {w : Int32}, (-8 < w.toInt ∧ w.toInt ≤ 0) → wp_125 w m Q := fun hw => zk_125 hw hJ.1 K
  exact ⟨fun _ => R (by decide), fun g0 => ⟨fun _ => R (by decide), fun g => zs_167 hJ.1 g (fun b hb => ⟨fun e => zs_169 hJ.1 ⟨g0, g⟩ (hb.mp e) (fun m' z f => K _ m' (zgc_q f) (by rw [z]; exact zB_act hJ.1 (hb.mp e))), fun _ => R (by decide)⟩)⟩⟩
end
