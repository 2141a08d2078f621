/-! part 8i: the reference finds the best row of acts ahead -/
section
variable {m : zf_Me}
def zRR (B : zSe) (m : zf_Me) : Prop := (m.1 63 40).toInt = B.1 ∧ (¬ B.1 = -1 → (m.1 63 41).toInt = B.2.1 ∧ (m.1 63 42).toInt = B.2.2.1 ∧ (m.1 63 43).toInt = B.2.2.2.1 ∧ ∀ i : Nat, i < 4 → (i : Int) < B.1 → (m.1 84 i).toInt = B.2.2.2.2 i)
theorem zRR_of {P : Nat → Nat → Prop} {B : zSe} {m' : zf_Me} (h : zRR B m) (f : zgr' P m m') (hp : ∀ a k, P a k → ¬ (a = 63 ∧ 40 ≤ k ∧ k ≤ 43) ∧ ¬ a = 84) : zRR B m' := by
  refine ⟨by rw [f.1 63 40 (fun z => (hp _ _ z).1 (by omega))]; exact h.1, fun n => ?_⟩
  have k := h.2 n
  rw [f.1 63 41 (fun z => (hp _ _ z).1 (by omega)), f.1 63 42 (fun z => (hp _ _ z).1 (by omega)), f.1 63 43 (fun z => (hp _ _ z).1 (by omega))]
  exact ⟨k.1, k.2.1, k.2.2.1, fun i i4 hi => by rw [f.1 84 i (fun z => (hp _ _ z).2 rfl)]; exact k.2.2.2 i i4 hi⟩
theorem zs_174x : ∀ (n : Nat) {d e b : Int32} {m : zf_Me} {B : zSe} {row : Nat → Int} {Q : zf_Me → Prop}, 0 ≤ d.toInt ∧ d.toInt ≤ e.toInt → e.toInt ≤ 4 → e.toInt - d.toInt < n → zB (zr m) → zRR B m → (∀ i : Nat, (i : Int) < d.toInt → (m.1 83 i).toInt = row i) → (∀ m', zgS d.toInt m m' → zr m' = zr m → (∀ i : Nat, (i : Int) < d.toInt → m'.1 83 i = m.1 83 i) → zRR (zlk (e.toInt - d.toInt).toNat d.toInt.toNat (zr m) b.toInt row B) m' → Q m') → wp_174 n d e b m Q := by
  intro n
  induction n with
  | zero => intro d e b m B row Q h1 h2 h3; omega
  | succ n ih =>
    intro d e b m B row Q h1 h2 h3 hB hR hr hq
    have e1 : (1 : Int32).toInt = 1 := rfl
    have e0 : (0 : Int32).toInt = 0 := rfl
    have e90 : (90 : Int32).toInt = 90 := rfl
    have bb := zB_r hB
    have h10 : zr m 5 10 = (m.1 63 10).toInt := rfl
    have h11 : zr m 5 11 = (m.1 63 11).toInt := rfl
    have h5 : zr m 5 5 = (m.1 63 0).toInt := rfl
    -- the offer
    have off : zlk (e.toInt - d.toInt).toNat d.toInt.toNat (zr m) b.toInt row B = zoff d.toInt.toNat (zr m) b.toInt row B → wq_174_16 (wp_174 n) d e b m Q := by
      intro eq
      rw [eq] at hq
      have take : (B.1 = -1 ∨ B.2.1 < zr m 5 10 ∨ (zr m 5 10 = B.2.1 ∧ (b.toInt < B.2.2.1 ∨ (b.toInt = B.2.2.1 ∧ zr m 5 11 < B.2.2.2.1)))) → wq_174_88 (wp_174 n) d e b m Q := by
        intro c
        have eo : zoff d.toInt.toNat (zr m) b.toInt row B = (((d.toInt.toNat : Nat) : Int), zr m 5 10, b.toInt, zr m 5 11, fun i => if i < d.toInt.toNat then row i else 0) := if_pos c
        rw [eo] at hq
        refine ⟨fun _ m13 q13 m15 q15 m17 q17 m19 q19 => ?_, fun z => absurd z (by decide)⟩
        have f19 : zgS d.toInt m m19 := by
          rw [q19, q17, q15, q13]
          exact zgS_u (zgS_u (zgS_u (zgS_u zgr_refl (by omega)) (by omega)) (by omega)) (by omega)
        have z19 : zr m19 = zr m := by rw [q19, zrk_44 (by decide), q17, zrk_44 (by decide), q15, zrk_44 (by decide), q13, zrk_44 (by decide)]
        have c40 : (m19.1 63 40).toInt = d.toInt := by rw [q19, zf_u4 (by decide), q17, zf_u4 (by decide), q15, zf_u4 (by decide), q13, zf_u3]
        have c41 : (m19.1 63 41).toInt = zr m 5 10 := by
          rw [q19, zf_u4 (by decide), q17, zf_u4 (by decide), q15, zf_u3, q13, zf_u4 (by decide)]
          rfl
        have c42 : (m19.1 63 42).toInt = b.toInt := by rw [q19, zf_u4 (by decide), q17, zf_u3]
        have c43 : (m19.1 63 43).toInt = zr m 5 11 := by
          rw [q19, zf_u3, q17, zf_u4 (by decide), q15, zf_u4 (by decide), q13, zf_u4 (by decide)]
          rfl
        have c83 : ∀ i, m19.1 83 i = m.1 83 i := fun i => by rw [q19, zf_u1 (by decide), q17, zf_u1 (by decide), q15, zf_u1 (by decide), q13, zf_u1 (by decide)]
        have lp : ∀ (k : Nat) (v6 : Int32) (mj : zf_Me), 0 ≤ v6.toInt → v6.toInt ≤ d.toInt → d.toInt - v6.toInt < k → zgr' (fun a _ => a = 84) m19 mj → (∀ i : Nat, (i : Int) < v6.toInt → mj.1 84 i = m.1 83 i) → wq_174_130 (wp_174 n) d e b Q k v6 mj := by
          intro k
          induction k with
          | zero => intro v6 mj k0 k1 k2; omega
          | succ k ik =>
            intro v6 mj k0 k1 k2 kf k84
            have cj : ∀ i, mj.1 83 i = m.1 83 i := fun i => (kf.1 83 i (by omega)).trans (c83 i)
            refine ⟨fun ge => hq mj (zgS_t f19 (zgr_mono kf (fun a k z => by omega))) ?_ (fun i _ => cj i) ⟨?_, fun _ => ⟨?_, ?_, ?_, fun i i4 hi => ?_⟩⟩, fun g => ⟨by omega, by omega, fun m21 q21 => ?_⟩⟩
            · rw [zr_of kf (fun a k z => by omega)]
              exact z19
            · rw [kf.1 63 40 (by omega), c40]
              show d.toInt = ((d.toInt.toNat : Nat) : Int)
              omega
            · rw [kf.1 63 41 (by omega)]
              exact c41
            · rw [kf.1 63 42 (by omega)]
              exact c42
            · rw [kf.1 63 43 (by omega)]
              exact c43
            · replace hi : (i : Int) < ((d.toInt.toNat : Nat) : Int) := hi
              show _ = if i < d.toInt.toNat then row i else 0
              rw [if_pos (by omega), k84 i (by omega)]
              exact hr i (by omega)
            · have t := fb_addI (x := v6) (y := 1) (by omega) (by omega)
              refine ik _ m21 (by omega) (by omega) (by omega) ?_ (fun i hi => ?_)
              · rw [q21]
                exact zgr_u kf rfl
              · rw [q21]
                by_cases q : i = v6.toInt.toNat
                · rw [q, zf_u3, cj]
                · rw [zf_u4 q]
                  exact k84 i (by omega)
        exact ⟨6, lp 6 0 m19 (by decide) (by show (0 : Int) ≤ _; omega) (by show d.toInt - 0 < _; omega) zgr_refl (fun i hi => absurd (show (i : Int) < 0 from hi) (by omega))⟩
      have skip : ¬ (B.1 = -1 ∨ B.2.1 < zr m 5 10 ∨ (zr m 5 10 = B.2.1 ∧ (b.toInt < B.2.2.1 ∨ (b.toInt = B.2.2.1 ∧ zr m 5 11 < B.2.2.2.1)))) → wq_174_92 (wp_174 n) d e b m Q := by
        intro c
        have eo : zoff d.toInt.toNat (zr m) b.toInt row B = B := if_neg c
        rw [eo] at hq
        exact ⟨fun z => absurd e0 z, fun _ => hq m zgr_refl rfl (fun _ _ => rfl) hR⟩
      have r0 := hR.1
      refine ⟨fun z => absurd e0 z, fun _ => ⟨fun z => take (Or.inl (by rw [← r0]; exact z)), fun nz => ?_⟩⟩
      obtain ⟨r1, r2, r3, -⟩ := hR.2 (by rw [← r0]; exact nz)
      have nz' : ¬ B.1 = -1 := by rw [← r0]; exact nz
      exact ⟨fun gt => take (by omega), fun le => ⟨fun ne => skip (by omega), fun eq1 => ⟨fun lt => take (by omega), fun ge => ⟨fun ne2 => skip (by omega), fun eq2 => ⟨fun ge2 => skip (by omega), fun lt2 => take (by omega)⟩⟩⟩⟩⟩
    show wb_174 (wp_174 n) d e b m Q
    refine ⟨fun eq => off (by rw [show (e.toInt - d.toInt).toNat = 0 by omega]; rfl), fun ne => ?_⟩
    obtain ⟨N, hN⟩ : ∃ N : Nat, (e.toInt - d.toInt).toNat = N + 1 := ⟨(e.toInt - d.toInt).toNat - 1, by omega⟩
    rw [hN] at hq off
    refine ⟨fun nend => zs_173 hB ?_, fun eend => off (if_neg (fun z => by have := z.1; omega))⟩
    have lt : zr m 5 10 < zr m 5 5 := by omega
    have zl := zbits_lt (zr m) 10
    by_cases hz : zbits (zr m) 10 = 0
    · rw [hz]
      exact off (if_neg (fun z => z.2 hz))
    have nz32 : ¬ (Int32.ofNat (zbits (zr m) 10)).toInt = 0 := fun z => hz (by
      have : ∀ k, k < 1024 → (Int32.ofNat k).toInt = k := by decide +kernel
      have := this _ zl
      omega)
    have sd := fb_addI (x := d) (y := 1) (by omega) (by omega)
    have md := fb_mulI (x := 90) (y := d) (by rw [e90]; omega) (by rw [e90]; omega)
    rw [e90] at md
    have nd : (d + 1).toInt.toNat = d.toInt.toNat + 1 := by omega
    have e2 : zlk (N + 1) d.toInt.toNat (zr m) b.toInt row B = zlp (zlk N (d.toInt.toNat + 1)) d.toInt.toNat (zr m) b.toInt row 10 0 B := if_pos ⟨lt, hz⟩
    rw [e2] at hq
    refine ⟨fun _ => zs_161s (by decide) rfl ⟨by omega, by show _ + 79 ≤ (450 : Int); omega, by omega⟩ (fun m2 a2 f2 z2 => ?_), fun z => absurd z nz32⟩
    have F2 : zgS d.toInt m m2 := zgr_mono f2 (fun a k z => by omega)
    have lp : ∀ (k : Nat) (v5 : Int32) (mj : zf_Me) (Bj : zSe), 0 ≤ v5.toInt → v5.toInt ≤ 10 → 10 - v5.toInt < k → zgS d.toInt m mj → zr mj = zr m → zA 82 (90 * d).toInt.toNat mj = zr m → (∀ i : Nat, (i : Int) < d.toInt → mj.1 83 i = m.1 83 i) → zRR Bj mj → zlp (zlk N (d.toInt.toNat + 1)) d.toInt.toNat (zr m) b.toInt row (10 - v5.toInt).toNat v5.toInt.toNat Bj = zlp (zlk N (d.toInt.toNat + 1)) d.toInt.toNat (zr m) b.toInt row 10 0 B → wq_174_173 (wp_174 n) d e b Q k (Int32.ofNat (zbits (zr m) 10)) v5 mj := by
      intro k
      induction k with
      | zero => intro v5 mj Bj k0 k1 k2; omega
      | succ k ik =>
        intro v5 mj Bj k0 k1 k2 kf kz ka krow kR hA
        have t := fb_addI (x := v5) (y := 1) (by omega) (by omega)
        have n5 : (v5 + 1).toInt.toNat = v5.toInt.toNat + 1 := by omega
        have i5 : ((v5.toInt.toNat : Nat) : Int) = v5.toInt := by omega
        refine ⟨fun g => hq mj kf kz krow ?_, fun g9 => ?_⟩
        · rw [← hA, show (10 - v5.toInt).toNat = 0 by omega]
          exact kR
        have bi := zbt_i (N := zbits (zr m) 10) (k := v5.toInt.toNat) (v4 := Int32.ofNat (zbits (zr m) 10)) (v7 := v5) zl rfl (by omega) (by omega)
        have tb := zbits_test (zr m) v5.toInt.toNat 10 (by omega)
        rw [i5] at tb
        replace tb : zHid (_ ↔ zmay (zr m) v5.toInt) := tb
        rw [show (10 - v5.toInt).toNat = (10 - (v5 + 1).toInt).toNat + 1 by omega] at hA
        unfold zlp at hA
        rw [i5, ← n5] at hA
        refine ⟨fun gb => ⟨by omega, fun m3 q3 => ?_⟩, fun gb => ?_⟩
        · have hm : zHid (zmay (zr m) v5.toInt) := Iff.mp (show _ ↔ zmay (zr m) v5.toInt from tb) (Decidable.byContradiction fun z => gb (by rw [bi, if_neg z]))
          rw [if_pos (show zmay (zr m) v5.toInt from hm)] at hA
          have z3 : zr m3 = zr m := by
            rw [q3]
            exact (zr_fr (fun j hj => by rw [zf_u1 (by decide)]) (fun a _ _ => by rw [zf_u1 (by omega)])).trans kz
          have f3' : zgr' (fun a _ => a = 83) mj m3 := by
            rw [q3]
            exact zgr_u zgr_refl rfl
          have f3 : zgS d.toInt mj m3 := zgr_mono f3' (fun a k z => by omega)
          have a3 : zA 82 (90 * d).toInt.toNat m3 = zr m := by
            rw [← ka]
            exact zL_ext (fun i _ => by rw [q3, zf_u1 (by decide)])
          have r3 := zRR_of kR f3' (fun a k z => by omega)
          have b3 : zB (zr m3) := by rw [z3]; exact hB
          have m3y : zHid (zmay (zr m3) v5.toInt) := by rw [z3]; exact hm
          refine zs_169 b3 ⟨k0, g9⟩ m3y (fun m6 z6 f6 => ?_)
          rw [z3] at z6
          have b6 : zB (zr m6) := by rw [z6]; exact zB_act hB hm
          have a6 : zA 82 (90 * d).toInt.toNat m6 = zr m := by
            rw [zA_of f6 (fun k => by omega)]
            exact a3
          have r6 := zRR_of r3 f6 (fun a k z => by omega)
          have c83 : ∀ i, m6.1 83 i = m3.1 83 i := fun i => f6.1 83 i (by omega)
          have pe : (m6.1 63 1).toInt = zr m 5 6 := by
            have : zr m6 5 6 = zr m 5 6 := by rw [z6]; exact zact_people
            exact this
          have go : ∀ u0 : Int32, u0.toInt = (if b.toInt < zgr (zact (zr m) v5.toInt) (zr m 5 6).toNat then zgr (zact (zr m) v5.toInt) (zr m 5 6).toNat else b.toInt) → wq_174_230 (wp_174 n) d e b (wq_174_173 (wp_174 n) d e b Q k) (Int32.ofNat (zbits (zr m) 10)) v5 u0 e (d + 1) m6 Q := fun u0 hu => by
            refine ih (B := Bj) (row := fun i => if i = d.toInt.toNat then v5.toInt else row i) (by omega) (by omega) (by omega) b6 r6 (fun i hi => ?_) (fun m10 f10 _ w10 r10 => ?_)
            · rw [c83, q3]
              by_cases q : i = d.toInt.toNat
              · rw [if_pos q, q, zf_u3]
              · rw [if_neg q, zf_u4 q, krow i (by omega)]
                exact hr i (by omega)
            · rw [z6, hu, nd, show (e.toInt - (d + 1).toInt).toNat = N by omega] at r10
              refine zs_161b (by decide) (by decide) ⟨by omega, by show _ + 79 ≤ (450 : Int); omega, by omega⟩ (fun m12 z12 f12 => ?_)
              have a10 : zA 82 (90 * d).toInt.toNat m10 = zr m := by
                rw [← a6]
                exact zL_ext (fun i hi => by rw [f10.1 82 _ (by omega)])
              have F12 : zgS d.toInt m m12 := zgS_t kf (zgS_t f3 (zgS_t (zgS_c f6) (zgS_t (zgr_mono f10 (fun a k z => by omega)) (zgS_c f12))))
              refine ik _ m12 _ (by omega) (by omega) (by omega) F12 (z12.trans a10) ?_ (fun i hi => ?_) (zRR_of r10 f12 (fun a k z => by omega)) hA
              · rw [zA_of f12 (fun k => by omega)]
                exact a10
              · rw [f12.1 83 i (by omega), w10 i (by omega), c83, q3, zf_u4 (by omega)]
                exact krow i hi
          refine zs_170 b6 (fun x hx => ?_)
          rw [z6, pe] at hx
          exact ⟨fun le => go b (by rw [← hx, if_neg (by omega)]), fun gt => go x (by rw [← hx, if_pos (by omega)])⟩
        · have hm : zHid (¬ zmay (zr m) v5.toInt) := fun z => by
            have := Iff.mpr (show _ ↔ zmay (zr m) v5.toInt from tb) z
            rw [bi, if_pos this] at gb
            exact absurd gb (by decide)
          rw [if_neg (show ¬ zmay (zr m) v5.toInt from hm)] at hA
          exact ik _ mj Bj (by omega) (by omega) (by omega) kf kz ka krow kR hA
    exact ⟨12, lp 12 0 m2 B (by decide) (by decide) (by decide) F2 z2 a2 (fun i _ => f2.1 83 i (by omega)) (zRR_of hR f2 (fun a k z => by omega)) rfl⟩
theorem zG_175x (hJ : JM m) {n w : Int32} {Q : Int32 → zf_Me → Prop} (K : ∀ (v : Int32) (m' : zf_Me), zgQ m m' → zr m' = zr m → v.toInt = zN87 (zr m) n.toInt w.toInt → Q v m') : wp_175 n w m Q := by
  have e0 : (0 : Int32).toInt = 0 := rfl
  refine ⟨fun g => zR_q (by decide) K (if_pos (Or.inl g)), fun gw => ⟨fun gw6 => ⟨fun g => zR_q (by decide) K ?_, fun g1 => ⟨fun g4 m5 q5 => ?_, fun g => zR_q (by decide) K ?_⟩⟩, fun g => zR_q (by decide) K (if_pos (Or.inr g))⟩⟩
  · unfold zN87
    rw [if_neg (by omega), if_pos (Or.inl g)]
    rfl
  · have z5 : zr m5 = zr m := by rw [q5, zrk_44 (by decide)]
    have b5 : zB (zr m5) := by rw [z5]; exact hJ.1
    have f5 : zgS 0 m m5 := by
      rw [q5]
      exact zgS_u zgr_refl (by omega)
    have k5 : (m5.1 63 40).toInt = -1 := by rw [q5, zf_u3]; rfl
    refine zs_170 b5 (fun x7 h7 => ⟨6, Nat.le_refl _, zs_174x 6 (B := zB0) (row := fun _ => 0) ⟨by decide, by show (0 : Int) ≤ _; omega⟩ g4 (by show n.toInt - 0 < _; omega) b5 ⟨k5, fun z => absurd rfl z⟩ (fun i hi => absurd (show (i : Int) < 0 from hi) (by omega)) (fun m10 f10 z10 _ r10 => ?_)⟩)
    have h7' : x7.toInt = zgr (zr m) (zr m 5 6).toNat := by
      rw [h7, ← z5]
      rfl
    rw [z5, h7', show (n.toInt - (0 : Int32).toInt).toNat = n.toInt.toNat by rw [e0]; omega] at r10
    replace r10 : zRR (zR87 (zr m) n.toInt) m10 := r10
    have F : zgQ m m10 := zgr_mono (zgS_t f5 f10) (fun a k z => by omega)
    have Z : zr m10 = zr m := z10.trans z5
    have sm : zsm (zR87 (zr m) n.toInt) 4 := zlk_s _ _ (by omega) (Or.inl rfl)
    have r0 := r10.1
    have r := r10.2 (by have := sm.1; omega)
    have A : zN87 (zr m) n.toInt w.toInt = if w.toInt = -1 then (zR87 (zr m) n.toInt).1 else if w.toInt < 4 then (if w.toInt < (zR87 (zr m) n.toInt).1 then (zR87 (zr m) n.toInt).2.2.2.2 w.toInt.toNat else -5) else if w.toInt = 4 then (Int32.ofInt (zR87 (zr m) n.toInt).2.1 - Int32.ofInt (zr m 5 10)).toInt else if w.toInt = 5 then (zR87 (zr m) n.toInt).2.2.1 else (Int32.ofInt (zR87 (zr m) n.toInt).2.2.2.1 - Int32.ofInt (zr m 5 11)).toInt := by
      unfold zN87
      rw [if_neg (by omega), if_neg (by omega)]
    refine ⟨fun n1 => ⟨fun g4' => ⟨fun n4 => ⟨fun n5 => K _ m10 F Z ?_, fun e5 => K _ m10 F Z ?_⟩, fun e4 => K _ m10 F Z ?_⟩, fun l4 => ⟨fun ge => ?_, fun lt => ⟨by omega, K _ m10 F Z ?_⟩⟩⟩, fun em => K _ m10 F Z ?_⟩
    · rw [A, if_neg n1, if_neg (by omega), if_neg n4, if_neg n5, ← r.2.2.1, show zr m 5 11 = (m.1 63 11).toInt from rfl, Int32.ofInt_toInt, Int32.ofInt_toInt]
    · rw [A, if_neg n1, if_neg (by omega), if_neg (by omega), if_pos e5]
      exact r.2.1
    · rw [A, if_neg n1, if_neg (by omega), if_pos e4, ← r.1, show zr m 5 10 = (m.1 63 10).toInt from rfl, Int32.ofInt_toInt, Int32.ofInt_toInt]
    · refine zs_125 (by decide) (fun m' f => K _ m' (zgr_trans F (zg64_q f)) ((zg64_r f).trans Z) ?_)
      rw [A, if_neg n1, if_pos l4, if_neg (by omega)]
      rfl
    · rw [A, if_neg n1, if_pos l4, if_pos (by omega)]
      exact r.2.2.2 _ (by omega) (by omega)
    · rw [A, if_pos em]
      exact r0
  · unfold zN87
    rw [if_neg (by omega), if_pos (Or.inr g)]
    rfl
theorem zz_87x (hz : zJ m) {a0 : Int32} {a1 : Int32} {Q : Int32 → Int32 → zf_Me → Prop} (K : ∀ x z m2, x = z → zJ m2 → Q x z m2) : wp_87 a0 a1 m (fun x m1 => wp_175 a0 a1 m1 (fun z m2 => Q x z m2)) := by
  obtain ⟨f, h, im, ft, l, c, r, g⟩ := hz
  refine zA_87 c.1 (fun x m1 F1 e1 => ?_)
  rw [c.2.1] at e1
  have r1 := RS_c r (zfc_q F1)
  refine zG_175x r1.1.1 (fun z m2 F2 z2 e2 => ?_)
  rw [r1.2.1] at e2
  exact K x z m2 (zi_inj (e1.trans e2.symm)) ⟨f, h, im, ft, l, CS_d (CS_q c F1) (zfd_q F2), RS_q r1 F2 z2, g⟩
end
