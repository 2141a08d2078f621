/-! part 8a: the reference reads a text, exactly -/
def zrho (k : Nat) : Nat := [0, 1, 2, 3, 4, 5, 7, 8, 9, 10, 11, 6].getD k 0
theorem zrho_lt : ∀ k, k < 12 → zrho k < 12 := by decide
theorem zrho_on : ∀ w, w < 12 → ∃ k, k < 12 ∧ zrho k = w := by decide
theorem zrho_2 : ∀ k, k < 12 → (zrho k = 2 ↔ k = 2) := by decide
theorem zw_len : ∀ k, k < 12 → zst (k + 1) = zst k + zln (zrho k) + (if k = 2 then 1 else 2) := by decide +kernel
theorem zw_ch : ∀ k, k < 12 → ∀ i, i < zln (zrho k) → zwa (zst k + i) = zch (zrho k) i ∧ 32 < zwa (zst k + i) := by decide +kernel
theorem zw_bl : ∀ k, k < 12 → zwa (zst k + zln (zrho k)) = (if k = 2 then 0 else 32) ∧ (¬ k = 2 → zwa (zst k + zln (zrho k) + 1) = 0) := by decide +kernel
def zQx (T : zT) (m : zf_Me) : Prop := zwd m ∧ (0 ≤ (m.1 63 29).toInt ∧ (m.1 63 29).toInt ≤ 1120) ∧ (m.1 63 31).toInt = T.1 ∧ T.1 ≤ 160 ∧ ∀ i : Nat, (i : Int) < T.1 → (Int64.toInt32 (m.2 74 ((m.1 63 29).toInt + i).toNat)).toInt = T.2 i
def zQs (T : zT) (s : Int) (m : zf_Me) : Prop := zQx T m ∧ (m.1 63 30).toInt = s ∧ 0 ≤ s ∧ s ≤ T.1
section
variable {m : zf_Me} {T : zT} {s : Int}
theorem zQx_g {P : Nat → Nat → Prop} {m' : zf_Me} (h : zQx T m) (f : zgr' P m m') (hp : ∀ a k, P a k → (¬ a = 76 ∧ ¬ a = 77) ∧ ¬ (a = 63 ∧ (k = 29 ∨ k = 31))) : zQx T m' := by
  have c29 : m'.1 63 29 = m.1 63 29 := f.1 63 29 (fun z => (hp _ _ z).2 ⟨rfl, Or.inl rfl⟩)
  have c31 : m'.1 63 31 = m.1 63 31 := f.1 63 31 (fun z => (hp _ _ z).2 ⟨rfl, Or.inr rfl⟩)
  refine ⟨zwd_of f (fun a k z => (hp a k z).1) h.1, by rw [c29]; exact h.2.1, by rw [c31]; exact h.2.2.1, h.2.2.2.1, fun i hi => ?_⟩
  rw [c29, f.2]
  exact h.2.2.2.2 i hi
theorem zQs_e {m' : zf_Me} (h : zQx T m') {p : Int} (e : (m'.1 63 30).toInt = p) (h0 : 0 ≤ p) (h1 : p ≤ T.1) : zQs T p m' := ⟨h, e, h0, h1⟩
theorem zQs_at (h : zQx T m) {v : Int32} (h0 : 0 ≤ v.toInt) (h1 : v.toInt < T.1) : (0 ≤ (m.1 63 29 + v).toInt ∧ (m.1 63 29 + v).toInt < 1280) ∧ (Int64.toInt32 (m.2 74 (m.1 63 29 + v).toInt.toNat)).toInt = T.2 v.toInt.toNat := by
  have b := h.2.1
  have l := h.2.2.2.1
  have ad := fb_addI (x := m.1 63 29) (y := v) (by omega) (by omega)
  have k := h.2.2.2.2 v.toInt.toNat (by omega)
  rw [show ((m.1 63 29).toInt + (v.toInt.toNat : Nat)).toNat = (m.1 63 29 + v).toInt.toNat by omega] at k
  exact ⟨by omega, k⟩
theorem zs_154x (h : zQs T s m) {w : Int32} (hw : 0 ≤ w.toInt ∧ w.toInt ≤ 3) {Q : Bool → zf_Me → Prop} (hq : ∀ b, (b = true ↔ zMb T s w.toInt.toNat (zln w.toInt.toNat) = true) → Q b m) : wp_154 w m Q := by
  have e1 : (1 : Int32).toInt = 1 := rfl
  have e0 : (0 : Int32).toInt = 0 := rfl
  obtain ⟨hx, hp, h0, h1⟩ := h
  have en := hx.2.2.1
  have el := hx.2.2.2.1
  have sw := zw_st w.toInt.toNat (by omega)
  have rho : zrho w.toInt.toNat = w.toInt.toNat := by
    have : ∀ k, k < 4 → zrho k = k := by decide
    exact this _ (by omega)
  have wl := zw_len w.toInt.toNat (by omega)
  have wc := zw_ch w.toInt.toNat (by omega)
  have wb := zw_bl w.toInt.toNat (by omega)
  rw [rho] at wl wc wb
  have lp2 : ∀ (n : Nat) (v2 v3 : Int32) (j : Nat), v2.toInt = zst w.toInt.toNat + j → v3.toInt = s + j → j ≤ zln w.toInt.toNat → zMb T s w.toInt.toNat j = true → zln w.toInt.toNat < j + n → wq_154_37 w Q n v2 v3 m := by
    intro n
    induction n with
    | zero => intro v2 v3 j k1 k2 k3 k4 k5; omega
    | succ n ih =>
      intro v2 v3 j k1 k2 k3 k4 k5
      have bd : zst w.toInt.toNat + zln w.toInt.toNat < zst (w.toInt.toNat + 1) := by
        rw [wl]
        split <;> omega
      have c := zw_76 hx.1 (v := v2) (by omega)
      have e2 : v2.toInt.toNat = zst w.toInt.toNat + j := by omega
      rw [e2] at c
      have Et : j = zln w.toInt.toNat → wq_154_86 w v2 m Q := fun ej => by
        have z : zwa (zst w.toInt.toNat + j) ≤ 32 := by
          rw [ej, wb.1]
          split <;> omega
        refine ⟨by omega, fun g => ?_, fun _ => hq true (zb_t (by rw [← ej]; exact k4))⟩
        rw [e2, c] at g
        omega
      have Ef : j < zln w.toInt.toNat → ¬ zis T (s + j) (zch w.toInt.toNat j) → wq_154_86 w v2 m Q := fun lj nz => by
        refine ⟨by omega, fun _ => hq false (zb_f (fun z => nz ((zMb_i _).mp z j lj))), fun g => ?_⟩
        have := (wc j lj).2
        rw [e2, c] at g
        omega
      by_cases ej : j = zln w.toInt.toNat
      · have z : zwa (zst w.toInt.toNat + j) ≤ 32 := by
          rw [ej, wb.1]
          split <;> omega
        refine ⟨by omega, fun _ => Et ej, fun g => ?_⟩
        rw [e2, c] at g
        omega
      · have lj : j < zln w.toInt.toNat := by omega
        refine ⟨by omega, fun g => ?_, fun g => ⟨fun g3 => Ef lj (fun z => by have := z.1; omega), fun g3 => ?_⟩⟩
        · have := (wc j lj).2
          rw [e2, c] at g
          omega
        · have at3 := zQs_at hx (v := v3) (by omega) (by omega)
          have n3 : v3.toInt.toNat = (s + j).toNat := by omega
          refine ⟨at3.1, by omega, fun g4 => Ef lj (fun z => g4 ?_), fun g4 => ?_⟩
          · rw [at3.2, e2, c, n3, (wc j lj).1]
            exact z.2
          · have a2 := fb_addI (x := v2) (y := 1) (by omega) (by omega)
            have a3 := fb_addI (x := v3) (y := 1) (by omega) (by omega)
            rw [at3.2, e2, c, n3, (wc j lj).1] at g4
            refine ih _ _ (j + 1) (by omega) (by omega) (by omega) ((zMb_i _).mpr (fun i hi => ?_)) (by omega)
            by_cases e : i = j
            · rw [e]
              exact ⟨by omega, g4⟩
            · exact (zMb_i _).mp k4 i (by omega)
  have lp : ∀ (n : Nat) (v2 v3 : Int32), 0 ≤ v2.toInt → v2.toInt < 75 → 75 - v2.toInt < n → 0 ≤ v3.toInt → v3.toInt ≤ w.toInt → zst v3.toInt.toNat ≤ v2.toInt.toNat → v2.toInt.toNat < zst (v3.toInt.toNat + 1) → (v3.toInt = w.toInt → v2.toInt.toNat = zst w.toInt.toNat) → wq_154_4 w Q n v2 v3 m := by
    intro n
    induction n with
    | zero => intro v2 v3 k0 k1 k2; omega
    | succ n ih =>
      intro v2 v3 k0 k1 k2 k3 k4 k5 k6 k7
      refine ⟨fun g => ⟨77, lp2 77 v2 (m.1 63 30) 0 ?_ (by omega) (by omega) rfl (by have := zln_b w.toInt.toNat (by omega); omega)⟩, fun g => ?_⟩
      · have := k7 (by omega)
        omega
      · have c := zw_76 hx.1 (v := v2) (by omega)
        have t := zw_in v3.toInt.toNat (by omega) v2.toInt.toNat (by omega) k5 k6
        have s1 := zw_st (v3.toInt.toNat + 1) (by omega)
        have a2 := fb_addI (x := v2) (y := 1) (by omega) (by omega)
        have n2 : (v2 + 1).toInt.toNat = v2.toInt.toNat + 1 := by omega
        refine ⟨by omega, fun z => ?_, fun z => ?_⟩
        · rw [c] at z
          have nx := t.2 z
          have a3 := fb_addI (x := v3) (y := 0) (by omega) (by omega)
          have e3 : (v3 + 0).toInt = v3.toInt := by omega
          refine ih _ _ (by omega) (by omega) (by omega) (by omega) (by omega) ?_ ?_ (by omega)
          · rw [n2, e3]
            omega
          · rw [n2, e3]
            exact nx
        · rw [c] at z
          have nx := t.1 z
          have a3 := fb_addI (x := v3) (y := 1) (by omega) (by omega)
          have n3 : (v3 + 1).toInt.toNat = v3.toInt.toNat + 1 := by omega
          refine ih _ _ (by omega) (by omega) (by omega) (by omega) (by omega) ?_ ?_ (fun e => ?_)
          · rw [n2, n3, nx]
            exact Nat.le_refl _
          · rw [n2, n3, nx]
            exact s1.1
          · rw [n2, nx]
            have : v3.toInt.toNat + 1 = w.toInt.toNat := by omega
            rw [this]
  exact ⟨77, lp 77 0 0 (by decide) (by decide) (by decide) (by decide) (by rw [e0]; exact hw.1) (by decide) (by decide) (fun e => by rw [← e]; rfl)⟩
/-- the first k words don't stand with what follows; F letters at most are as theirs -/
def zFa (T : zT) (s : Int) (k : Nat) (F : Nat) : Prop := (∀ j, j < k → ¬ (zMb T s (zrho j) (zln (zrho j)) = true ∧ (j = 2 ∨ zis T (s + zln (zrho j)) 32))) ∧ (∀ j, j < k → ∀ n, n ≤ zln (zrho j) → zMb T s (zrho j) n = true → n ≤ F) ∧ (F = 0 ∨ ∃ j, j < k ∧ F ≤ zln (zrho j) ∧ zMb T s (zrho j) F = true)
theorem zFa_end {F : Nat} (h : zFa T s 12 F) : (zfind T s 12 = 12 → zfar T s 8 = F) ∧ (¬ zfind T s 12 = 12 → F = zln (zfind T s 12) ∧ ¬ zfind T s 12 = 2 ∧ ¬ zis T (s + zln (zfind T s 12)) 32) := by
  have up : ∀ w, w < 12 → ∀ n, n ≤ zln w → zMb T s w n = true → n ≤ F := fun w hw n hn hm => by
    obtain ⟨j, j1, j2⟩ := zrho_on w hw
    rw [← j2] at hn hm
    exact h.2.1 j j1 n hn hm
  have F8 : F ≤ 8 := by
    rcases h.2.2 with z | ⟨j, j1, j2, _⟩
    · omega
    · have := zln_b (zrho j) (zrho_lt j j1)
      omega
  refine ⟨fun _ => zfar_e ?_ (fun n n1 z => ?_) 8 F8, fun nf => ?_⟩
  · rcases h.2.2 with z | ⟨j, j1, j2, j3⟩
    · exact Or.inl z
    · exact Or.inr ((zany_i 12).mpr ⟨zrho j, zrho_lt j j1, j2, j3⟩)
  · obtain ⟨w, w1, w2, w3⟩ := (zany_i 12).mp z
    have := up w w1 n w2 w3
    omega
  · obtain ⟨c1, c2⟩ := (zfind_c (T := T) (s := s) 12 (Nat.le_refl _)).resolve_left nf
    have le := up _ c1 _ (Nat.le_refl _) c2
    obtain ⟨k, k1, k2⟩ := zrho_on _ c1
    have nc := h.1 k k1
    rw [k2] at nc
    refine ⟨?_, fun z => nc ⟨c2, Or.inl ((zrho_2 k k1).mp (by rw [k2]; exact z))⟩, fun z => nc ⟨c2, Or.inr z⟩⟩
    rcases h.2.2 with z | ⟨j, j1, j2, j3⟩
    · have := (zln_b _ c1).1
      omega
    · have := zpf c1 (zrho_lt j j1) c2 (by omega) (zMb_le j3 le)
      rw [← this] at j2
      omega
theorem zs_155x (h : zQs T s m) {Q : Int32 → zf_Me → Prop} (hn : zfind T s 12 = 12 → ∀ m', zgN m m' → (m'.1 63 33).toInt = s + zfar T s 8 → Q (-1) m') (hb : ¬ zfind T s 12 = 12 → ¬ zfind T s 12 = 2 → ¬ zis T (s + zln (zfind T s 12)) 32 → ∀ m', zgN m m' → (m'.1 63 33).toInt = s + zln (zfind T s 12) → Q (-1) m') (hy : ∀ (x : Int32) (m' : zf_Me), (0 ≤ x.toInt ∧ x.toInt < 12) → zfind T s 12 = zrho x.toInt.toNat → (¬ x.toInt = 2 → zis T (s + zln (zrho x.toInt.toNat)) 32) → zgN m m' → zQs T (s + zln (zrho x.toInt.toNat) + (if x.toInt = 2 then 0 else 1)) m' → (∀ i, m'.1 78 i = m.1 78 i) → Q x m') : wp_155 m Q := by
  have e1 : (1 : Int32).toInt = 1 := rfl
  have e0 : (0 : Int32).toInt = 0 := rfl
  obtain ⟨hx, hp, h0, h1⟩ := h
  have en := hx.2.2.1
  have el := hx.2.2.2.1
  have lp : ∀ (n : Nat) (v1 v2 v3 : Int32) (F : Nat), 0 ≤ v3.toInt → v3.toInt ≤ 12 → 12 - v3.toInt < n → v1.toInt = zst v3.toInt.toNat → v2.toInt = s + F → F ≤ 8 → zFa T s v3.toInt.toNat F → wq_155_9 Q n v1 v2 v3 m := by
    intro n
    induction n with
    | zero => intro v1 v2 v3 F k0 k1 k2; omega
    | succ n ih =>
      intro v1 v2 v3 F k0 k1 k2 k3 k4 k8 hF
      refine ⟨fun g m1 q1 => ?_, fun g => ?_⟩
      · rw [show v3.toInt.toNat = 12 by omega] at hF
        have fe := zFa_end hF
        have f1 : zgN m m1 := by rw [q1]; exact zgr_u zgr_refl (by omega)
        have w1 : (m1.1 63 33).toInt = s + F := by rw [q1, zf_u3]; exact k4
        by_cases nf : zfind T s 12 = 12
        · exact hn nf m1 f1 (by rw [fe.1 nf]; exact w1)
        · have fe2 := fe.2 nf
          exact hb nf fe2.2.1 fe2.2.2 m1 f1 (by rw [← fe2.1]; exact w1)
      have kk : v3.toInt.toNat < 12 := by omega
      have sw := zw_st v3.toInt.toNat kk
      have wl := zw_len v3.toInt.toNat kk
      have wc := zw_ch v3.toInt.toNat kk
      have wb := zw_bl v3.toInt.toNat kk
      have lb := zln_b (zrho v3.toInt.toNat) (zrho_lt _ kk)
      have a3 := fb_addI (x := v3) (y := 1) (by omega) (by omega)
      have n3 : (v3 + 1).toInt.toNat = v3.toInt.toNat + 1 := by omega
      have bd : zst v3.toInt.toNat + zln (zrho v3.toInt.toNat) < zst (v3.toInt.toNat + 1) ∧ (¬ v3.toInt.toNat = 2 → zst v3.toInt.toNat + zln (zrho v3.toInt.toNat) + 1 < zst (v3.toInt.toNat + 1)) := by
        rw [wl]
        split <;> omega
      have lp106 : ∀ (k : Nat) (v2' v1' : Int32) (F' : Nat), v2'.toInt = s + F' → F' ≤ 8 → zFa T s (v3.toInt.toNat + 1) F' → 0 ≤ v1'.toInt → zst v3.toInt.toNat ≤ v1'.toInt.toNat → v1'.toInt.toNat < zst (v3.toInt.toNat + 1) → zst (v3.toInt.toNat + 1) < v1'.toInt.toNat + k → wq_155_106 (wq_155_9 Q n) Q k v1' v2' v3 m := by
        intro k v2'
        induction k with
        | zero => intro v1' F' i0 i1 i2 j0 j1 j2 j3; omega
        | succ k ik =>
          intro v1' F' i0 i1 i2 j0 j1 j2 j3
          have c := zw_76 hx.1 (v := v1') (by omega)
          have t := zw_in v3.toInt.toNat (by omega) v1'.toInt.toNat (by omega) j1 j2
          have a1 := fb_addI (x := v1') (y := 1) (by omega) (by omega)
          have n1 : (v1' + 1).toInt.toNat = v1'.toInt.toNat + 1 := by omega
          refine ⟨by omega, fun z => ?_, fun z => ?_⟩
          · rw [c] at z
            have nx := t.1 z
            refine ih _ _ _ F' (by omega) (by omega) (by omega) ?_ i0 i1 (by rw [n3]; exact i2)
            rw [n3, ← nx]
            omega
          · rw [c] at z
            have nx := t.2 z
            exact ik _ F' i0 i1 i2 (by omega) (by omega) (by omega) (by omega)
      -- the word stops at its letter j, or at the blank
      have E : ∀ (v4 v5 : Int32) (j : Nat), v5.toInt = zst v3.toInt.toNat + j → v4.toInt = s + j → j ≤ zln (zrho v3.toInt.toNat) → (j = zln (zrho v3.toInt.toNat) → ¬ v3.toInt.toNat = 2) → zMb T s (zrho v3.toInt.toNat) j = true → ¬ (j < zln (zrho v3.toInt.toNat) ∧ zis T (s + j) (zch (zrho v3.toInt.toNat) j)) → ¬ (j = zln (zrho v3.toInt.toNat) ∧ zis T (s + j) 32) → wq_155_75 (wq_155_9 Q n) v1 v2 v3 v4 v5 m Q := by
        intro v4 v5 j j1 j2 j3 j4 j5 j6 j7
        have c := zw_76 hx.1 (v := v5) (by omega)
        have e5 : v5.toInt.toNat = zst v3.toInt.toNat + j := by omega
        rw [e5] at c
        have nz : ¬ zwa (zst v3.toInt.toNat + j) = 0 := by
          by_cases ej : j = zln (zrho v3.toInt.toNat)
          · rw [ej, wb.1, if_neg (j4 ej)]
            decide
          · have := (wc j (by omega)).2
            omega
        have G : ∀ F', F ≤ F' → j ≤ F' → (F' = F ∨ F' = j) → zFa T s (v3.toInt.toNat + 1) F' := by
          intro F' g1 g2 g3
          refine ⟨fun i hi z => ?_, fun i hi x hx1 hx2 => ?_, ?_⟩
          · by_cases e : i = v3.toInt.toNat
            · rw [e] at z
              by_cases ej : j = zln (zrho v3.toInt.toNat)
              · rcases z.2 with z2 | z2
                · exact j4 ej z2
                · rw [← ej] at z2
                  exact j7 ⟨ej, z2⟩
              · exact j6 ⟨by omega, (zMb_i _).mp z.1 j (by omega)⟩
            · exact hF.1 i (by omega) z
          · by_cases e : i = v3.toInt.toNat
            · rw [e] at hx1 hx2
              by_cases q : x ≤ j
              · omega
              · exact absurd ⟨by omega, (zMb_i _).mp hx2 j (by omega)⟩ j6
            · have := hF.2.1 i (by omega) x hx1 hx2
              omega
          · rcases g3 with g3 | g3
            · rw [g3]
              rcases hF.2.2 with z | ⟨i, i1, i2⟩
              · exact Or.inl z
              · exact Or.inr ⟨i, by omega, i2⟩
            · rw [g3]
              exact Or.inr ⟨v3.toInt.toNat, by omega, j3, j5⟩
        refine ⟨by omega, fun _ => ⟨fun le => ⟨77, lp106 77 v2 v1 F k4 k8 (G F (Nat.le_refl _) (by omega) (Or.inl rfl)) (by omega) (by omega) (by omega) (by omega)⟩, fun gt => ⟨77, lp106 77 v4 v1 j j2 (by omega) (G j (by omega) (Nat.le_refl _) (Or.inr rfl)) (by omega) (by omega) (by omega) (by omega)⟩⟩, fun z => ?_⟩
        rw [e5, c] at z
        exact absurd z nz
      have Y : ∀ (v4 v5 : Int32) (j : Nat), v5.toInt = zst v3.toInt.toNat + j → v4.toInt = s + j → zwa (zst v3.toInt.toNat + j) = 0 → zst v3.toInt.toNat + j < 75 → s + j ≤ T.1 → zMb T s (zrho v3.toInt.toNat) (zln (zrho v3.toInt.toNat)) = true → (¬ v3.toInt = 2 → zis T (s + zln (zrho v3.toInt.toNat)) 32) → (j : Int) = zln (zrho v3.toInt.toNat) + (if v3.toInt = 2 then 0 else 1 : Int) → wq_155_75 (wq_155_9 Q n) v1 v2 v3 v4 v5 m Q := by
        intro v4 v5 j j1 j2 j3 j4 j5 j6 j7 j8
        have c := zw_76 hx.1 (v := v5) (by omega)
        have e5 : v5.toInt.toNat = zst v3.toInt.toNat + j := by omega
        rw [e5] at c
        refine ⟨by omega, fun z => ?_, fun _ m3 q3 => ?_⟩
        · rw [e5, c] at z
          exact absurd j3 z
        · have f3 : zgN m m3 := by rw [q3]; exact zgr_u zgr_refl (by omega)
          refine hy v3 m3 ⟨k0, g⟩ (zfind_u (zrho_lt _ kk) j6) j7 f3 (zQs_e (zQx_g hx f3 (fun a k z => by omega)) (by rw [q3, zf_u3]; omega) (by split <;> omega) (by omega)) (fun i => by rw [q3, zf_u1 (by decide)])
      have lp24 : ∀ (k : Nat) (v4 v5 : Int32) (j : Nat), v5.toInt = zst v3.toInt.toNat + j → v4.toInt = s + j → j ≤ zln (zrho v3.toInt.toNat) → zMb T s (zrho v3.toInt.toNat) j = true → zln (zrho v3.toInt.toNat) + 2 < j + k → s + j ≤ T.1 → wq_155_24 (wq_155_9 Q n) Q k v1 v2 v3 v4 v5 m := by
        intro k
        induction k with
        | zero => intro v4 v5 j j1 j2 j3 j4 j5; omega
        | succ k ik =>
          intro v4 v5 j j1 j2 j3 j4 j5 j6
          have c := zw_76 hx.1 (v := v5) (by omega)
          have e5 : v5.toInt.toNat = zst v3.toInt.toNat + j := by omega
          rw [e5] at c
          have a4 := fb_addI (x := v4) (y := 1) (by omega) (by omega)
          have a5 := fb_addI (x := v5) (y := 1) (by omega) (by omega)
          have nt : v4.toInt.toNat = (s + j).toNat := by omega
          by_cases ej : j = zln (zrho v3.toInt.toNat)
          · by_cases e2 : v3.toInt.toNat = 2
            · have z0 : zwa (zst v3.toInt.toNat + j) = 0 := by
                rw [ej, wb.1, if_pos e2]
              refine ⟨by omega, fun _ => Y v4 v5 j j1 j2 z0 (by omega) j6 (by rw [← ej]; exact j4) (fun z => absurd (by omega) z) (by rw [if_pos (by omega)]; omega), fun z => ?_⟩
              rw [e5, c] at z
              exact absurd z0 z
            · have z32 : zwa (zst v3.toInt.toNat + j) = 32 := by
                rw [ej, wb.1, if_neg e2]
              have bd2 := bd.2 e2
              have E' : ¬ zis T (s + j) 32 → wq_155_75 (wq_155_9 Q n) v1 v2 v3 v4 v5 m Q := fun nz => E v4 v5 j j1 j2 j3 (fun _ => e2) j4 (fun z => by omega) (fun z => nz z.2)
              refine ⟨by omega, fun z => ?_, fun _ => ⟨fun ge => E' (fun z => by have := z.1; omega), fun g3 => ?_⟩⟩
              · rw [e5, c, z32] at z
                exact absurd z (by decide)
              · have at4 := zQs_at hx (v := v4) (by omega) (by omega)
                refine ⟨at4.1, by omega, fun g4 => E' (fun z => g4 ?_), fun g4 => ?_⟩
                · rw [at4.2, e5, c, z32, nt]
                  exact z.2
                · rw [at4.2, e5, c, z32, nt] at g4
                  obtain ⟨k, rfl⟩ : ∃ i, k = i + 1 := ⟨k - 1, by omega⟩
                  have z0 : zwa (zst v3.toInt.toNat + (j + 1)) = 0 := by
                    rw [show zst v3.toInt.toNat + (j + 1) = zst v3.toInt.toNat + zln (zrho v3.toInt.toNat) + 1 by omega]
                    exact wb.2 e2
                  have c2 := zw_76 hx.1 (v := v5 + 1) (by omega)
                  have e6 : (v5 + 1).toInt.toNat = zst v3.toInt.toNat + (j + 1) := by omega
                  rw [e6] at c2
                  refine ⟨by omega, fun _ => Y (v4 + 1) (v5 + 1) (j + 1) (by omega) (by omega) z0 (by omega) (by omega) (by rw [← ej]; exact j4) (fun _ => ⟨by omega, by rw [← ej]; exact g4⟩) (by rw [if_neg (by omega)]; omega), fun z => ?_⟩
                  rw [e6, c2] at z
                  exact absurd z0 z
          · have lj : j < zln (zrho v3.toInt.toNat) := by omega
            have cw := wc j lj
            have E' : ¬ zis T (s + j) (zch (zrho v3.toInt.toNat) j) → wq_155_75 (wq_155_9 Q n) v1 v2 v3 v4 v5 m Q := fun nz => E v4 v5 j j1 j2 j3 (fun z => absurd z ej) j4 (fun z => nz z.2) (fun z => ej z.1)
            refine ⟨by omega, fun z => ?_, fun _ => ⟨fun ge => E' (fun z => by have := z.1; omega), fun g3 => ?_⟩⟩
            · rw [e5, c] at z
              omega
            · have at4 := zQs_at hx (v := v4) (by omega) (by omega)
              refine ⟨at4.1, by omega, fun g4 => E' (fun z => g4 ?_), fun g4 => ?_⟩
              · rw [at4.2, e5, c, cw.1, nt]
                exact z.2
              · rw [at4.2, e5, c, cw.1, nt] at g4
                refine ik _ _ (j + 1) (by omega) (by omega) (by omega) ((zMb_i _).mpr (fun i hi => ?_)) (by omega) (by omega)
                by_cases e : i = j
                · rw [e]
                  exact ⟨by omega, g4⟩
                · exact (zMb_i _).mp j4 i (by omega)
      exact ⟨77, lp24 77 (m.1 63 30) v1 0 (by omega) (by omega) (by omega) rfl (by omega) (by omega)⟩
  exact ⟨14, lp 14 0 (m.1 63 30) 0 0 (by decide) (by decide) (by decide) (by decide) (by omega) (by decide) ⟨fun j hj => absurd hj (Nat.not_lt_zero j), fun j hj => absurd hj (Nat.not_lt_zero j), Or.inl rfl⟩⟩
theorem zs_156x (h : zQs T s m) {Q : Bool → zf_Me → Prop} (hq : ∀ b, (b = true ↔ zdg T s) → Q b m) : wp_156 m Q := by
  obtain ⟨hx, hp, h0, h1⟩ := h
  have en := hx.2.2.1
  refine ⟨fun g => hq false (zb_f (fun z => by have := z.1; omega)), fun g => ?_⟩
  have l := zQs_at hx (v := m.1 63 30) (by omega) (by omega)
  have l2 := l.2
  rw [hp] at l2
  exact ⟨l.1, fun g2 => hq false (zb_f (fun z => by have := z.2.1; omega)), fun g2 => ⟨l.1, fun g3 => hq false (zb_f (fun z => by have := z.2.2; omega)), fun g3 => hq true (zb_t ⟨by omega, by omega, by omega⟩)⟩⟩
theorem zs_157x (h : zQs T s m) {Q : Bool → zf_Me → Prop} (ht : zdg T s → ∀ m', zgN m m' → zQs T (zdgs T s).2 m' → (m'.1 63 32).toInt = (zdgs T s).1 → (∀ i, m'.1 78 i = m.1 78 i) → Q true m') (hf : ¬ zdg T s → ∀ m', zgN m m' → (m'.1 63 33).toInt = s → Q false m') : wp_157 m Q := by
  have e0 : (0 : Int32).toInt = 0 := rfl
  have e1 : (1 : Int32).toInt = 1 := rfl
  have e10 : (10 : Int32).toInt = 10 := rfl
  have e48 : (48 : Int32).toInt = 48 := rfl
  intro m1 q1
  have f1 : zgN m m1 := by rw [q1]; exact zgr_u zgr_refl (by omega)
  have h1 : zQs T s m1 := zQs_e (zQx_g h.1 f1 (fun a k z => by omega)) (by rw [q1, zf_u4 (by decide)]; exact h.2.1) h.2.2.1 h.2.2.2
  have n1 : (m1.1 63 32).toInt = 0 := by rw [q1, zf_u3]; rfl
  have r1 : ∀ i, m1.1 78 i = m.1 78 i := fun i => by rw [q1, zf_u1 (by decide)]
  have s0 := h.2.2.1
  -- one digit more
  have step : ∀ (mj : zf_Me) (q v : Int) {R : zf_Me → Prop}, zgN m mj → zQs T q mj → (∀ i, mj.1 78 i = m.1 78 i) → (mj.1 63 32).toInt = v → (0 ≤ v ∧ v ≤ 9) → zdg T q → (∀ m9, zgN m m9 → zQs T (q + 1) m9 → (∀ i, m9.1 78 i = m.1 78 i) → (m9.1 63 32).toInt = v * 10 + T.2 q.toNat - 48 → R m9) → ((0 ≤ (Int32.toInt ((mj.1 63 29) + (mj.1 63 30))) ∧ (Int32.toInt ((mj.1 63 29) + (mj.1 63 30))) < (1280 : Int)) ∧ (∀ m7, m7 = zf_u mj 63 32 (((10 * (mj.1 63 32)) + (Int64.toInt32 (mj.2 74 (Int32.toInt ((mj.1 63 29) + (mj.1 63 30))).toNat))) - 48) → (∀ m9, m9 = zf_u m7 63 30 ((m7.1 63 30) + 1) → R m9))) := by
    intro mj q v R fj hj rj vj bv d k
    have en := hj.1.2.2.1
    have el := hj.1.2.2.2.1
    have pj := hj.2.1
    have p0 := hj.2.2.1
    have l := zQs_at hj.1 (v := mj.1 63 30) (by omega) (by omega)
    have l2 := l.2
    rw [pj] at l2
    have mu := fb_mulI (x := 10) (y := mj.1 63 32) (by rw [e10]; omega) (by rw [e10]; omega)
    rw [e10] at mu
    obtain ⟨c, hc⟩ : ∃ c, c = Int64.toInt32 (mj.2 74 ((mj.1 63 29) + (mj.1 63 30)).toInt.toNat) := ⟨_, rfl⟩
    rw [← hc] at l2
    have s1 := fb_addI (x := 10 * mj.1 63 32) (y := c) (by omega) (by omega)
    have s2 := fb_subI (x := 10 * mj.1 63 32 + c) (y := 48) (by omega) (by omega)
    refine ⟨l.1, fun m7 q7 m9 q9 => ?_⟩
    rw [← hc] at q7
    have f9 : zgN m m9 := by
      rw [q9, q7]
      exact zgr_u (zgr_u fj (by omega)) (by omega)
    have a7 : m7.1 63 30 = mj.1 63 30 := by rw [q7, zf_u4 (by decide)]
    have sa := fb_addI (x := m7.1 63 30) (y := 1) (by rw [a7]; omega) (by rw [a7]; omega)
    refine k m9 f9 (zQs_e (zQx_g h.1 f9 (fun a k z => by omega)) (by rw [q9, zf_u3, sa, a7]; omega) (by omega) (by omega)) (fun i => by rw [q9, zf_u1 (by decide), q7, zf_u1 (by decide)]; exact rj i) ?_
    rw [q9, zf_u4 (by decide), q7, zf_u3]
    omega
  refine zs_156x h1 (fun b hb => ⟨fun e => ⟨4, ?_⟩, fun e m' q' => ?_⟩)
  · have d := hb.mp e
    refine ⟨fun z => absurd z (by decide), fun _ => zs_156x h1 (fun b2 hb2 => ⟨fun e2 => absurd d (zno hb2 e2), fun _ => step m1 s 0 f1 h1 r1 n1 (by decide) d (fun m9 f9 h9 r9 v9 => ?_)⟩)⟩
    refine ⟨fun z => absurd z (by decide), fun _ => zs_156x h9 (fun b3 hb3 => ⟨fun e3 => ht d m9 f9 ?_ ?_ r9, fun e3 => step m9 (s + 1) (T.2 s.toNat - 48) f9 h9 r9 (by omega) (by omega) (hb3.mp e3) (fun m10 f10 h10 r10 v10 => ⟨fun _ => ht d m10 f10 ?_ ?_ r10, fun z => absurd z (by decide)⟩)⟩)⟩
    · have D : zdgs T s = (T.2 s.toNat - 48, s + 1) := if_neg (zno hb3 e3)
      rw [D]
      exact h9
    · have D : zdgs T s = (T.2 s.toNat - 48, s + 1) := if_neg (zno hb3 e3)
      rw [D, v9]
      show 0 * 10 + T.2 s.toNat - 48 = T.2 s.toNat - 48
      omega
    · have D : zdgs T s = ((T.2 s.toNat - 48) * 10 + T.2 (s + 1).toNat - 48, s + 2) := if_pos (hb3.mp e3)
      rw [D]
      rw [show s + 1 + 1 = s + 2 by omega] at h10
      exact h10
    · have D : zdgs T s = ((T.2 s.toNat - 48) * 10 + T.2 (s + 1).toNat - 48, s + 2) := if_pos (hb3.mp e3)
      rw [D]
      exact v10
  · rw [q']
    exact hf (zno hb e) _ (zgr_u f1 (by omega)) (by rw [zf_u3]; exact h1.2.1)
theorem zs_158x (hB : zB (zr m)) {w i : Int32} (hw : 0 ≤ w.toInt ∧ w.toInt < 12 ∧ ¬ w.toInt = 2) {Q : Bool → zf_Me → Prop} (ht : zok (zr m) w.toInt i.toInt (m.1 63 32).toInt → Q true m) (hf : ¬ zok (zr m) w.toInt i.toInt (m.1 63 32).toInt → Q false m) : wp_158 w i m Q := by
  have e6 : (6 : Int32).toInt = 6 := rfl
  have pp : zr m 5 6 = (m.1 63 1).toInt := rfl
  have w6 : 6 ≤ w.toInt → w.toInt ≤ 10 → wp_146 (w - 6) (m.1 63 32) m (fun b m' => Q b m') := fun g1 g2 => by
    have s := fb_subI (x := w) (y := 6) (by omega) (by omega)
    have e : (w - 6).toInt.toNat = (w.toInt - 6).toNat := by omega
    refine zs_146 (by omega) (fun k => ht ?_) (fun k => hf (fun z => k ?_))
    · rw [e] at k
      exact ⟨fun z => by omega, fun z => by omega, fun z => by omega, fun z => by omega, fun z => by omega, fun _ _ => k, fun z => by omega⟩
    · rw [e]
      exact z.2.2.2.2.2.1 g1 g2
  refine ⟨fun z => by omega, fun z => ⟨fun g => hf (fun k => ?_), fun g => ht ?_⟩, fun z => ⟨fun g => hf (fun k => ?_), fun g => ht ?_⟩, fun z => absurd z hw.2.2, fun z => ⟨fun z2 => ⟨fun g => hf (fun k => ?_), fun g => ht ?_⟩, fun z2 => ⟨fun g => hf (fun k => ?_), fun g => ht ?_⟩⟩, fun z => ⟨fun z2 => ht ?_, fun z2 => ⟨fun g => hf (fun k => ?_), fun g => ht ?_⟩⟩, fun z => ⟨fun g => hf (fun k => ?_), fun g => ht ?_⟩, fun z => w6 (by omega) (by omega), fun z => w6 (by omega) (by omega), fun z => w6 (by omega) (by omega), fun z => w6 (by omega) (by omega), fun z => w6 (by omega) (by omega), fun z => ⟨fun g => hf (fun k => ?_), fun g => zs_167 hB g (fun b hb => ⟨fun e => hf (fun k => zno hb e (k.2.2.2.2.2.2 z).2), fun e => ht ?_⟩)⟩⟩
  · have := k.1 (Or.inl z)
    omega
  · exact ⟨fun _ => g, fun z => by omega, fun z => by omega, fun z => by omega, fun z => by omega, fun z => by omega, fun z => by omega⟩
  · have := k.1 (Or.inr z)
    omega
  · exact ⟨fun _ => g, fun z => by omega, fun z => by omega, fun z => by omega, fun z => by omega, fun z => by omega, fun z => by omega⟩
  · have := k.2.2.1 z z2
    omega
  · exact ⟨fun z => by omega, fun _ k => absurd k z2, fun _ _ => g, fun z => by omega, fun z => by omega, fun z => by omega, fun z => by omega⟩
  · have := k.2.1 z z2
    omega
  · exact ⟨fun z => by omega, fun _ _ => g, fun _ k => absurd z2 k, fun z => by omega, fun z => by omega, fun z => by omega, fun z => by omega⟩
  · exact ⟨fun z => by omega, fun z => by omega, fun z => by omega, fun _ k => absurd z2 k, fun z => by omega, fun z => by omega, fun z => by omega⟩
  · have := k.2.2.2.1 z z2
    rw [pp] at this
    omega
  · exact ⟨fun z => by omega, fun z => by omega, fun z => by omega, fun _ _ => by rw [pp]; exact g, fun z => by omega, fun z => by omega, fun z => by omega⟩
  · have := k.2.2.2.2.1 z
    rw [pp] at this
    omega
  · exact ⟨fun z => by omega, fun z => by omega, fun z => by omega, fun z => by omega, fun _ => by rw [pp]; exact g, fun z => by omega, fun z => by omega⟩
  · have := (k.2.2.2.2.2.2 z).1
    omega
  · exact ⟨fun z => by omega, fun z => by omega, fun z => by omega, fun z => by omega, fun z => by omega, fun z => by omega, fun _ => ⟨g, hb.mp e⟩⟩
end
