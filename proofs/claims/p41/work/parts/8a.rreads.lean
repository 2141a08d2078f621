section
/-! part 8a: the reference reads a text, exactly -/
def zrho (k : Nat) : Nat := [0, 1, 2, 3, 4, 5, 7, 8, 9, 10, 11, 6].getD k 0
theorem zrho_lt : ∀ k, k < 12 → zrho k < 12 := by decide
theorem zrho_on : ∀ w, w < 12 → ∃ k, k < 12 ∧ zrho k = w := by decide
theorem zrho_2 : ∀ k, k < 12 → (zrho k = 2 ↔ k = 2) := by decide
theorem zw_len : ∀ k, k < 12 → zst (k + 1) = zst k + zln (zrho k) + (if k = 2 then 1 else 2) := by decide +kernel
theorem zw_ch : ∀ k, k < 12 → ∀ i, i < zln (zrho k) → zwa (zst k + i) = zch (zrho k) i ∧ 32 < zwa (zst k + i) := by decide +kernel
theorem zw_bl : ∀ k, k < 12 → zwa (zst k + zln (zrho k)) = (if k = 2 then 0 else 32) ∧ (¬ k = 2 → zwa (zst k + zln (zrho k) + 1) = 0) := by decide +kernel
def zQx (T : zT) (m : zf_Me) : Prop := zwd m ∧ (0 ≤ (m.1 63 29).toInt ∧ (m.1 63 29).toInt ≤ 1120) ∧ (m.1 63 31).toInt = T.1 ∧ T.1 ≤ 160 ∧ ∀ i : Nat, (i : Int) < T.1 → (Int64.toInt32 (m.2 74 ((m.1 63 29).toInt + i).toNat)).toInt = T.2 i
def zQs (T : zT) (s : Int) (m : zf_Me) : Prop := zQx T m ∧ (m.1 63 30).toInt = s ∧ 0 ≤ s ∧ s ≤ T.1
section
variable {m : zf_Me} {T : zT} {s : Int}
theorem zQx_g {P : Nat → Nat → Prop} {m' : zf_Me} (h : zQx T m) (f : zgr' P m m') (hp : ∀ a k, P a k → (¬ a = 76 ∧ ¬ a = 77) ∧ ¬ (a = 63 ∧ (k = 29 ∨ k = 31))) : zQx T m' := by
  have c29 : m'.1 63 29 = m.1 63 29 := f.1 63 29 (fun z => (hp _ _ z).2 ⟨rfl, Or.inl rfl⟩)
  have c31 : m'.1 63 31 = m.1 63 31 := f.1 63 31 (fun z => (hp _ _ z).2 ⟨rfl, Or.inr rfl⟩)
  refine ⟨zwd_of f (fun a k z => (hp a k z).1) h.1, by rw [c29]; exact h.2.1, by rw [c31]; exact h.2.2.1, h.2.2.2.1, fun i hi => ?_⟩
  rw [c29, f.2]
  exact h.2.2.2.2 i hi
theorem zQs_e {m' : zf_Me} (h : zQx T m') {p : Int} (e : (m'.1 63 30).toInt = p) (h0 : 0 ≤ p) (h1 : p ≤ T.1) : zQs T p m' := ⟨h, e, h0, h1⟩
theorem zQs_at (h : zQx T m) {v : Int32} (h0 : 0 ≤ v.toInt) (h1 : v.toInt < T.1) : (0 ≤ (m.1 63 29 + v).toInt ∧ (m.1 63 29 + v).toInt < 1280) ∧ (Int64.toInt32 (m.2 74 (m.1 63 29 + v).toInt.toNat)).toInt = T.2 v.toInt.toNat := by
  have b := h.2.1
  have l := h.2.2.2.1
  have ad := fb_addI (x := m.1 63 29) (y := v) (by omega) (by omega)
  have k := h.2.2.2.2 v.toInt.toNat (by omega)
  rw [show ((m.1 63 29).toInt + (v.toInt.toNat : Nat)).toNat = (m.1 63 29 + v).toInt.toNat by omega] at k
  exact ⟨by omega, k⟩
theorem zs_154x (h : zQs T s m) {w : Int32} (hw : 0 ≤ w.toInt ∧ w.toInt ≤ 3) {Q : Bool → zf_Me → Prop} (hq : ∀ b, (b = true ↔ zMb T s w.toInt.toNat (zln w.toInt.toNat) = true) → Q b m) : wp_154 w m Q := by
  have e1 : (1 : Int32).toInt = 1 := rfl
  have e0 : (0 : Int32).toInt = 0 := rfl
  obtain ⟨hx, hp, h0, h1⟩ := h
  have en := hx.2.2.1
  have el := hx.2.2.2.1
  have sw := zw_st w.toInt.toNat (by omega)
  have rho : zrho w.toInt.toNat = w.toInt.toNat := by
    have : ∀ k, k < 4 → zrho k = k := by decide
    exact this _ (by omega)
  have wl := zw_len w.toInt.toNat (by omega)
  have wc := zw_ch w.toInt.toNat (by omega)
  have wb := zw_bl w.toInt.toNat (by omega)
  rw [rho] at wl wc wb
  have lp2 : ∀ (n : Nat) (v2 v3 : Int32) (j : Nat), v2.toInt = zst w.toInt.toNat + j → v3.toInt = s + j → j ≤ zln w.toInt.toNat → zMb T s w.toInt.toNat j = true → zln w.toInt.toNat < j + n → wq_154_37 w Q n v2 v3 m := by
    intro n
    induction n with
    | zero => intro v2 v3 j k1 k2 k3 k4 k5; omega
    | succ n ih =>
      intro v2 v3 j k1 k2 k3 k4 k5
      have bd : zst w.toInt.toNat + zln w.toInt.toNat < zst (w.toInt.toNat + 1) := by
        rw [wl]
        split <;> omega
      have c := zw_76 hx.1 (v := v2) (by omega)
      have e2 : v2.toInt.toNat = zst w.toInt.toNat + j := by omega
      rw [e2] at c
      have Et : j = zln w.toInt.toNat → wq_154_86 w v2 m Q := fun ej => by
        have z : zwa (zst w.toInt.toNat + j) ≤ 32 := by
          rw [ej, wb.1]
          split <;> omega
        refine ⟨by omega, fun g => ?_, fun _ => hq true (zb_t (by rw [← ej]; exact k4))⟩
        rw [e2, c] at g
        omega
      have Ef : j < zln w.toInt.toNat → ¬ zis T (s + j) (zch w.toInt.toNat j) → wq_154_86 w v2 m Q := fun lj nz => by
        refine ⟨by omega, fun _ => hq false (zb_f (fun z => nz ((zMb_i _).mp z j lj))), fun g => ?_⟩
        have := (wc j lj).2
        rw [e2, c] at g
        omega
      by_cases ej : j = zln w.toInt.toNat
      · have z : zwa (zst w.toInt.toNat + j) ≤ 32 := by
          rw [ej, wb.1]
          split <;> omega
        refine ⟨by omega, fun _ => Et ej, fun g => ?_⟩
        rw [e2, c] at g
        omega
      · have lj : j < zln w.toInt.toNat := by omega
        refine ⟨by omega, fun g => ?_, fun g => ⟨fun g3 => Ef lj (fun z => by have := z.1; omega), fun g3 => ?_⟩⟩
        · have := (wc j lj).2
          rw [e2, c] at g
          omega
        · have at3 := zQs_at hx (v := v3) (by omega) (by omega)
          have n3 : v3.toInt.toNat = (s + j).toNat := by omega
          refine ⟨at3.1, by omega, fun g4 => Ef lj (fun z => g4 ?_), fun g4 => ?_⟩
          · rw [at3.2, e2, c, n3, (wc j lj).1]
            exact z.2
          · have a2 := fb_addI (x := v2) (y := 1) (by omega) (by omega)
            have a3 := fb_addI (x := v3) (y := 1) (by omega) (by omega)
            rw [at3.2, e2, c, n3, (wc j lj).1] at g4
            refine ih _ _ (j + 1) (by omega) (by omega) (by omega) ((zMb_i _).mpr (fun i hi => ?_)) (by omega)
            by_cases e : i = j
            · rw [e]
              exact ⟨by omega, g4⟩
            · exact (zMb_i _).mp k4 i (by omega)
  have lp : ∀ (n : Nat) (v2 v3 : Int32), 0 ≤ v2.toInt → v2.toInt < 75 → 75 - v2.toInt < n → 0 ≤ v3.toInt → v3.toInt ≤ w.toInt → zst v3.toInt.toNat ≤ v2.toInt.toNat → v2.toInt.toNat < zst (v3.toInt.toNat + 1) → (v3.toInt = w.toInt → v2.toInt.toNat = zst w.toInt.toNat) → wq_154_4 w Q n v2 v3 m := by
    intro n
    induction n with
    | zero => intro v2 v3 k0 k1 k2; omega
    | succ n ih =>
      intro v2 v3 k0 k1 k2 k3 k4 k5 k6 k7
      refine ⟨fun g => ⟨77, lp2 77 v2 (m.1 63 30) 0 ?_ (by omega) (by omega) rfl (by have := zln_b w.toInt.toNat (by omega); omega)⟩, fun g => ?_⟩
      · have := k7 (by omega)
        omega
      · have c := zw_76 hx.1 (v := v2) (by omega)
        have t := zw_in v3.toInt.toNat (by omega) v2.toInt.toNat (by omega) k5 k6
        have s1 := zw_st (v3.toInt.toNat + 1) (by omega)
        have a2 := fb_addI (x := v2) (y := 1) (by omega) (by omega)
        have n2 : (v2 + 1).toInt.toNat = v2.toInt.toNat + 1 := by omega
        refine ⟨by omega, fun z => ?_, fun z => ?_⟩
        · rw [c] at z
          have nx := t.2 z
          have a3 := fb_addI (x := v3) (y := 0) (by omega) (by omega)
          have e3 : (v3 + 0).toInt = v3.toInt := by omega
          refine ih _ _ (by omega) (by omega) (by omega) (by omega) (by omega) ?_ ?_ (by omega)
          · rw [n2, e3]
            omega
          · rw [n2, e3]
            exact nx
        · rw [c] at z
          have nx := t.1 z
          have a3 := fb_addI (x := v3) (y := 1) (by omega) (by omega)
          have n3 : (v3 + 1).toInt.toNat = v3.toInt.toNat + 1 := by omega
          refine ih _ _ (by omega) (by omega) (by omega) (by omega) (by omega) ?_ ?_ (fun e => ?_)
          · rw [n2, n3, nx]
            exact Nat.le_refl _
          · rw [n2, n3, nx]
            exact s1.1
          · rw [n2, nx]
            have : v3.toInt.toNat + 1 = w.toInt.toNat := by omega
            rw [this]
  exact ⟨77, lp 77 0 0 (by decide) (by decide) (by decide) (by decide) (by rw [e0]; exact hw.1) (by decide) (by decide) (fun e => by rw [← e]; rfl)⟩
/-- the first k words don't stand with what follows; F letters at most are as theirs -/
def zFa (T : zT) (s : Int) (k : Nat) (F : Nat) : Prop := (∀ j, j < k → ¬ (zMb T s (zrho j) (zln (zrho j)) = true ∧ (j = 2 ∨ zis T (s + zln (zrho j)) 32))) ∧ (∀ j, j < k → ∀ n, n ≤ zln (zrho j) → zMb T s (zrho j) n = true → n ≤ F) ∧ (F = 0 ∨ ∃ j, j < k ∧ F ≤ zln (zrho j) ∧ zMb T s (zrho j) F = true)
theorem zFa_end {F : Nat} (h : zFa T s 12 F) : (zfind T s 12 = 12 → zfar T s 8 = F) ∧ (¬ zfind T s 12 = 12 → F = zln (zfind T s 12) ∧ ¬ zfind T s 12 = 2 ∧ ¬ zis T (s + zln (zfind T s 12)) 32) := by
  have up : ∀ w, w < 12 → ∀ n, n ≤ zln w → zMb T s w n = true → n ≤ F := fun w hw n hn hm => by
    obtain ⟨j, j1, j2⟩ := zrho_on w hw
    rw [← j2] at hn hm
    exact h.2.1 j j1 n hn hm
  have F8 : F ≤ 8 := by
    rcases h.2.2 with z | ⟨j, j1, j2, _⟩
    · omega
    · have := zln_b (zrho j) (zrho_lt j j1)
      omega
  refine ⟨fun _ => zfar_e ?_ (fun n n1 z => ?_) 8 F8, fun nf => ?_⟩
  · rcases h.2.2 with z | ⟨j, j1, j2, j3⟩
    · exact Or.inl z
    · exact Or.inr ((zany_i 12).mpr ⟨zrho j, zrho_lt j j1, j2, j3⟩)
  · obtain ⟨w, w1, w2, w3⟩ := (zany_i 12).mp z
    have := up w w1 n w2 w3
    omega
  · obtain ⟨c1, c2⟩ := (zfind_c (T := T) (s := s) 12 (Nat.le_refl _)).resolve_left nf
    have le := up _ c1 _ (Nat.le_refl _) c2
    obtain ⟨k, k1, k2⟩ := zrho_on _ c1
    have nc := h.1 k k1
    rw [k2] at nc
    refine ⟨?_, fun z => nc ⟨c2, Or.inl ((zrho_2 k k1).mp (by rw [k2]; exact z))⟩, fun z => nc ⟨c2, Or.inr z⟩⟩
    rcases h.2.2 with z | ⟨j, j1, j2, j3⟩
    · have := (zln_b _ c1).1
      omega
    · have := zpf c1 (zrho_lt j j1) c2 (by omega) (zMb_le j3 le)
      rw [← this] at j2
      omega
theorem zs_155x (h : zQs T s m) {Q : Int32 → zf_Me → Prop} (hn : zfind T s 12 = 12 → ∀ m', zgN m m' → (m'.1 63 33).toInt = s + zfar T s 8 → Q (-1) m') (hb : ¬ zfind T s 12 = 12 → ¬ zfind T s 12 = 2 → ¬ zis T (s + zln (zfind T s 12)) 32 → ∀ m', zgN m m' → (m'.1 63 33).toInt = s + zln (zfind T s 12) → Q (-1) m') (hy : ∀ (x : Int32) (m' : zf_Me), (0 ≤ x.toInt ∧ x.toInt < 12) → zfind T s 12 = zrho x.toInt.toNat → (¬ x.toInt = 2 → zis T (s + zln (zrho x.toInt.toNat)) 32) → zgN m m' → zQs T (s + zln (zrho x.toInt.toNat) + (if x.toInt = 2 then 0 else 1)) m' → (∀ i, m'.1 78 i = m.1 78 i) → Q x m') : wp_155 m Q := by
  have e1 : (1 : Int32).toInt = 1 := rfl
  have e0 : (0 : Int32).toInt = 0 := rfl
  obtain ⟨hx, hp, h0, h1⟩ := h
  have en := hx.2.2.1
  have el := hx.2.2.2.1
  have lp : ∀ (n : Nat) (v1 v2 v3 : Int32) (F : Nat), 0 ≤ v3.toInt → v3.toInt ≤ 12 → 12 - v3.toInt < n → v1.toInt = zst v3.toInt.toNat → v2.toInt = s + F → F ≤ 8 → zFa T s v3.toInt.toNat F → wq_155_9 Q n v1 v2 v3 m := by
    intro n
    induction n with
    | zero => intro v1 v2 v3 F k0 k1 k2; omega
    | succ n ih =>
      intro v1 v2 v3 F k0 k1 k2 k3 k4 k8 hF
      refine ⟨fun g m1 q1 => ?_, fun g => ?_⟩
      · rw [show v3.toInt.toNat = 12 by omega] at hF
        have fe := zFa_end hF
        have f1 : zgN m m1 := by rw [q1]; exact zgr_u zgr_refl (by omega)
        have w1 : (m1.1 63 33).toInt = s + F := by rw [q1, zf_u3]; exact k4
        by_cases nf : zfind T s 12 = 12
        · exact hn nf m1 f1 (by rw [fe.1 nf]; exact w1)
        · have fe2 := fe.2 nf
          exact hb nf fe2.2.1 fe2.2.2 m1 f1 (by rw [← fe2.1]; exact w1)
      have kk : v3.toInt.toNat < 12 := by omega
      have sw := zw_st v3.toInt.toNat kk
      have wl := zw_len v3.toInt.toNat kk
      have wc := zw_ch v3.toInt.toNat kk
      have wb := zw_bl v3.toInt.toNat kk
      have lb := zln_b (zrho v3.toInt.toNat) (zrho_lt _ kk)
      have a3 := fb_addI (x := v3) (y := 1) (by omega) (by omega)
      have n3 : (v3 + 1).toInt.toNat = v3.toInt.toNat + 1 := by omega
      have bd : zst v3.toInt.toNat + zln (zrho v3.toInt.toNat) < zst (v3.toInt.toNat + 1) ∧ (¬ v3.toInt.toNat = 2 → zst v3.toInt.toNat + zln (zrho v3.toInt.toNat) + 1 < zst (v3.toInt.toNat + 1)) := by
        rw [wl]
        split <;> omega
      have lp106 : ∀ (k : Nat) (v2' v1' : Int32) (F' : Nat), v2'.toInt = s + F' → F' ≤ 8 → zFa T s (v3.toInt.toNat + 1) F' → 0 ≤ v1'.toInt → zst v3.toInt.toNat ≤ v1'.toInt.toNat → v1'.toInt.toNat < zst (v3.toInt.toNat + 1) → zst (v3.toInt.toNat + 1) < v1'.toInt.toNat + k → wq_155_106 (wq_155_9 Q n) Q k v1' v2' v3 m := by
        intro k v2'
        induction k with
        | zero => intro v1' F' i0 i1 i2 j0 j1 j2 j3; omega
        | succ k ik =>
          intro v1' F' i0 i1 i2 j0 j1 j2 j3
          have c := zw_76 hx.1 (v := v1') (by omega)
          have t := zw_in v3.toInt.toNat (by omega) v1'.toInt.toNat (by omega) j1 j2
          have a1 := fb_addI (x := v1') (y := 1) (by omega) (by omega)
          have n1 : (v1' + 1).toInt.toNat = v1'.toInt.toNat + 1 := by omega
          refine ⟨by omega, fun z => ?_, fun z => ?_⟩
          · rw [c] at z
            have nx := t.1 z
            refine ih _ _ _ F' (by omega) (by omega) (by omega) ?_ i0 i1 (by rw [n3]; exact i2)
            rw [n3, ← nx]
            omega
          · rw [c] at z
            have nx := t.2 z
            exact ik _ F' i0 i1 i2 (by omega) (by omega) (by omega) (by omega)
      -- the word stops at its letter j, or at the blank
      have E : ∀ (v4 v5 : Int32) (j : Nat), v5.toInt = zst v3.toInt.toNat + j → v4.toInt = s + j → j ≤ zln (zrho v3.toInt.toNat) → (j = zln (zrho v3.toInt.toNat) → ¬ v3.toInt.toNat = 2) → zMb T s (zrho v3.toInt.toNat) j = true → ¬ (j < zln (zrho v3.toInt.toNat) ∧ zis T (s + j) (zch (zrho v3.toInt.toNat) j)) → ¬ (j = zln (zrho v3.toInt.toNat) ∧ zis T (s + j) 32) → wq_155_75 (wq_155_9 Q n) v1 v2 v3 v4 v5 m Q := by
        intro v4 v5 j j1 j2 j3 j4 j5 j6 j7
        have c := zw_76 hx.1 (v := v5) (by omega)
        have e5 : v5.toInt.toNat = zst v3.toInt.toNat + j := by omega
        rw [e5] at c
        have nz : ¬ zwa (zst v3.toInt.toNat + j) = 0 := by
          by_cases ej : j = zln (zrho v3.toInt.toNat)
          · rw [ej, wb.1, if_neg (j4 ej)]
            decide
          · have := (wc j (by omega)).2
            omega
        have G : ∀ F', F ≤ F' → j ≤ F' → (F' = F ∨ F' = j) → zFa T s (v3.toInt.toNat + 1) F' := by
          intro F' g1 g2 g3
          refine ⟨fun i hi z => ?_, fun i hi x hx1 hx2 => ?_, ?_⟩
          · by_cases e : i = v3.toInt.toNat
            · rw [e] at z
              by_cases ej : j = zln (zrho v3.toInt.toNat)
              · rcases z.2 with z2 | z2
                · exact j4 ej z2
                · rw [← ej] at z2
                  exact j7 ⟨ej, z2⟩
              · exact j6 ⟨by omega, (zMb_i _).mp z.1 j (by omega)⟩
            · exact hF.1 i (by omega) z
          · by_cases e : i = v3.toInt.toNat
            · rw [e] at hx1 hx2
              by_cases q : x ≤ j
              · omega
              · exact absurd ⟨by omega, (zMb_i _).mp hx2 j (by omega)⟩ j6
            · have := hF.2.1 i (by omega) x hx1 hx2
              omega
          · rcases g3 with g3 | g3
            · rw [g3]
              rcases hF.2.2 with z | ⟨i, i1, i2⟩
              · exact Or.inl z
              · exact Or.inr ⟨i, by omega, i2⟩
            · rw [g3]
              exact Or.inr ⟨v3.toInt.toNat, by omega, j3, j5⟩
        refine ⟨by omega, fun _ => ⟨fun le => ⟨77, lp106 77 v2 v1 F k4 k8 (G F (Nat.le_refl _) (by omega) (Or.inl rfl)) (by omega) (by omega) (by omega) (by omega)⟩, fun gt => ⟨77, lp106 77 v4 v1 j j2 (by omega) (G j (by omega) (Nat.le_refl _) (Or.inr rfl)) (by omega) (by omega) (by omega) (by omega)⟩⟩, fun z => ?_⟩
        rw [e5, c] at z
        exact absurd z nz
      have Y : ∀ (v4 v5 : Int32) (j : Nat), v5.toInt = zst v3.toInt.toNat + j → v4.toInt = s + j → zwa (zst v3.toInt.toNat + j) = 0 → zst v3.toInt.toNat + j < 75 → s + j ≤ T.1 → zMb T s (zrho v3.toInt.toNat) (zln (zrho v3.toInt.toNat)) = true → (¬ v3.toInt = 2 → zis T (s + zln (zrho v3.toInt.toNat)) 32) → (j : Int) = zln (zrho v3.toInt.toNat) + (if v3.toInt = 2 then 0 else 1 : Int) → wq_155_75 (wq_155_9 Q n) v1 v2 v3 v4 v5 m Q := by
        intro v4 v5 j j1 j2 j3 j4 j5 j6 j7 j8
        have c := zw_76 hx.1 (v := v5) (by omega)
        have e5 : v5.toInt.toNat = zst v3.toInt.toNat + j := by omega
        rw [e5] at c
        refine ⟨by omega, fun z => ?_, fun _ m3 q3 => ?_⟩
        · rw [e5, c] at z
          exact absurd j3 z
        · have f3 : zgN m m3 := by rw [q3]; exact zgr_u zgr_refl (by omega)
          refine hy v3 m3 ⟨k0, g⟩ (zfind_u (zrho_lt _ kk) j6) j7 f3 (zQs_e (zQx_g hx f3 (fun a k z => by omega)) (by rw [q3, zf_u3]; omega) (by split <;> omega) (by omega)) (fun i => by rw [q3, zf_u1 (by decide)])
      have lp24 : ∀ (k : Nat) (v4 v5 : Int32) (j : Nat), v5.toInt = zst v3.toInt.toNat + j → v4.toInt = s + j → j ≤ zln (zrho v3.toInt.toNat) → zMb T s (zrho v3.toInt.toNat) j = true → zln (zrho v3.toInt.toNat) + 2 < j + k → s + j ≤ T.1 → wq_155_24 (wq_155_9 Q n) Q k v1 v2 v3 v4 v5 m := by
        intro k
        induction k with
        | zero => intro v4 v5 j j1 j2 j3 j4 j5; omega
        | succ k ik =>
          intro v4 v5 j j1 j2 j3 j4 j5 j6
          have c := zw_76 hx.1 (v := v5) (by omega)
          have e5 : v5.toInt.toNat = zst v3.toInt.toNat + j := by omega
          rw [e5] at c
          have a4 := fb_addI (x := v4) (y := 1) (by omega) (by omega)
          have a5 := fb_addI (x := v5) (y := 1) (by omega) (by omega)
          have nt : v4.toInt.toNat = (s + j).toNat := by omega
          by_cases ej : j = zln (zrho v3.toInt.toNat)
          · by_cases e2 : v3.toInt.toNat = 2
            · have z0 : zwa (zst v3.toInt.toNat + j) = 0 := by
                rw [ej, wb.1, if_pos e2]
              refine ⟨by omega, fun _ => Y v4 v5 j j1 j2 z0 (by omega) j6 (by rw [← ej]; exact j4) (fun z => absurd (by omega) z) (by rw [if_pos (by omega)]; omega), fun z => ?_⟩
              rw [e5, c] at z
              exact absurd z0 z
            · have z32 : zwa (zst v3.toInt.toNat + j) = 32 := by
                rw [ej, wb.1, if_neg e2]
              have bd2 := bd.2 e2
              have E' : ¬ zis T (s + j) 32 → wq_155_75 (wq_155_9 Q n) v1 v2 v3 v4 v5 m Q := fun nz => E v4 v5 j j1 j2 j3 (fun _ => e2) j4 (fun z => by omega) (fun z => nz z.2)
              refine ⟨by omega, fun z => ?_, fun _ => ⟨fun ge => E' (fun z => by have := z.1; omega), fun g3 => ?_⟩⟩
              · rw [e5, c, z32] at z
                exact absurd z (by decide)
              · have at4 := zQs_at hx (v := v4) (by omega) (by omega)
                refine ⟨at4.1, by omega, fun g4 => E' (fun z => g4 ?_), fun g4 => ?_⟩
                · rw [at4.2, e5, c, z32, nt]
                  exact z.2
                · rw [at4.2, e5, c, z32, nt] at g4
                  obtain ⟨k, rfl⟩ : ∃ i, k = i + 1 := ⟨k - 1, by omega⟩
                  have z0 : zwa (zst v3.toInt.toNat + (j + 1)) = 0 := by
                    rw [show zst v3.toInt.toNat + (j + 1) = zst v3.toInt.toNat + zln (zrho v3.toInt.toNat) + 1 by omega]
                    exact wb.2 e2
                  have c2 := zw_76 hx.1 (v := v5 + 1) (by omega)
                  have e6 : (v5 + 1).toInt.toNat = zst v3.toInt.toNat + (j + 1) := by omega
                  rw [e6] at c2
                  refine ⟨by omega, fun _ => Y (v4 + 1) (v5 + 1) (j + 1) (by omega) (by omega) z0 (by omega) (by omega) (by rw [← ej]; exact j4) (fun _ => ⟨by omega, by rw [← ej]; exact g4⟩) (by rw [if_neg (by omega)]; omega), fun z => ?_⟩
                  rw [e6, c2] at z
                  exact absurd z0 z
          · have lj : j < zln (zrho v3.toInt.toNat) := by omega
            have cw := wc j lj
            have E' : ¬ zis T (s + j) (zch (zrho v3.toInt.toNat) j) → wq_155_75 (wq_155_9 Q n) v1 v2 v3 v4 v5 m Q := fun nz => E v4 v5 j j1 j2 j3 (fun z => absurd z ej) j4 (fun z => nz z.2) (fun z => ej z.1)
            refine ⟨by omega, fun z => ?_, fun _ => ⟨fun ge => E' (fun z => by have := z.1; omega), fun g3 => ?_⟩⟩
            · rw [e5, c] at z
              omega
            · have at4 := zQs_at hx (v := v4) (by omega) (by omega)
              refine ⟨at4.1, by omega, fun g4 => E' (fun z => g4 ?_), fun g4 => ?_⟩
              · rw [at4.2, e5, c, cw.1, nt]
                exact z.2
              · rw [at4.2, e5, c, cw.1, nt] at g4
                refine ik _ _ (j + 1) (by omega) (by omega) (by omega) ((zMb_i _).mpr (fun i hi => ?_)) (by omega) (by omega)
                by_cases e : i = j
                · rw [e]
                  exact ⟨by omega, g4⟩
                · exact (zMb_i _).mp j4 i (by omega)
      exact ⟨77, lp24 77 (m.1 63 30) v1 0 (by omega) (by omega) (by omega) rfl (by omega) (by omega)⟩
  exact ⟨14, lp 14 0 (m.1 63 30) 0 0 (by decide) (by decide) (by decide) (by decide) (by omega) (by decide) ⟨fun j hj => absurd hj (Nat.not_lt_zero j), fun j hj => absurd hj (Nat.not_lt_zero j), Or.inl rfl⟩⟩
theorem zs_156x (h : zQs T s m) {Q : Bool → zf_Me → Prop} (hq : ∀ b, (b = true ↔ zdg T s) → Q b m) : wp_156 m Q := by
  obtain ⟨hx, hp, h0, h1⟩ := h
  have en := hx.2.2.1
  refine ⟨fun g => hq false (zb_f (fun z => by have := z.1; omega)), fun g => ?_⟩
  have l := zQs_at hx (v := m.1 63 30) (by omega) (by omega)
  have l2 := l.2
  rw [hp] at l2
  exact ⟨l.1, fun g2 => hq false (zb_f (fun z => by have := z.2.1; omega)), fun g2 => ⟨l.1, fun g3 => hq false (zb_f (fun z => by have := z.2.2; omega)), fun g3 => hq true (zb_t ⟨by omega, by omega, by omega⟩)⟩⟩
theorem zs_157x (h : zQs T s m) {Q : Bool → zf_Me → Prop} (ht : zdg T s → ∀ m', zgN m m' → zQs T (zdgs T s).2 m' → (m'.1 63 32).toInt = (zdgs T s).1 → (∀ i, m'.1 78 i = m.1 78 i) → Q true m') (hf : ¬ zdg T s → ∀ m', zgN m m' → (m'.1 63 33).toInt = s → Q false m') : wp_157 m Q := by
  have e0 : (0 : Int32).toInt = 0 := rfl
  have e1 : (1 : Int32).toInt = 1 := rfl
  have e10 : (10 : Int32).toInt = 10 := rfl
  have e48 : (48 : Int32).toInt = 48 := rfl
  intro m1 q1
  have f1 : zgN m m1 := by rw [q1]; exact zgr_u zgr_refl (by omega)
  have h1 : zQs T s m1 := zQs_e (zQx_g h.1 f1 (fun a k z => by omega)) (by rw [q1, zf_u4 (by decide)]; exact h.2.1) h.2.2.1 h.2.2.2
  have n1 : (m1.1 63 32).toInt = 0 := by rw [q1, zf_u3]; rfl
  have r1 : ∀ i, m1.1 78 i = m.1 78 i := fun i => by rw [q1, zf_u1 (by decide)]
  have s0 := h.2.2.1
  -- one digit more
  have step : ∀ (mj : zf_Me) (q v : Int) {R : zf_Me → Prop}, zgN m mj → zQs T q mj → (∀ i, mj.1 78 i = m.1 78 i) → (mj.1 63 32).toInt = v → (0 ≤ v ∧ v ≤ 9) → zdg T q → (∀ m9, zgN m m9 → zQs T (q + 1) m9 → (∀ i, m9.1 78 i = m.1 78 i) → (m9.1 63 32).toInt = v * 10 + T.2 q.toNat - 48 → R m9) → ((0 ≤ (Int32.toInt ((mj.1 63 29) + (mj.1 63 30))) ∧ (Int32.toInt ((mj.1 63 29) + (mj.1 63 30))) < (1280 : Int)) ∧ (∀ m7, m7 = zf_u mj 63 32 (((10 * (mj.1 63 32)) + (Int64.toInt32 (mj.2 74 (Int32.toInt ((mj.1 63 29) + (mj.1 63 30))).toNat))) - 48) → (∀ m9, m9 = zf_u m7 63 30 ((m7.1 63 30) + 1) → R m9))) := by
    intro mj q v R fj hj rj vj bv d k
    have en := hj.1.2.2.1
    have el := hj.1.2.2.2.1
    have pj := hj.2.1
    have p0 := hj.2.2.1
    have l := zQs_at hj.1 (v := mj.1 63 30) (by omega) (by omega)
    have l2 := l.2
    rw [pj] at l2
    have mu := fb_mulI (x := 10) (y := mj.1 63 32) (by rw [e10]; omega) (by rw [e10]; omega)
    rw [e10] at mu
    obtain ⟨c, hc⟩ : ∃ c, c = Int64.toInt32 (mj.2 74 ((mj.1 63 29) + (mj.1 63 30)).toInt.toNat) := ⟨_, rfl⟩
    rw [← hc] at l2
    have s1 := fb_addI (x := 10 * mj.1 63 32) (y := c) (by omega) (by omega)
    have s2 := fb_subI (x := 10 * mj.1 63 32 + c) (y := 48) (by omega) (by omega)
    refine ⟨l.1, fun m7 q7 m9 q9 => ?_⟩
    rw [← hc] at q7
    have f9 : zgN m m9 := by
      rw [q9, q7]
      exact zgr_u (zgr_u fj (by omega)) (by omega)
    have a7 : m7.1 63 30 = mj.1 63 30 := by rw [q7, zf_u4 (by decide)]
    have sa := fb_addI (x := m7.1 63 30) (y := 1) (by rw [a7]; omega) (by rw [a7]; omega)
    refine k m9 f9 (zQs_e (zQx_g h.1 f9 (fun a k z => by omega)) (by rw [q9, zf_u3, sa, a7]; omega) (by omega) (by omega)) (fun i => by rw [q9, zf_u1 (by decide), q7, zf_u1 (by decide)]; exact rj i) ?_
    rw [q9, zf_u4 (by decide), q7, zf_u3]
    omega
  refine zs_156x h1 (fun b hb => ⟨fun e => ⟨4, ?_⟩, fun e m' q' => ?_⟩)
  · have d := hb.mp e
    refine ⟨fun z => absurd z (by decide), fun _ => zs_156x h1 (fun b2 hb2 => ⟨fun e2 => absurd d (zno hb2 e2), fun _ => step m1 s 0 f1 h1 r1 n1 (by decide) d (fun m9 f9 h9 r9 v9 => ?_)⟩)⟩
    refine ⟨fun z => absurd z (by decide), fun _ => zs_156x h9 (fun b3 hb3 => ⟨fun e3 => ht d m9 f9 ?_ ?_ r9, fun e3 => step m9 (s + 1) (T.2 s.toNat - 48) f9 h9 r9 (by omega) (by omega) (hb3.mp e3) (fun m10 f10 h10 r10 v10 => ⟨fun _ => ht d m10 f10 ?_ ?_ r10, fun z => absurd z (by decide)⟩)⟩)⟩
    · have D : zdgs T s = (T.2 s.toNat - 48, s + 1) := if_neg (zno hb3 e3)
      rw [D]
      exact h9
    · have D : zdgs T s = (T.2 s.toNat - 48, s + 1) := if_neg (zno hb3 e3)
      rw [D, v9]
      show 0 * 10 + T.2 s.toNat - 48 = T.2 s.toNat - 48
      omega
    · have D : zdgs T s = ((T.2 s.toNat - 48) * 10 + T.2 (s + 1).toNat - 48, s + 2) := if_pos (hb3.mp e3)
      rw [D]
      rw [show s + 1 + 1 = s + 2 by omega] at h10
      exact h10
    · have D : zdgs T s = ((T.2 s.toNat - 48) * 10 + T.2 (s + 1).toNat - 48, s + 2) := if_pos (hb3.mp e3)
      rw [D]
      exact v10
  · rw [q']
    exact hf (zno hb e) _ (zgr_u f1 (by omega)) (by rw [zf_u3]; exact h1.2.1)
theorem zs_158x (hB : zB (zr m)) {w i : Int32} (hw : 0 ≤ w.toInt ∧ w.toInt < 12 ∧ ¬ w.toInt = 2) {Q : Bool → zf_Me → Prop} (ht : zok (zr m) w.toInt i.toInt (m.1 63 32).toInt → Q true m) (hf : ¬ zok (zr m) w.toInt i.toInt (m.1 63 32).toInt → Q false m) : wp_158 w i m Q := by
  have e6 : (6 : Int32).toInt = 6 := rfl
  have pp : zr m 5 6 = (m.1 63 1).toInt := rfl
  have w6 : 6 ≤ w.toInt → w.toInt ≤ 10 → wp_146 (w - 6) (m.1 63 32) m (fun b m' => Q b m') := fun g1 g2 => by
    have s := fb_subI (x := w) (y := 6) (by omega) (by omega)
    have e : (w - 6).toInt.toNat = (w.toInt - 6).toNat := by omega
    refine zs_146 (by omega) (fun k => ht ?_) (fun k => hf (fun z => k ?_))
    · rw [e] at k
      exact ⟨fun z => by omega, fun z => by omega, fun z => by omega, fun z => by omega, fun z => by omega, fun _ _ => k, fun z => by omega⟩
    · rw [e]
      exact z.2.2.2.2.2.1 g1 g2
  refine ⟨fun z => by omega, fun z => ⟨fun g => hf (fun k => ?_), fun g => ht ?_⟩, fun z => ⟨fun g => hf (fun k => ?_), fun g => ht ?_⟩, fun z => absurd z hw.2.2, fun z => ⟨fun z2 => ⟨fun g => hf (fun k => ?_), fun g => ht ?_⟩, fun z2 => ⟨fun g => hf (fun k => ?_), fun g => ht ?_⟩⟩, fun z => ⟨fun z2 => ht ?_, fun z2 => ⟨fun g => hf (fun k => ?_), fun g => ht ?_⟩⟩, fun z => ⟨fun g => hf (fun k => ?_), fun g => ht ?_⟩, fun z => w6 (by omega) (by omega), fun z => w6 (by omega) (by omega), fun z => w6 (by omega) (by omega), fun z => w6 (by omega) (by omega), fun z => w6 (by omega) (by omega), fun z => ⟨fun g => hf (fun k => ?_), fun g => zs_167 hB g (fun b hb => ⟨fun e => hf (fun k => zno hb e (k.2.2.2.2.2.2 z).2), fun e => ht ?_⟩)⟩⟩
  · have := k.1 (Or.inl z)
    omega
  · exact ⟨fun _ => g, fun z => by omega, fun z => by omega, fun z => by omega, fun z => by omega, fun z => by omega, fun z => by omega⟩
  · have := k.1 (Or.inr z)
    omega
  · exact ⟨fun _ => g, fun z => by omega, fun z => by omega, fun z => by omega, fun z => by omega, fun z => by omega, fun z => by omega⟩
  · have := k.2.2.1 z z2
    omega
  · exact ⟨fun z => by omega, fun _ k => absurd k z2, fun _ _ => g, fun z => by omega, fun z => by omega, fun z => by omega, fun z => by omega⟩
  · have := k.2.1 z z2
    omega
  · exact ⟨fun z => by omega, fun _ _ => g, fun _ k => absurd z2 k, fun z => by omega, fun z => by omega, fun z => by omega, fun z => by omega⟩
  · exact ⟨fun z => by omega, fun z => by omega, fun z => by omega, fun _ k => absurd z2 k, fun z => by omega, fun z => by omega, fun z => by omega⟩
  · have := k.2.2.2.1 z z2
    rw [pp] at this
    omega
  · exact ⟨fun z => by omega, fun z => by omega, fun z => by omega, fun _ _ => by rw [pp]; exact g, fun z => by omega, fun z => by omega, fun z => by omega⟩
  · have := k.2.2.2.2.1 z
    rw [pp] at this
    omega
  · exact ⟨fun z => by omega, fun z => by omega, fun z => by omega, fun z => by omega, fun _ => by rw [pp]; exact g, fun z => by omega, fun z => by omega⟩
  · have := (k.2.2.2.2.2.2 z).1
    omega
  · exact ⟨fun z => by omega, fun z => by omega, fun z => by omega, fun z => by omega, fun z => by omega, fun z => by omega, fun _ => ⟨g, hb.mp e⟩⟩
end
end
section
/-! part 8b: the reference reads an ITEM, a WAY, exactly -/
def zapp (f : zS) (w a b : Int) : zS := if w = 0 then zaddF f a 0 else if w = 1 then zaddF f (-a) 0 else if w = 2 then zU f 1 (f 5 5 - 1).toNat 1 else if w = 3 then zaddP f a b else if w = 4 then zU f 4 a.toNat b else if w = 5 then zU f 5 7 a else if w = 11 then zact f a else zask f (w - 6).toNat a
def zIq (T : zT) (m : zf_Me) (r : zIt) (b : Bool) (m' : zf_Me) : Prop := zgP m m' ∧ zQx T m' ∧ (¬ r.1 = -1 → b = false ∧ (m'.1 63 33).toInt = r.1) ∧ (r.1 = -1 → b = true ∧ zr m' = r.2.2 ∧ (m'.1 63 30).toInt = r.2.1)
theorem znum_nb {T : zT} {q lo hi : Int} (h : ¬ zis T q 32) : znum T q lo hi = (-1, q) := if_pos h
theorem zarg_nb {T : zT} {f : zS} {w : Nat} {q : Int} (hw : ¬ w = 2) (h : ¬ zis T q 32) : zarg T f w q = (q, 0, f) := by
  unfold zarg
  simp only [znum_nb h]
  have z1 : ∀ (g : Int → zS), zone (-1, q) g f = (q, 0, f) := fun g => if_pos rfl
  have z2 : ∀ (g : Int → Int → zIt), ztwo (-1, q) g f = (q, 0, f) := fun g => if_pos rfl
  simp only [z1, z2, if_neg hw]
  repeat' split
  all_goals rfl
section
variable {m : zf_Me} {T : zT} {s : Int}
theorem zgN_P {m' : zf_Me} (h : zgN m m') : zgP m m' := zgr_mono h (fun a k z => by omega)
theorem zgN_z {m' : zf_Me} (h : zgN m m') : zr m' = zr m := zr_of h (fun a k z => by omega)
theorem zgN_x {m' : zf_Me} (h : zQx T m) (f : zgN m m') : zQx T m' := zQx_g h f (fun a k z => by omega)
/-- a fault -/
theorem zIq_f {m' : zf_Me} {r : zIt} (h : zQx T m) (f : zgN m m') (hr : 0 ≤ r.1) (hw : (m'.1 63 33).toInt = r.1) : zIq T m r false m' := ⟨zgN_P f, zgN_x h f, fun _ => ⟨rfl, hw⟩, fun z => absurd z (by omega)⟩
theorem zIq_t {m2 m' : zf_Me} {r : zIt} {b : Bool} (f : zgP m m2) (h : zIq T m2 r b m') : zIq T m r b m' := ⟨zgr_trans f h.1, h.2⟩
theorem zs_144x {F80 : Int32 → Int32 → zf_Me → Prop} {w i : Int32} {p : Int} (hB : zB (zr m)) (h : zQs T p m) (hw : 0 ≤ w.toInt ∧ w.toInt < 12 ∧ ¬ w.toInt = 2) (hi : 0 ≤ i.toInt ∧ i.toInt < 2) {Q : Bool → zf_Me → Prop} (h0 : ¬ zdg T p → ∀ m', zgN m m' → (m'.1 63 33).toInt = p → Q false m') (h1 : zdg T p → ¬ zok (zr m) w.toInt i.toInt (zdgs T p).1 → ∀ m', zgN m m' → (m'.1 63 33).toInt = p → Q false m') (h2 : zdg T p → zok (zr m) w.toInt i.toInt (zdgs T p).1 → ∀ m', zgN m m' → zQs T (zdgs T p).2 m' → (m'.1 78 i.toInt.toNat).toInt = (zdgs T p).1 → (∀ j, ¬ j = i.toInt.toNat → m'.1 78 j = m.1 78 j) → F80 w (i + 1) m') : wq_159_144 F80 w i m Q := by
  refine zs_157x h (fun d m38 f38 q38 v38 r38 => ⟨fun _ => ?_, fun z => (nomatch z)⟩) (fun d m38 f38 w38 => ⟨fun z => (nomatch z), fun _ => h0 d m38 f38 w38⟩)
  have z38 : zr m38 = zr m := zgN_z f38
  refine zs_158x (by rw [z38]; exact hB) hw (fun ok => ⟨fun _ => ⟨hi, fun m41 q41 => ?_⟩, fun z => (nomatch z)⟩) (fun no => ⟨fun z => (nomatch z), fun _ m' q' => ?_⟩)
  · rw [z38, v38] at ok
    have f41 : zgN m m41 := by rw [q41]; exact zgr_u f38 (by omega)
    exact h2 d ok m41 f41 (zQs_e (zgN_x h.1 f41) (by rw [q41, zf_u1 (by decide)]; exact q38.2.1) q38.2.2.1 q38.2.2.2) (by rw [q41, zf_u3]; exact v38) (fun j hj => by rw [q41, zf_u4 hj]; exact r38 j)
  · rw [z38, v38] at no
    rw [q']
    exact h1 d no _ (zgr_u f38 (by omega)) (by rw [zf_u3]; exact h.2.1)
theorem zs_appx (hB : zB (zr m)) {w : Int32} (hw : 0 ≤ w.toInt ∧ w.toInt < 12) (ho : zoq (zr m) w.toInt) (n0 : ¬ w.toInt = 2 → zgd m w.toInt 0) (n1 : w.toInt = 3 ∨ w.toInt = 4 → zgd m w.toInt 1) {Q : Bool → zf_Me → Prop} (hq : ∀ m', zgc m m' → zr m' = zapp (zr m) w.toInt (m.1 78 0).toInt (m.1 78 1).toInt → Q true m') : (((w.toInt < 0 ∨ w.toInt > 11) → wp_149 (w - 6) (m.1 78 0) m (fun x11 m12 => Q true m12)) ∧ (w.toInt = 0 → wp_140 (m.1 78 0) 0 m (fun x13 m14 => Q true m14)) ∧ (w.toInt = 1 → wp_140 (-(m.1 78 0)) 0 m (fun x15 m16 => Q true m16)) ∧ (w.toInt = 2 → ((0 ≤ (Int32.toInt ((m.1 63 0) - 1)) ∧ (Int32.toInt ((m.1 63 0) - 1)) < (24 : Int)) ∧ ∀ m17, m17 = zf_u m 66 (Int32.toInt ((m.1 63 0) - 1)).toNat 1 → Q true m17)) ∧ (w.toInt = 3 → wp_141 (m.1 78 0) (m.1 78 1) m (fun x19 m20 => Q true m20)) ∧ (w.toInt = 4 → ((0 ≤ (Int32.toInt (m.1 78 0)) ∧ (Int32.toInt (m.1 78 0)) < (6 : Int)) ∧ ∀ m21, m21 = zf_u m 69 (Int32.toInt (m.1 78 0)).toNat (m.1 78 1) → Q true m21)) ∧ (w.toInt = 5 → (∀ m23, m23 = zf_u m 63 2 (m.1 78 0) → Q true m23)) ∧ (w.toInt = 6 → wp_149 (w - 6) (m.1 78 0) m (fun x25 m26 => Q true m26)) ∧ (w.toInt = 7 → wp_149 (w - 6) (m.1 78 0) m (fun x27 m28 => Q true m28)) ∧ (w.toInt = 8 → wp_149 (w - 6) (m.1 78 0) m (fun x29 m30 => Q true m30)) ∧ (w.toInt = 9 → wp_149 (w - 6) (m.1 78 0) m (fun x31 m32 => Q true m32)) ∧ (w.toInt = 10 → wp_149 (w - 6) (m.1 78 0) m (fun x33 m34 => Q true m34)) ∧ (w.toInt = 11 → wp_169 (m.1 78 0) m (fun m36 => Q true m36))) := by
  have e1 : (1 : Int32).toInt = 1 := rfl
  have e0 : (0 : Int32).toInt = 0 := rfl
  have e6 : (6 : Int32).toInt = 6 := rfl
  have b := zB_r hB
  have pf : zr m 5 5 = (m.1 63 0).toInt := rfl
  have pp : zr m 5 6 = (m.1 63 1).toInt := rfl
  unfold zapp at hq
  have w6 : 6 ≤ w.toInt → w.toInt ≤ 10 → wp_149 (w - 6) (m.1 78 0) m (fun x m' => Q true m') := fun g1 g2 => by
    have s := fb_subI (x := w) (y := 6) (by omega) (by omega)
    refine zs_149 (by omega) (fun x m' _ z f => hq m' f ?_)
    rw [if_neg (by omega), if_neg (by omega), if_neg (by omega), if_neg (by omega), if_neg (by omega), if_neg (by omega), if_neg (by omega), z, show (w - 6).toInt = w.toInt - 6 by omega]
  refine ⟨fun z => by omega, fun z => ?_, fun z => ?_, fun z => ?_, fun z => ?_, fun z => ?_, fun z => ?_, fun z => w6 (by omega) (by omega), fun z => w6 (by omega) (by omega), fun z => w6 (by omega) (by omega), fun z => w6 (by omega) (by omega), fun z => w6 (by omega) (by omega), fun z => ?_⟩
  · have nf := ho.1 (Or.inl z)
    rw [pf] at nf
    exact zs_140 (by omega) (fun m' y f => hq m' f (by rw [if_pos z, y]; rfl))
  · have g := n0 (by omega)
    have nf := ho.1 (Or.inr z)
    rw [pf] at nf
    have ng := fb_negI (x := m.1 78 0) (by omega)
    exact zs_140 (by omega) (fun m' y f => hq m' f (by rw [if_neg (by omega), if_pos z, y, ng]; rfl))
  · have nf := ho.2.1 z
    rw [pf] at nf
    have s := fb_subI (x := m.1 63 0) (y := 1) (by omega) (by omega)
    refine ⟨by omega, fun m17 q17 => hq m17 ?_ ?_⟩
    · rw [q17]
      exact zgr_u zgr_refl (by omega)
    · rw [q17, zr_a1 (by omega), if_neg (by omega), if_neg (by omega), if_pos z, pf, e1]
      congr 1
      omega
  · have g0 := n0 (by omega)
    have np := ho.2.2 z
    rw [pp] at np
    exact zs_141 (by omega) (fun m' y f => hq m' f (by rw [if_neg (by omega), if_neg (by omega), if_neg (by omega), if_pos z, y]))
  · have g0 := n0 (by omega)
    have k0 := g0.2.2.2.2.2.1 z (by decide)
    rw [pp] at k0
    refine ⟨by omega, fun m21 q21 => hq m21 ?_ ?_⟩
    · rw [q21]
      exact zgr_u zgr_refl (by omega)
    · rw [q21, zr_a4 (by omega), if_neg (by omega), if_neg (by omega), if_neg (by omega), if_neg (by omega), if_pos z]
  · intro m23 q23
    refine hq m23 ?_ ?_
    · rw [q23]
      exact zgr_u zgr_refl (by omega)
    · rw [q23, zr_w2, if_neg (by omega), if_neg (by omega), if_neg (by omega), if_neg (by omega), if_neg (by omega), if_pos z]
  · have g0 := n0 (by omega)
    have k0 := g0.2.2.2.2.2.2.2.2 z
    exact zs_169 hB ⟨g0.1, k0.1⟩ k0.2 (fun m' y f => hq m' f (by rw [if_neg (by omega), if_neg (by omega), if_neg (by omega), if_neg (by omega), if_neg (by omega), if_neg (by omega), if_pos z, y]))
/-- behind all numbers -/
theorem zs_80c (hB : zB (zr m)) {p : Int} (h : zQs T p m) {w v : Int32} (hw : 0 ≤ w.toInt ∧ w.toInt < 12) (hv : (znl.getD w.toInt.toNat 0).toInt ≤ v.toInt) (ho : zoq (zr m) w.toInt) (n0 : ¬ w.toInt = 2 → zgd m w.toInt 0) (n1 : w.toInt = 3 ∨ w.toInt = 4 → zgd m w.toInt 1) {Q : Bool → zf_Me → Prop} {n : Nat} (hq : ∀ m', zIq T m (-1, p, zapp (zr m) w.toInt (m.1 78 0).toInt (m.1 78 1).toInt) true m' → Q true m') : wq_159_80 Q (n + 1) w v m := by
  have en : (m.1 77 w.toInt.toNat).toInt = (znl.getD w.toInt.toNat 0).toInt := by rw [h.1.1.2 w.toInt.toNat (by omega)]
  refine ⟨by omega, fun _ => zs_appx hB hw ho n0 n1 (fun m' f z => hq m' ?_), fun g => by rw [en] at g; omega⟩
  have c30 : m'.1 63 30 = m.1 63 30 := f.1 63 30 (by omega)
  exact ⟨zgr_mono f (fun a k z => Or.inl z), zQx_g h.1 f (fun a k z => by omega), fun z => absurd rfl z, fun _ => ⟨rfl, z, by rw [c30]; exact h.2.1⟩⟩
/-- the first number -/
theorem zs_80a (hB : zB (zr m)) {p : Int} (h : zQs T p m) {w : Int32} (hw : 0 ≤ w.toInt ∧ w.toInt < 12 ∧ ¬ w.toInt = 2) (hN : 1 ≤ (znl.getD w.toInt.toNat 0).toInt) {Q : Bool → zf_Me → Prop} {n : Nat} (h0 : ¬ zdg T p → ∀ m', zgN m m' → (m'.1 63 33).toInt = p → Q false m') (h1 : zdg T p → ¬ zok (zr m) w.toInt 0 (zdgs T p).1 → ∀ m', zgN m m' → (m'.1 63 33).toInt = p → Q false m') (h2 : zdg T p → zok (zr m) w.toInt 0 (zdgs T p).1 → ∀ m', zgN m m' → zQs T (zdgs T p).2 m' → (m'.1 78 0).toInt = (zdgs T p).1 → wq_159_80 Q n w 1 m') : wq_159_80 Q (n + 1) w 0 m := by
  have e0 : (0 : Int32).toInt = 0 := rfl
  have en : (m.1 77 w.toInt.toNat).toInt = (znl.getD w.toInt.toNat 0).toInt := by rw [h.1.1.2 w.toInt.toNat (by omega)]
  refine ⟨by omega, fun g => by rw [en] at g; omega, fun _ => ⟨fun _ => ?_, fun g => absurd g (by decide)⟩⟩
  exact zs_144x hB h hw (by decide) h0 h1 (fun d ok m' f q v _ => h2 d ok m' f q v)
/-- the second number -/
theorem zs_80b (hB : zB (zr m)) {p : Int} (h : zQs T p m) {w : Int32} (hw : 0 ≤ w.toInt ∧ w.toInt < 12 ∧ ¬ w.toInt = 2) (hN : 2 ≤ (znl.getD w.toInt.toNat 0).toInt) {Q : Bool → zf_Me → Prop} {n : Nat} (hb : ¬ zis T p 32 → ∀ m', zgN m m' → (m'.1 63 33).toInt = p → Q false m') (h0 : zis T p 32 → ¬ zdg T (p + 1) → ∀ m', zgN m m' → (m'.1 63 33).toInt = p + 1 → Q false m') (h1 : zis T p 32 → zdg T (p + 1) → ¬ zok (zr m) w.toInt 1 (zdgs T (p + 1)).1 → ∀ m', zgN m m' → (m'.1 63 33).toInt = p + 1 → Q false m') (h2 : zis T p 32 → zdg T (p + 1) → zok (zr m) w.toInt 1 (zdgs T (p + 1)).1 → ∀ m', zgN m m' → zQs T (zdgs T (p + 1)).2 m' → (m'.1 78 1).toInt = (zdgs T (p + 1)).1 → m'.1 78 0 = m.1 78 0 → wq_159_80 Q n w 2 m') : wq_159_80 Q (n + 1) w 1 m := by
  have e1 : (1 : Int32).toInt = 1 := rfl
  have en : (m.1 77 w.toInt.toNat).toInt = (znl.getD w.toInt.toNat 0).toInt := by rw [h.1.1.2 w.toInt.toNat (by omega)]
  have et := h.1.2.2.1
  have pp := h.2.1
  have no : ¬ zis T p 32 → wp_153 (m.1 63 30) m (fun b m' => Q b m') := fun nz m' q' => by
    rw [q']
    exact hb nz _ (zgr_u zgr_refl (by omega)) (by rw [zf_u3]; exact pp)
  refine ⟨by omega, fun g => by rw [en] at g; omega, fun _ => ⟨fun g => absurd g (by decide), fun _ => ⟨fun g => no (fun z => by have := z.1; omega), fun g => ?_⟩⟩⟩
  have at1 := zQs_at h.1 (v := m.1 63 30) (by have := h.2.2.1; omega) (by omega)
  have l := at1.2
  rw [pp] at l
  refine ⟨at1.1, fun e m47 q47 => ?_, fun ne => no (fun z => ne (l.trans z.2))⟩
  have hz : zis T p 32 := ⟨by omega, l.symm.trans e⟩
  have p0 := h.2.2.1
  have sa := fb_addI (x := m.1 63 30) (y := 1) (by omega) (by have := h.1.2.2.2.1; omega)
  have f47 : zgN m m47 := by rw [q47]; exact zgr_u zgr_refl (by omega)
  have z47 : zr m47 = zr m := zgN_z f47
  have h47 : zQs T (p + 1) m47 := zQs_e (zgN_x h.1 f47) (by rw [q47, zf_u3]; omega) (by omega) (by omega)
  refine zs_144x (by rw [z47]; exact hB) h47 hw (by decide) (fun d m' f v => h0 hz d m' (zgr_trans f47 f) v) (fun d ok m' f v => h1 hz d (by rw [z47] at ok; exact ok) m' (zgr_trans f47 f) v) (fun d ok m' f q v r => h2 hz d (by rw [z47] at ok; exact ok) m' (zgr_trans f47 f) q v (by rw [r 0 (by decide), q47, zf_u1 (by decide)]))
/-- a word with one number -/
theorem zs_one {q lo hi : Int} {g : Int → zS} (hB : zB (zr m)) (h : zQs T (q + 1) m) (q0 : 0 ≤ q) (hz : zis T q 32) {w : Int32} (hw : 0 ≤ w.toInt ∧ w.toInt < 12 ∧ ¬ w.toInt = 2 ∧ ¬ (w.toInt = 3 ∨ w.toInt = 4)) (hN : (znl.getD w.toInt.toNat 0).toInt = 1) (ho : zoq (zr m) w.toInt) (hok : ∀ v, 0 ≤ v → v ≤ 99 → (zok (zr m) w.toInt 0 v ↔ lo ≤ v ∧ v ≤ hi)) (ha : ∀ v b, zapp (zr m) w.toInt v b = g v) {Q : Bool → zf_Me → Prop} (hq : ∀ b m', zIq T m (zone (znum T q lo hi) g (zr m)) b m' → Q b m') : wq_159_80 Q 3 w 0 m := by
  have e1 : (1 : Int32).toInt = 1 := rfl
  refine zs_80a hB h ⟨hw.1, hw.2.1, hw.2.2.1⟩ (by omega) (fun d m' f v => hq _ _ (zIq_f h.1 f ?_ ?_)) (fun d ok m' f v => hq _ _ (zIq_f h.1 f ?_ ?_)) (fun d ok m' f q1 v => ?_)
  · have N : znum T q lo hi = (-1, q + 1) := by
      unfold znum
      rw [if_neg (fun z => z hz), if_pos d]
    rw [N]
    show 0 ≤ q + 1
    omega
  · have N : znum T q lo hi = (-1, q + 1) := by
      unfold znum
      rw [if_neg (fun z => z hz), if_pos d]
    rw [N]
    exact v
  · have b := zdgs_b d
    have nk : ¬ (lo ≤ (zdgs T (q + 1)).1 ∧ (zdgs T (q + 1)).1 ≤ hi) := fun z => ok ((hok _ b.1 b.2.1).mpr z)
    have N : znum T q lo hi = (-1, q + 1) := by
      unfold znum
      rw [if_neg (fun z => z hz), if_neg (fun z => z d), if_pos (by omega)]
    rw [N]
    show 0 ≤ q + 1
    omega
  · have b := zdgs_b d
    have nk : ¬ (lo ≤ (zdgs T (q + 1)).1 ∧ (zdgs T (q + 1)).1 ≤ hi) := fun z => ok ((hok _ b.1 b.2.1).mpr z)
    have N : znum T q lo hi = (-1, q + 1) := by
      unfold znum
      rw [if_neg (fun z => z hz), if_neg (fun z => z d), if_pos (by omega)]
    rw [N]
    exact v
  · have b := zdgs_b d
    have k := (hok _ b.1 b.2.1).mp ok
    have z' : zr m' = zr m := zgN_z f
    have N : zone (znum T q lo hi) g (zr m) = (-1, (zdgs T (q + 1)).2, g (zdgs T (q + 1)).1) := by
      have N : znum T q lo hi = zdgs T (q + 1) := by
        unfold znum
        rw [if_neg (fun z => z hz), if_neg (fun z => z d), if_neg (by omega)]
      rw [N]
      exact if_neg (by omega)
    rw [N] at hq
    refine zs_80c (by rw [z']; exact hB) q1 ⟨hw.1, hw.2.1⟩ (by omega) (by rw [z']; exact ho) (fun _ => ⟨by rw [v]; exact b.1, by rw [v]; exact b.2.1, by rw [z', v]; exact ok⟩) (fun z => absurd z hw.2.2.2) (fun m2 o => hq true m2 ?_)
    rw [z', ha, v] at o
    exact zIq_t (zgN_P f) o
/-- a word with two numbers -/
theorem zs_two {q hi hi2 : Int} {g : Int → Int → zS} (hB : zB (zr m)) (h : zQs T (q + 1) m) (q0 : 0 ≤ q) (hz : zis T q 32) {w : Int32} (hw : w.toInt = 3 ∨ w.toInt = 4) (hN : (znl.getD w.toInt.toNat 0).toInt = 2) (ho : zoq (zr m) w.toInt) (hok : ∀ v, 0 ≤ v → v ≤ 99 → (zok (zr m) w.toInt 0 v ↔ v ≤ hi)) (hok2 : ∀ v, 0 ≤ v → v ≤ 99 → (zok (zr m) w.toInt 1 v ↔ v ≤ hi2)) (ha : ∀ v b, zapp (zr m) w.toInt v b = g v b) {Q : Bool → zf_Me → Prop} (hq : ∀ b m', zIq T m (ztwo (znum T q 0 hi) (fun a q2 => zone (znum T q2 0 hi2) (fun v => g a v) (zr m)) (zr m)) b m' → Q b m') : wq_159_80 Q 3 w 0 m := by
  have e2 : (2 : Int32).toInt = 2 := rfl
  refine zs_80a hB h (by omega) (by omega) (fun d m' f v => hq _ _ (zIq_f h.1 f ?_ ?_)) (fun d ok m' f v => hq _ _ (zIq_f h.1 f ?_ ?_)) (fun d ok m' f q1 v => ?_)
  · have N : znum T q 0 hi = (-1, q + 1) := by
      unfold znum
      rw [if_neg (fun z => z hz), if_pos d]
    rw [N]
    show 0 ≤ q + 1
    omega
  · have N : znum T q 0 hi = (-1, q + 1) := by
      unfold znum
      rw [if_neg (fun z => z hz), if_pos d]
    rw [N]
    exact v
  · have b := zdgs_b d
    have nk : ¬ (zdgs T (q + 1)).1 ≤ hi := fun z => ok ((hok _ b.1 b.2.1).mpr z)
    have N : znum T q 0 hi = (-1, q + 1) := by
      unfold znum
      rw [if_neg (fun z => z hz), if_neg (fun z => z d), if_pos (by omega)]
    rw [N]
    show 0 ≤ q + 1
    omega
  · have b := zdgs_b d
    have nk : ¬ (zdgs T (q + 1)).1 ≤ hi := fun z => ok ((hok _ b.1 b.2.1).mpr z)
    have N : znum T q 0 hi = (-1, q + 1) := by
      unfold znum
      rw [if_neg (fun z => z hz), if_neg (fun z => z d), if_pos (by omega)]
    rw [N]
    exact v
  · have b := zdgs_b d
    have k := (hok _ b.1 b.2.1).mp ok
    have z' : zr m' = zr m := zgN_z f
    have R : ztwo (znum T q 0 hi) (fun a q2 => zone (znum T q2 0 hi2) (fun v => g a v) (zr m)) (zr m) = zone (znum T (zdgs T (q + 1)).2 0 hi2) (fun v => g (zdgs T (q + 1)).1 v) (zr m) := by
      have N : znum T q 0 hi = zdgs T (q + 1) := by
        unfold znum
        rw [if_neg (fun z => z hz), if_neg (fun z => z d), if_neg (by omega)]
      rw [N]
      exact if_neg (by omega)
    rw [R] at hq
    have p0 := q1.2.2.1
    refine zs_80b (by rw [z']; exact hB) q1 (by omega) (by omega) (fun n2 m2 f2 v2 => hq _ _ (zIq_t (zgN_P f) (zIq_f q1.1 f2 ?_ ?_))) (fun i2 d2 m2 f2 v2 => hq _ _ (zIq_t (zgN_P f) (zIq_f q1.1 f2 ?_ ?_))) (fun i2 d2 ok2 m2 f2 v2 => hq _ _ (zIq_t (zgN_P f) (zIq_f q1.1 f2 ?_ ?_))) (fun i2 d2 ok2 m2 f2 q2 v2 r2 => ?_)
    · rw [znum_nb n2]
      exact p0
    · rw [znum_nb n2]
      exact v2
    · have N : znum T (zdgs T (q + 1)).2 0 hi2 = (-1, (zdgs T (q + 1)).2 + 1) := by
        unfold znum
        rw [if_neg (fun z => z i2), if_pos d2]
      rw [N]
      show 0 ≤ (zdgs T (q + 1)).2 + 1
      omega
    · have N : znum T (zdgs T (q + 1)).2 0 hi2 = (-1, (zdgs T (q + 1)).2 + 1) := by
        unfold znum
        rw [if_neg (fun z => z i2), if_pos d2]
      rw [N]
      exact v2
    · have b2 := zdgs_b d2
      rw [z'] at ok2
      have nk : ¬ (zdgs T ((zdgs T (q + 1)).2 + 1)).1 ≤ hi2 := fun z => ok2 ((hok2 _ b2.1 b2.2.1).mpr z)
      have N : znum T (zdgs T (q + 1)).2 0 hi2 = (-1, (zdgs T (q + 1)).2 + 1) := by
        unfold znum
        rw [if_neg (fun z => z i2), if_neg (fun z => z d2), if_pos (by omega)]
      rw [N]
      show 0 ≤ (zdgs T (q + 1)).2 + 1
      omega
    · have b2 := zdgs_b d2
      rw [z'] at ok2
      have nk : ¬ (zdgs T ((zdgs T (q + 1)).2 + 1)).1 ≤ hi2 := fun z => ok2 ((hok2 _ b2.1 b2.2.1).mpr z)
      have N : znum T (zdgs T (q + 1)).2 0 hi2 = (-1, (zdgs T (q + 1)).2 + 1) := by
        unfold znum
        rw [if_neg (fun z => z i2), if_neg (fun z => z d2), if_pos (by omega)]
      rw [N]
      exact v2
    · have b2 := zdgs_b d2
      rw [z'] at ok2
      have k2 := (hok2 _ b2.1 b2.2.1).mp ok2
      have z2 : zr m2 = zr m := (zgN_z f2).trans z'
      have N : zone (znum T (zdgs T (q + 1)).2 0 hi2) (fun v => g (zdgs T (q + 1)).1 v) (zr m) = (-1, (zdgs T ((zdgs T (q + 1)).2 + 1)).2, g (zdgs T (q + 1)).1 (zdgs T ((zdgs T (q + 1)).2 + 1)).1) := by
        have N : znum T (zdgs T (q + 1)).2 0 hi2 = zdgs T ((zdgs T (q + 1)).2 + 1) := by
          unfold znum
          rw [if_neg (fun z => z i2), if_neg (fun z => z d2), if_neg (by omega)]
        rw [N]
        exact if_neg (by omega)
      rw [N] at hq
      have v0 : (m2.1 78 0).toInt = (zdgs T (q + 1)).1 := by rw [r2]; exact v
      refine zs_80c (by rw [z2]; exact hB) q2 (by omega) (by omega) (by rw [z2]; exact ho) (fun _ => ⟨by rw [v0]; exact b.1, by rw [v0]; exact b.2.1, by rw [z2, v0]; exact ok⟩) (fun _ => ⟨by rw [v2]; exact b2.1, by rw [v2]; exact b2.2.1, by rw [z2, v2]; exact ok2⟩) (fun m3 o => hq true m3 ?_)
      rw [z2, ha, v0, v2] at o
      exact zIq_t (zgr_trans (zgN_P f) (zgN_P f2)) o
/-- an act told -/
theorem zs_tell11 {q : Int} (hB : zB (zr m)) (h : zQs T (q + 1) m) (q0 : 0 ≤ q) (hz : zis T q 32) {w : Int32} (hw : w.toInt = 11) (hN : (znl.getD w.toInt.toNat 0).toInt = 1) {Q : Bool → zf_Me → Prop} (hq : ∀ b m', zIq T m (ztwo (znum T q 0 9) (fun a q2 => if zmay (zr m) a then (-1, q2, zact (zr m) a) else (q + 1, 0, zr m)) (zr m)) b m' → Q b m') : wq_159_80 Q 3 w 0 m := by
  have e1 : (1 : Int32).toInt = 1 := rfl
  have ok1 : ∀ v, zok (zr m) w.toInt 0 v → v ≤ 9 ∧ zmay (zr m) v := fun v z => z.2.2.2.2.2.2 hw
  have ok2 : ∀ v, v ≤ 9 ∧ zmay (zr m) v → zok (zr m) w.toInt 0 v := fun v z => ⟨fun y => by omega, fun y => by omega, fun y => by omega, fun y => by omega, fun y => by omega, fun y y2 => by omega, fun _ => z⟩
  refine zs_80a hB h (by omega) (by omega) (fun d m' f v => hq _ _ (zIq_f h.1 f ?_ ?_)) (fun d ok m' f v => ?_) (fun d ok m' f q1 v => ?_)
  · have N : znum T q 0 9 = (-1, q + 1) := by
      unfold znum
      rw [if_neg (fun z => z hz), if_pos d]
    rw [N]
    show 0 ≤ q + 1
    omega
  · have N : znum T q 0 9 = (-1, q + 1) := by
      unfold znum
      rw [if_neg (fun z => z hz), if_pos d]
    rw [N]
    exact v
  · have b := zdgs_b d
    have R : (ztwo (znum T q 0 9) (fun a q2 => if zmay (zr m) a then (-1, q2, zact (zr m) a) else (q + 1, 0, zr m)) (zr m)).1 = q + 1 := by
      by_cases l : (zdgs T (q + 1)).1 ≤ 9
      · have N : znum T q 0 9 = zdgs T (q + 1) := by
          unfold znum
          rw [if_neg (fun z => z hz), if_neg (fun z => z d), if_neg (by omega)]
        have nm : ¬ zmay (zr m) (zdgs T (q + 1)).1 := fun z => ok (ok2 _ ⟨l, z⟩)
        have e : ztwo (znum T q 0 9) (fun a q2 => if zmay (zr m) a then (-1, q2, zact (zr m) a) else (q + 1, 0, zr m)) (zr m) = (q + 1, 0, zr m) := by
          rw [N]
          have t2 : ztwo (zdgs T (q + 1)) (fun a q2 => if zmay (zr m) a then (-1, q2, zact (zr m) a) else (q + 1, 0, zr m)) (zr m) = (if zmay (zr m) (zdgs T (q + 1)).1 then (-1, (zdgs T (q + 1)).2, zact (zr m) (zdgs T (q + 1)).1) else (q + 1, 0, zr m)) := if_neg (by omega)
          rw [t2, if_neg nm]
        rw [e]
      · have N : znum T q 0 9 = (-1, q + 1) := by
          unfold znum
          rw [if_neg (fun z => z hz), if_neg (fun z => z d), if_pos (by omega)]
        rw [N]
        rfl
    exact hq _ _ (zIq_f h.1 f (by rw [R]; omega) (by rw [R]; exact v))
  · have b := zdgs_b d
    have k := ok1 _ ok
    have z' : zr m' = zr m := zgN_z f
    have N : ztwo (znum T q 0 9) (fun a q2 => if zmay (zr m) a then (-1, q2, zact (zr m) a) else (q + 1, 0, zr m)) (zr m) = (-1, (zdgs T (q + 1)).2, zact (zr m) (zdgs T (q + 1)).1) := by
      have N : znum T q 0 9 = zdgs T (q + 1) := by
        unfold znum
        rw [if_neg (fun z => z hz), if_neg (fun z => z d), if_neg (by omega)]
      rw [N]
      have t2 : ztwo (zdgs T (q + 1)) (fun a q2 => if zmay (zr m) a then (-1, q2, zact (zr m) a) else (q + 1, 0, zr m)) (zr m) = (if zmay (zr m) (zdgs T (q + 1)).1 then (-1, (zdgs T (q + 1)).2, zact (zr m) (zdgs T (q + 1)).1) else (q + 1, 0, zr m)) := if_neg (by omega)
      rw [t2, if_pos k.2]
    rw [N] at hq
    refine zs_80c (by rw [z']; exact hB) q1 (by omega) (by omega) (by rw [z']; exact ⟨fun y => by omega, fun y => by omega, fun y => by omega⟩) (fun _ => ⟨by rw [v]; exact b.1, by rw [v]; exact b.2.1, by rw [z', v]; exact ok⟩) (fun z => by omega) (fun m2 o => hq true m2 ?_)
    rw [z', v] at o
    have a : ∀ x y, zapp (zr m) w.toInt x y = zact (zr m) x := fun x y => by
      unfold zapp
      rw [hw]
      rfl
    rw [a] at o
    exact zIq_t (zgN_P f) o
theorem zs_80x {q : Int} (hB : zB (zr m)) (q0 : 0 ≤ q) {x : Int32} (hx : 0 ≤ x.toInt ∧ x.toInt < 12) (h : zQs T (q + (if x.toInt = 2 then 0 else 1)) m) (hz : ¬ x.toInt = 2 → zis T q 32) (ho : zoq (zr m) x.toInt) {Q : Bool → zf_Me → Prop} (hq : ∀ b m', zIq T m (zarg T (zr m) (zrho x.toInt.toNat) q) b m' → Q b m') : wq_159_80 Q 3 x 0 m := by
  have nn : ∀ (c : Nat) (d : Int), x.toInt = c → (znl.getD c 0).toInt = d → (znl.getD x.toInt.toNat 0).toInt = d := fun c d e z => by
    rw [e]
    exact z
  have rr : ∀ c : Nat, x.toInt = c → zrho x.toInt.toNat = zrho c := fun c e => by rw [e]; rfl
  have zkB : ∀ v : Int, 6 ≤ x.toInt → x.toInt ≤ 10 → (zok (zr m) x.toInt 0 v ↔ zlo (x.toInt - 6).toNat ≤ v ∧ v ≤ zhi (x.toInt - 6).toNat) := fun v g1 g2 => ⟨fun z => z.2.2.2.2.2.1 g1 g2, fun z => ⟨fun y => by omega, fun y => by omega, fun y => by omega, fun y => by omega, fun y => by omega, fun _ _ => z, fun y => by omega⟩⟩
  have zkA : ∀ v b : Int, 6 ≤ x.toInt → x.toInt ≤ 10 → zapp (zr m) x.toInt v b = zask (zr m) (x.toInt - 6).toNat v := fun v b g1 g2 => by
    unfold zapp
    rw [if_neg (by omega), if_neg (by omega), if_neg (by omega), if_neg (by omega), if_neg (by omega), if_neg (by omega), if_neg (by omega)]
  by_cases e2 : x.toInt = 2
  · rw [if_pos e2, Int.add_zero] at h
    refine zs_80c hB h hx (by rw [nn 2 0 e2 rfl]; decide) ho (fun z => absurd e2 z) (fun z => by omega) (fun m' o => hq true m' ?_)
    rw [rr 2 e2]
    have a : zapp (zr m) x.toInt (m.1 78 0).toInt (m.1 78 1).toInt = zU (zr m) 1 (zr m 5 5 - 1).toNat 1 := by
      unfold zapp
      rw [e2]
      rfl
    rw [a] at o
    exact o
  rw [if_neg e2] at h
  have hz := hz e2
  have c : x.toInt = 0 ∨ x.toInt = 1 ∨ x.toInt = 3 ∨ x.toInt = 4 ∨ x.toInt = 5 ∨ x.toInt = 6 ∨ x.toInt = 7 ∨ x.toInt = 8 ∨ x.toInt = 9 ∨ x.toInt = 10 ∨ x.toInt = 11 := by omega
  rcases c with e | e | e | e | e | e | e | e | e | e | e
  · rw [rr 0 e] at hq
    exact zs_one (lo := 0) (hi := 3) (g := fun v => zaddF (zr m) v 0) hB h q0 hz (by omega) (nn 0 1 e rfl) ho (fun v v0 v9 => ⟨fun z => ⟨v0, z.1 (Or.inl e)⟩, fun z => ⟨fun _ => z.2, fun y => by omega, fun y => by omega, fun y => by omega, fun y => by omega, fun y => by omega, fun y => by omega⟩⟩) (fun v b => by unfold zapp; rw [e]; rfl) hq
  · rw [rr 1 e] at hq
    exact zs_one (lo := 0) (hi := 3) (g := fun v => zaddF (zr m) (-v) 0) hB h q0 hz (by omega) (nn 1 1 e rfl) ho (fun v v0 v9 => ⟨fun z => ⟨v0, z.1 (Or.inr e)⟩, fun z => ⟨fun _ => z.2, fun y => by omega, fun y => by omega, fun y => by omega, fun y => by omega, fun y => by omega, fun y => by omega⟩⟩) (fun v b => by unfold zapp; rw [e]; rfl) hq
  · rw [rr 3 e] at hq
    exact zs_two (hi := 6) (hi2 := 9) (g := fun a v => zaddP (zr m) a v) hB h q0 hz (Or.inl e) (nn 3 2 e rfl) ho (fun v v0 v9 => ⟨fun z => z.2.1 e rfl, fun z => ⟨fun y => by omega, fun _ _ => z, fun _ y => absurd rfl y, fun y => by omega, fun y => by omega, fun y => by omega, fun y => by omega⟩⟩) (fun v v0 v9 => ⟨fun z => z.2.2.1 e (by decide), fun z => ⟨fun y => by omega, fun _ y => absurd y (by decide), fun _ _ => z, fun y => by omega, fun y => by omega, fun y => by omega, fun y => by omega⟩⟩) (fun v b => by unfold zapp; rw [e]; rfl) hq
  · rw [rr 4 e] at hq
    exact zs_two (hi := zr m 5 6 - 1) (hi2 := 99) (g := fun a v => zU (zr m) 4 a.toNat v) hB h q0 hz (Or.inr e) (nn 4 2 e rfl) ho (fun v v0 v9 => ⟨fun z => by have := z.2.2.2.1 e (by decide); omega, fun z => ⟨fun y => by omega, fun y => by omega, fun y => by omega, fun _ _ => by omega, fun y => by omega, fun y => by omega, fun y => by omega⟩⟩) (fun v v0 v9 => ⟨fun z => v9, fun z => ⟨fun y => by omega, fun y => by omega, fun y => by omega, fun _ y => absurd rfl y, fun y => by omega, fun y => by omega, fun y => by omega⟩⟩) (fun v b => by unfold zapp; rw [e]; rfl) hq
  · rw [rr 5 e] at hq
    exact zs_one (lo := 0) (hi := zr m 5 6 - 1) (g := fun v => zU (zr m) 5 7 v) hB h q0 hz (by omega) (nn 5 1 e rfl) ho (fun v v0 v9 => ⟨fun z => ⟨v0, by have := z.2.2.2.2.1 e; omega⟩, fun z => ⟨fun y => by omega, fun y => by omega, fun y => by omega, fun y => by omega, fun _ => by omega, fun y => by omega, fun y => by omega⟩⟩) (fun v b => by unfold zapp; rw [e]; rfl) hq
  · rw [rr 6 e] at hq
    exact zs_one (lo := zlo 0) (hi := zhi 0) (g := fun v => zask (zr m) 0 v) hB h q0 hz (by omega) (nn 6 1 e rfl) ho (fun v v0 v9 => by have := zkB v (by omega) (by omega); rw [e] at this ⊢; exact this) (fun v b => by have := zkA v b (by omega) (by omega); rw [e] at this ⊢; exact this) hq
  · rw [rr 7 e] at hq
    exact zs_one (lo := zlo 1) (hi := zhi 1) (g := fun v => zask (zr m) 1 v) hB h q0 hz (by omega) (nn 7 1 e rfl) ho (fun v v0 v9 => by have := zkB v (by omega) (by omega); rw [e] at this ⊢; exact this) (fun v b => by have := zkA v b (by omega) (by omega); rw [e] at this ⊢; exact this) hq
  · rw [rr 8 e] at hq
    exact zs_one (lo := zlo 2) (hi := zhi 2) (g := fun v => zask (zr m) 2 v) hB h q0 hz (by omega) (nn 8 1 e rfl) ho (fun v v0 v9 => by have := zkB v (by omega) (by omega); rw [e] at this ⊢; exact this) (fun v b => by have := zkA v b (by omega) (by omega); rw [e] at this ⊢; exact this) hq
  · rw [rr 9 e] at hq
    exact zs_one (lo := zlo 3) (hi := zhi 3) (g := fun v => zask (zr m) 3 v) hB h q0 hz (by omega) (nn 9 1 e rfl) ho (fun v v0 v9 => by have := zkB v (by omega) (by omega); rw [e] at this ⊢; exact this) (fun v b => by have := zkA v b (by omega) (by omega); rw [e] at this ⊢; exact this) hq
  · rw [rr 10 e] at hq
    exact zs_one (lo := zlo 4) (hi := zhi 4) (g := fun v => zask (zr m) 4 v) hB h q0 hz (by omega) (nn 10 1 e rfl) ho (fun v v0 v9 => by have := zkB v (by omega) (by omega); rw [e] at this ⊢; exact this) (fun v b => by have := zkA v b (by omega) (by omega); rw [e] at this ⊢; exact this) hq
  · rw [rr 11 e] at hq
    exact zs_tell11 hB h q0 hz e (nn 11 1 e rfl) hq
theorem zs_159x (hB : zB (zr m)) (h : zQs T s m) {Q : Bool → zf_Me → Prop} (hq : ∀ b m', zIq T m (zitem T (zr m) s) b m' → Q b m') : wp_159 m Q := by
  have pf : zr m 5 5 = (m.1 63 0).toInt := rfl
  have pp : zr m 5 6 = (m.1 63 1).toInt := rfl
  have b := zB_r hB
  have s0 := h.2.2.1
  have no : ∀ w, w < 12 → zMb T s w (zln w) = true → ¬ zroomB (zr m) w = true → wp_153 (m.1 63 30) m (fun b m' => Q b m') := fun w hw hm nr m' q' => by
    have fu := zfind_u hw hm
    have ei : zitem T (zr m) s = (s, 0, zr m) := by
      unfold zitem
      rw [fu, if_neg (by omega), if_pos nr]
    rw [q']
    exact hq _ _ (zIq_f h.1 (zgr_u zgr_refl (by omega)) (by rw [ei]; exact s0) (by rw [ei, zf_u3]; exact h.2.1))
  have t66 : (zMb T s 0 (zln 0) = true → ¬ (m.1 63 0).toInt = 24) → (zMb T s 1 (zln 1) = true → ¬ (m.1 63 0).toInt = 24) → (zMb T s 2 (zln 2) = true → ¬ (m.1 63 0).toInt = 0) → (zMb T s 3 (zln 3) = true → ¬ (m.1 63 1).toInt = 6) → wq_159_66 m Q := by
    intro g0 g1 g2 g3
    have room : ¬ zfind T s 12 = 12 → zroomB (zr m) (zfind T s 12) = true := fun nf => by
      obtain ⟨c1, c2⟩ := (zfind_c (T := T) (s := s) 12 (Nat.le_refl _)).resolve_left nf
      refine zroom_i.mpr ⟨fun z => ?_, fun z => ?_, fun z => ?_⟩
      · rw [pf]
        rcases z with z | z
        · rw [z] at c2
          have := g0 c2
          omega
        · rw [z] at c2
          have := g1 c2
          omega
      · rw [z] at c2
        have := g2 c2
        rw [pf]
        omega
      · rw [z] at c2
        have := g3 c2
        rw [pp]
        omega
    refine zs_155x h (fun nf m' f v => ⟨fun z => absurd rfl z, fun _ => hq _ _ ?_⟩) (fun nf n2 nb m' f v => ⟨fun z => absurd rfl z, fun _ => hq _ _ ?_⟩) (fun x m' hx fx hz f q r => ⟨fun _ => ⟨3, ?_⟩, fun z => by have e : (-1 : Int32).toInt = -1 := rfl; omega⟩)
    · have ei : zitem T (zr m) s = (s + zfar T s 8, 0, zr m) := if_pos nf
      rw [ei]
      exact zIq_f h.1 f (by show 0 ≤ s + (zfar T s 8 : Nat); omega) v
    · have ei : zitem T (zr m) s = (s + zln (zfind T s 12), 0, zr m) := by
        unfold zitem
        rw [if_neg nf, if_neg (fun z => z (room nf)), zarg_nb n2 nb]
      rw [ei]
      exact zIq_f h.1 f (by show 0 ≤ s + (zln (zfind T s 12) : Nat); omega) v
    · have rl := zrho_lt x.toInt.toNat (by omega)
      have nf : ¬ zfind T s 12 = 12 := by omega
      have rm := zroom_i.mp (room nf)
      rw [fx] at rm
      have z' : zr m' = zr m := zgN_z f
      have ei : zitem T (zr m) s = zarg T (zr m') (zrho x.toInt.toNat) (s + zln (zrho x.toInt.toNat)) := by
        unfold zitem
        rw [if_neg nf, if_neg (fun z => z (room nf)), fx, z']
      have r0 : ∀ c : Nat, c < 4 → x.toInt = c → zrho x.toInt.toNat = c := fun c hc e => by
        have : ∀ k, k < 4 → zrho k = k := by decide
        rw [show x.toInt.toNat = c by omega]
        exact this c hc
      refine zs_80x (by rw [z']; exact hB) (by omega) hx q hz ?_ (fun b m2 o => hq b m2 (by rw [ei]; exact zIq_t (zgN_P f) o))
      rw [z']
      refine ⟨fun z => ?_, fun z => ?_, fun z => ?_⟩
      · have := rm.1 (z.elim (fun z => Or.inl (r0 0 (by decide) z)) (fun z => Or.inr (r0 1 (by decide) z)))
        omega
      · have := rm.2.1 (r0 2 (by decide) z)
        omega
      · have := rm.2.2 (r0 3 (by decide) z)
        omega
  have fu : (m.1 63 0).toInt = 24 → ∀ w, w = 0 ∨ w = 1 → ¬ zroomB (zr m) w = true := fun e w hw z => by
    have := (zroom_i.mp z).1 hw
    omega
  have t40 : (zMb T s 0 (zln 0) = true → ¬ (m.1 63 0).toInt = 24) → (zMb T s 1 (zln 1) = true → ¬ (m.1 63 0).toInt = 24) → (zMb T s 2 (zln 2) = true → ¬ (m.1 63 0).toInt = 0) → wq_159_40 m Q := fun g0 g1 g2 =>
    zs_154x h (by decide) (fun b hb => ⟨fun e => t66 g0 g1 g2 (fun z => absurd z (zno hb e)), fun e => ⟨fun n => t66 g0 g1 g2 (fun _ => n), fun e6 => no 3 (by decide) (hb.mp e) (fun z => by have := (zroom_i.mp z).2.2 rfl; omega)⟩⟩)
  have t25 : (zMb T s 0 (zln 0) = true → ¬ (m.1 63 0).toInt = 24) → (zMb T s 1 (zln 1) = true → ¬ (m.1 63 0).toInt = 24) → wq_159_25 m Q := fun g0 g1 =>
    zs_154x h (by decide) (fun b hb => ⟨fun e => t40 g0 g1 (fun z => absurd z (zno hb e)), fun e => ⟨fun e0 => no 2 (by decide) (hb.mp e) (fun z => by have := (zroom_i.mp z).2.1 rfl; omega), fun n => t40 g0 g1 (fun _ => n)⟩⟩)
  have t16 : ∀ w, w = 0 ∨ w = 1 → zMb T s w (zln w) = true → wq_159_16 m Q := fun w hw hm => ⟨fun e => no w (by omega) hm (fu e w hw), fun n => t25 (fun _ => n) (fun _ => n)⟩
  exact zs_154x h (by decide) (fun b hb => ⟨fun e => t16 0 (Or.inl rfl) (hb.mp e), fun e => zs_154x h (by decide) (fun b2 hb2 => ⟨fun e2 => t25 (fun z => absurd z (zno hb e)) (fun z => absurd z (zno hb2 e2)), fun e2 => t16 1 (Or.inr rfl) (hb2.mp e2)⟩)⟩)
theorem zY_162 (hJ : JM m) (ho : zso m) {s : Int32} {Q : Int32 → zf_Me → Prop} (h0 : ¬ zK (zhR m) s.toInt = 0 → ∀ v m', zgQ m m' → zr m' = zr m → v.toInt = -(zK (zhR m) s.toInt) → Q v m') (h1 : zK (zhR m) s.toInt = 0 → ∀ v m', zgr' (fun a k => zcoQ a k ∨ (a = 63 ∧ k = 13)) m m' → v.toInt = (zN82 (zhR m) (zr m) s.toInt).1 → zr m' = (zN82 (zhR m) (zr m) s.toInt).2.1 → (m'.1 63 13).toInt = (zN82 (zhR m) (zr m) s.toInt).2.2 → Q v m') : wp_162 s m Q := by
  have e1 : (1 : Int32).toInt = 1 := rfl
  have e0 : (0 : Int32).toInt = 0 := rfl
  have em : (-1 : Int32).toInt = -1 := rfl
  have e160 : (160 : Int32).toInt = 160 := rfl
  refine zs_137x hJ ho (fun x h => ⟨fun e => ?_, fun ne => zs_125 (by have := zK_b (h := zhR m) (s := s.toInt); omega) (fun m' f => h0 (by omega) _ m' (zg64_q f) (zg64_r f) h)⟩)
  have hk : zK (zhR m) s.toInt = 0 := by omega
  have H1 := h1 hk
  obtain ⟨g, rr⟩ := zK_0.mp hk
  have bs := hJ.2.1 s.toInt.toNat (by omega)
  have kk := zhR_k hJ ho (s := s.toInt.toNat) (by omega)
  have k1 : (m.1 70 s.toInt.toNat).toInt = 1 := by
    by_cases k0 : (m.1 70 s.toInt.toNat).toInt = 0
    · have := kk.2.2 k0
      omega
    · by_cases k2 : (m.1 70 s.toInt.toNat).toInt = 2
      · have := kk.2.1 k2
        omega
      · omega
  have k := kk.1 k1
  have N : zN82 (zhR m) (zr m) s.toInt = if (zway (ztext (zhR m s.toInt.toNat)) 170 (zr m) 0 0).1 = -1 then ((zway (ztext (zhR m s.toInt.toNat)) 170 (zr m) 0 0).2.1, (zway (ztext (zhR m s.toInt.toNat)) 170 (zr m) 0 0).2.2, -1) else (-6, zr m, (zway (ztext (zhR m s.toInt.toNat)) 170 (zr m) 0 0).1) := if_neg (fun z => z hk)
  rw [N] at H1
  obtain ⟨T, hT⟩ : ∃ T, T = ztext (zhR m s.toInt.toNat) := ⟨_, rfl⟩
  rw [← hT] at H1
  have T1 : T.1 = (m.1 72 s.toInt.toNat).toInt := by rw [hT]; exact k.2.1
  have T2 : ∀ i : Nat, (i : Int) < T.1 → T.2 i = (Int64.toInt32 (m.2 74 (160 * s.toInt.toNat + i))).toInt := fun i hi => by
    rw [hT]
    show zel (zhR m s.toInt.toNat) i = _
    unfold zel
    rw [k.2.2.2 i (by omega)]
  refine zs_161s (by decide) rfl (by decide) (fun m4 a4 f4 z4 m5 q5 m7 q7 => ⟨g, fun m9 q9 m11 q11 => ?_⟩)
  have a4' : zA 79 0 m4 = zr m := a4
  have mu := fb_mulI (x := 160) (y := s) (by rw [e160]; omega) (by rw [e160]; omega)
  rw [e160] at mu
  have f11 : zgr' (fun a k => (a = 63 ∧ 13 ≤ k ∧ k < 40) ∨ a = 79) m m11 := by
    rw [q11, q9, q7, q5]
    exact zgr_u (zgr_u (zgr_u (zgr_u (zgr_mono f4 (fun a k z => by omega)) (by omega)) (by omega)) (by omega)) (by omega)
  have z11 : zr m11 = zr m := zr_of f11 (fun a k z => by omega)
  have l7 : m7.1 72 s.toInt.toNat = m.1 72 s.toInt.toNat := by rw [q7, zf_u1 (by decide), q5, zf_u1 (by decide), f4.1 72 _ (by omega)]
  have A11 : zA 79 0 m11 = zr m := by
    rw [← a4']
    exact zL_ext (fun i _ => by rw [q11, zf_u1 (by decide), q9, zf_u1 (by decide), q7, zf_u1 (by decide), q5, zf_u1 (by decide)])
  have c29 : (m11.1 63 29).toInt = 160 * s.toInt := by rw [q11, zf_u4 (by decide), q9, zf_u4 (by decide), q7, zf_u4 (by decide), q5, zf_u3, mu]
  have c30 : (m11.1 63 30).toInt = 0 := by rw [q11, zf_u4 (by decide), q9, zf_u4 (by decide), q7, zf_u3, e0]
  have c31 : (m11.1 63 31).toInt = (m.1 72 s.toInt.toNat).toInt := by rw [q11, zf_u4 (by decide), q9, zf_u3, l7]
  have c13 : m11.1 63 13 = -1 := by rw [q11, zf_u3]
  have h11 : zQs T 0 m11 := by
    refine ⟨⟨zwd_of f11 (fun a k z => by omega) hJ.2.2.2, by omega, by omega, by omega, fun i hi => ?_⟩, c30, Int.le_refl _, by omega⟩
    rw [c29, f11.2, T2 i hi, show (160 * s.toInt + (i : Int)).toNat = 160 * s.toInt.toNat + i by omega]
  have gq : ∀ {m'}, zgP m11 m' → zgr' (fun a k => zcoQ a k ∨ (a = 63 ∧ k = 13)) m m' := fun f => zgr_trans (zgr_mono f11 (fun a k z => by omega)) (zgr_mono f (fun a k z => by omega))
  have bad : ∀ (v3 : Int32) (mj : zf_Me), zgP m11 mj → (mj.1 63 33).toInt = (zway T 170 (zr m) 0 0).1 → ¬ (zway T 170 (zr m) 0 0).1 = -1 → wq_162_134 s v3 0 mj Q := by
    intro v3 mj fj hw nw
    rw [if_neg nw] at H1
    refine ⟨fun _ => zs_161b (by decide) (by decide) (by decide) (fun m16 z16 f16 m17 q17 => zs_125 (by decide) (fun m' f' => H1 _ m' ?_ rfl ?_ ?_)), fun z => absurd e0 z⟩
    · have F17 : zgr' (fun a k => zcoQ a k ∨ (a = 63 ∧ k = 13)) m m17 := by
        rw [q17]
        exact zgr_u (zgr_trans (gq fj) (zgr_mono f16 (fun a k z => by omega))) (by omega)
      exact zgr_trans F17 (zgr_mono f' (fun a k z => by omega))
    · have z16' : zr m16 = zA 79 0 mj := z16
      rw [zg64_r f', q17, zrk_44 (by decide), z16', zA_of fj (fun k => by omega)]
      exact A11
    · rw [f'.1 63 13 (by omega), q17, zf_u3, f16.1 63 33 (by omega)]
      exact hw
  have lp : ∀ (n j : Nat) (v3 : Int32) (b : Bool) (mj : zf_Me) (r : zIt) (p : Int) (fA : zS), 0 ≤ p → p ≤ 160 → 160 - p < n → 160 - p < j → 0 ≤ v3.toInt → v3.toInt ≤ p + 1 → zIq T m11 r b mj → zIg T (p + 1) r → (if ¬ r.1 = -1 then (r.1, v3.toInt, fA) else if ¬ r.2.1 < T.1 then (-1, v3.toInt, r.2.2) else if ¬ zis T r.2.1 59 then (r.2.1, v3.toInt, fA) else zway T j r.2.2 (r.2.1 + 1) v3.toInt) = zway T 170 (zr m) 0 0 → wq_162_63 s Q (n + 1) v3 (zb b) mj := by
    intro n
    induction n with
    | zero => intro j v3 b mj r p fA p0 p1 p2; omega
    | succ n ih =>
      intro j v3 b mj r p fA p0 p1 p2 p3 v0 v1 hI hG hA
      by_cases er : r.1 = -1
      · have i2 := hI.2.2.2 er
        have g2 := hG.2 er
        rw [if_neg (fun z => z er)] at hA
        have bt : b = true := i2.1
        rw [bt]
        have en := hI.2.1.2.2.1
        have pl := i2.2.2
        refine ⟨fun z => absurd z (by decide), fun _ => ⟨fun ge => ⟨fun z => absurd z (by decide), fun _ => ?_⟩, fun lt => ?_⟩⟩
        · rw [if_pos (by omega)] at hA
          have V1 : (zway T 170 (zr m) 0 0).1 = -1 := by rw [← hA]
          rw [if_pos V1] at H1
          have c13j : mj.1 63 13 = -1 := by rw [hI.1.1 63 13 (by omega)]; exact c13
          exact H1 v3 mj (gq hI.1) (by rw [← hA]) (by rw [← hA]; exact i2.2.1) (by rw [c13j]; rfl)
        · rw [if_neg (by omega)] at hA
          have at1 := zQs_at hI.2.1 (v := mj.1 63 30) (by omega) (by omega)
          have l := at1.2
          rw [pl] at l
          refine ⟨at1.1, fun e m21 q21 => ?_, fun ne m26 q26 => ?_⟩
          · have hz : zis T r.2.1 59 := ⟨by omega, l.symm.trans e⟩
            rw [if_neg (fun z => z hz)] at hA
            have Tl := hI.2.1.2.2.2.1
            have sa := fb_addI (x := mj.1 63 30) (y := 1) (by omega) (by omega)
            have f21 : zgN mj m21 := by rw [q21]; exact zgr_u zgr_refl (by omega)
            have z21 : zr m21 = r.2.2 := (zgN_z f21).trans i2.2.1
            have h21 : zQs T (r.2.1 + 1) m21 := zQs_e (zgN_x hI.2.1 f21) (by rw [q21, zf_u3]; omega) (by omega) (by omega)
            have sv := fb_addI (x := v3) (y := 1) (by omega) (by omega)
            obtain ⟨j, rfl⟩ : ∃ i, j = i + 1 := ⟨j - 1, by omega⟩
            have hg := zitem_g (T := T) (f := r.2.2) (s := r.2.1 + 1) g2.2.2 (by omega)
            refine zs_159x (by rw [z21]; exact g2.2.2) h21 (fun b24 m24 o => ih j (v3 + 1) b24 m24 (zitem T r.2.2 (r.2.1 + 1)) (r.2.1 + 1) r.2.2 (by omega) (by omega) (by omega) (by omega) (by omega) (by omega) ?_ (zIg_le hg (by omega)) ?_)
            · rw [z21] at o
              exact zIq_t (zgr_trans hI.1 (zgN_P f21)) o
            · rw [show (v3 + 1).toInt = v3.toInt + 1 by omega, ← hA]
              rfl
          · have nz : ¬ zis T r.2.1 59 := fun z => ne (l.trans z.2)
            rw [if_pos nz] at hA
            obtain ⟨n, rfl⟩ : ∃ i, n = i + 1 := ⟨n - 1, by omega⟩
            have f26 : zgP m11 m26 := by
              rw [q26]
              exact zgr_u hI.1 (by omega)
            refine ⟨fun _ => bad v3 m26 f26 ?_ ?_, fun z => absurd e0 z⟩
            · rw [q26, zf_u3, ← hA]
              exact pl
            · rw [← hA]
              show ¬ r.2.1 = -1
              omega
      · have i1 := hI.2.2.1 er
        rw [if_pos er] at hA
        rw [i1.1]
        exact ⟨fun _ => bad v3 mj hI.1 (by rw [← hA]; exact i1.2) (by rw [← hA]; exact er), fun z => absurd e0 z⟩
  refine zs_159x (by rw [z11]; exact hJ.1) h11 (fun b m14 o => ⟨165, lp 164 169 1 b m14 (zitem T (zr m) 0) 0 (zr m) (Int.le_refl _) (by decide) (by decide) (by decide) (by decide) (by decide) ?_ ?_ ?_⟩)
  · rw [z11] at o
    exact o
  · exact zIg_le (zitem_g hJ.1 (Int.le_refl _)) (by decide)
  · rw [e1]
    rfl
end
end
