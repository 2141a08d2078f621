/-! part 87: what a text tells, as a function -/
abbrev zT : Type := Int × (Nat → Int)
abbrev zis (T : zT) (p c : Int) : Prop := p < T.1 ∧ T.2 p.toNat = c
abbrev zdg (T : zT) (p : Int) : Prop := p < T.1 ∧ 48 ≤ T.2 p.toNat ∧ T.2 p.toNat ≤ 57
def zch (w i : Nat) : Int := ((zx_sb.getD w []).getD i 0).toInt
def zln (w : Nat) : Nat := zx_sl.getD w 0
def zMb (T : zT) (s : Int) (w : Nat) : Nat → Bool
  | 0 => true
  | n + 1 => zMb T s w n && decide (zis T (s + n) (zch w n))
def zfind (T : zT) (s : Int) : Nat → Nat
  | 0 => 12
  | n + 1 => if zMb T s n (zln n) = true then n else zfind T s n
def zany (T : zT) (s : Int) (n : Nat) : Nat → Bool
  | 0 => false
  | k + 1 => zany T s n k || (decide (n ≤ zln k) && zMb T s k n)
def zfar (T : zT) (s : Int) : Nat → Nat
  | 0 => 0
  | n + 1 => if zany T s (n + 1) 12 = true then n + 1 else zfar T s n
/-- the digits at q, of which the first is one -/
def zdgs (T : zT) (q : Int) : Int × Int := if zdg T (q + 1) then ((T.2 q.toNat - 48) * 10 + T.2 (q + 1).toNat - 48, q + 2) else (T.2 q.toNat - 48, q + 1)
def znum (T : zT) (q lo hi : Int) : Int × Int := if ¬ zis T q 32 then (-1, q) else if ¬ zdg T (q + 1) then (-1, q + 1) else if (zdgs T (q + 1)).1 < lo ∨ hi < (zdgs T (q + 1)).1 then (-1, q + 1) else zdgs T (q + 1)
def zroomB (f : zS) (w : Nat) : Bool := decide ((w = 0 ∨ w = 1 → f 5 5 < 24) ∧ (w = 2 → 0 < f 5 5) ∧ (w = 3 → f 5 6 < 6))
theorem zroom_i {f : zS} {w : Nat} : zroomB f w = true ↔ ((w = 0 ∨ w = 1 → f 5 5 < 24) ∧ (w = 2 → 0 < f 5 5) ∧ (w = 3 → f 5 6 < 6)) := decide_eq_true_iff
abbrev zIt : Type := Int × Int × zS
def zone (r : Int × Int) (g : Int → zS) (f : zS) : zIt := if r.1 = -1 then (r.2, 0, f) else (-1, r.2, g r.1)
def ztwo (r : Int × Int) (g : Int → Int → zIt) (f : zS) : zIt := if r.1 = -1 then (r.2, 0, f) else g r.1 r.2
def zarg (T : zT) (f : zS) (w : Nat) (q : Int) : zIt :=
  if w = 0 then zone (znum T q 0 3) (fun v => zaddF f v 0) f
  else if w = 1 then zone (znum T q 0 3) (fun v => zaddF f (-v) 0) f
  else if w = 2 then (-1, q, zU f 1 (f 5 5 - 1).toNat 1)
  else if w = 3 then ztwo (znum T q 0 6) (fun a q2 => zone (znum T q2 0 9) (fun v => zaddP f a v) f) f
  else if w = 4 then ztwo (znum T q 0 (f 5 6 - 1)) (fun a q2 => zone (znum T q2 0 99) (fun v => zU f 4 a.toNat v) f) f
  else if w = 5 then zone (znum T q 0 (f 5 6 - 1)) (fun v => zU f 5 7 v) f
  else if w = 6 then ztwo (znum T q 0 9) (fun a q2 => if zmay f a then (-1, q2, zact f a) else (q + 1, 0, f)) f
  else zone (znum T q (zlo (w - 7)) (zhi (w - 7))) (fun v => zask f (w - 7) v) f
def zitem (T : zT) (f : zS) (s : Int) : zIt := if zfind T s 12 = 12 then (s + zfar T s 8, 0, f) else if ¬ zroomB f (zfind T s 12) = true then (s, 0, f) else zarg T f (zfind T s 12) (s + zln (zfind T s 12))
/-- what ITEMS from place s on tell: the fault or -1, how many, the walk -/
def zway (T : zT) : Nat → zS → Int → Int → zIt
  | 0, f, _, n => (-1, n, f)
  | k + 1, f, s, n => if ¬ (zitem T f s).1 = -1 then ((zitem T f s).1, n + 1, f) else if ¬ (zitem T f s).2.1 < T.1 then (-1, n + 1, (zitem T f s).2.2) else if ¬ zis T (zitem T f s).2.1 59 then ((zitem T f s).2.1, n + 1, f) else zway T k (zitem T f s).2.2 ((zitem T f s).2.1 + 1) (n + 1)
def ztext (x : zHe) : zT := (x.2.1, zel x)
/-- answer, walk, fault (-2: as it was) -/
def zN82 (h : zH) (f : zS) (s : Int) : Int × zS × Int := if ¬ zK h s = 0 then (-(zK h s), f, -2) else if (zway (ztext (h s.toNat)) 170 f 0 0).1 = -1 then ((zway (ztext (h s.toNat)) 170 f 0 0).2.1, (zway (ztext (h s.toNat)) 170 f 0 0).2.2, -1) else (-6, f, (zway (ztext (h s.toNat)) 170 f 0 0).1)
theorem zMb_i {T : zT} {s : Int} {w : Nat} : ∀ n, zMb T s w n = true ↔ ∀ i : Nat, i < n → zis T (s + i) (zch w i)
  | 0 => iff_of_true rfl (fun i hi => absurd hi (Nat.not_lt_zero i))
  | n + 1 => by
    unfold zMb
    rw [Bool.and_eq_true, zMb_i n, decide_eq_true_iff]
    refine ⟨fun h i hi => ?_, fun h => ⟨fun i hi => h i (by omega), h n (by omega)⟩⟩
    by_cases e : i = n
    · rw [e]
      exact h.2
    · exact h.1 i (by omega)
theorem zMb_le {T : zT} {s : Int} {w n k : Nat} (h : zMb T s w n = true) (hk : k ≤ n) : zMb T s w k = true := (zMb_i k).mpr (fun i hi => (zMb_i n).mp h i (by omega))
theorem zany_i {T : zT} {s : Int} {n : Nat} : ∀ k, zany T s n k = true ↔ ∃ w, w < k ∧ n ≤ zln w ∧ zMb T s w n = true
  | 0 => iff_of_false (fun z => by cases z) (fun ⟨w, h, _⟩ => absurd h (Nat.not_lt_zero w))
  | k + 1 => by
    unfold zany
    rw [Bool.or_eq_true, zany_i k, Bool.and_eq_true, decide_eq_true_iff]
    refine ⟨fun h => ?_, fun ⟨w, h1, h2, h3⟩ => ?_⟩
    · rcases h with ⟨w, h1, h2, h3⟩ | ⟨h2, h3⟩
      · exact ⟨w, by omega, h2, h3⟩
      · exact ⟨k, by omega, h2, h3⟩
    · by_cases e : w = k
      · rw [e] at h2 h3
        exact Or.inr ⟨h2, h3⟩
      · exact Or.inl ⟨w, by omega, h2, h3⟩
/-- no word begins another -/
theorem zpf0 : ∀ w, w < 12 → ∀ v, v < 12 → zln w ≤ zln v → (∀ i, i < zln w → zch w i = zch v i) → w = v := by decide +kernel
theorem zpf {T : zT} {s : Int} {w v : Nat} (hw : w < 12) (hv : v < 12) (h : zMb T s w (zln w) = true) (hl : zln w ≤ zln v) (k : zMb T s v (zln w) = true) : w = v :=
  zpf0 w hw v hv hl (fun i hi => ((zMb_i _).mp h i hi).2.symm.trans ((zMb_i _).mp k i hi).2)
theorem zln_b : ∀ w, w < 12 → 2 ≤ zln w ∧ zln w ≤ 8 := by decide +kernel
theorem zfind_c {T : zT} {s : Int} : ∀ n, n ≤ 12 → zfind T s n = 12 ∨ (zfind T s n < n ∧ zMb T s (zfind T s n) (zln (zfind T s n)) = true)
  | 0, _ => Or.inl rfl
  | n + 1, h => by
    unfold zfind
    split
    · rename_i g
      exact Or.inr ⟨by omega, g⟩
    · rcases zfind_c (T := T) (s := s) n (by omega) with e | e
      · exact Or.inl e
      · exact Or.inr ⟨by omega, e.2⟩
theorem zfind_no {T : zT} {s : Int} : ∀ n, n ≤ 12 → zfind T s n = 12 → ∀ w, w < n → ¬ zMb T s w (zln w) = true
  | 0, _, _, w, h => absurd h (Nat.not_lt_zero w)
  | n + 1, h, e, w, hw => by
    unfold zfind at e
    split at e
    · omega
    · rename_i g
      by_cases k : w = n
      · rw [k]
        exact g
      · exact zfind_no n (by omega) e w (by omega)
theorem zfind_u {T : zT} {s : Int} {w : Nat} (hw : w < 12) (h : zMb T s w (zln w) = true) : zfind T s 12 = w := by
  rcases zfind_c (T := T) (s := s) 12 (Nat.le_refl _) with e | ⟨e1, e2⟩
  · exact absurd h (zfind_no 12 (Nat.le_refl _) e w hw)
  · by_cases l : zln w ≤ zln (zfind T s 12)
    · exact (zpf hw e1 h l (zMb_le e2 l)).symm
    · exact zpf e1 hw e2 (by omega) (zMb_le h (by omega))
theorem zfind_n {T : zT} {s : Int} (h : ∀ w, w < 12 → ¬ zMb T s w (zln w) = true) : zfind T s 12 = 12 := by
  rcases zfind_c (T := T) (s := s) 12 (Nat.le_refl _) with e | ⟨e1, e2⟩
  · exact e
  · exact absurd e2 (h _ e1)
theorem zfar_e {T : zT} {s : Int} {F : Nat} (h0 : F = 0 ∨ zany T s F 12 = true) (h1 : ∀ n, F < n → ¬ zany T s n 12 = true) : ∀ n, F ≤ n → zfar T s n = F
  | 0, h => by
    show 0 = F
    omega
  | n + 1, h => by
    unfold zfar
    by_cases e : F = n + 1
    · rw [e] at h0
      rw [if_pos (h0.resolve_left (by omega)), e]
    · rw [if_neg (h1 _ (by omega))]
      exact zfar_e h0 h1 n (by omega)
theorem zany_le {T : zT} {s : Int} {n k : Nat} (h : zany T s n 12 = true) (hk : k ≤ n) : zany T s k 12 = true := by
  obtain ⟨w, h1, h2, h3⟩ := (zany_i 12).mp h
  exact (zany_i 12).mpr ⟨w, h1, by omega, zMb_le h3 hk⟩
theorem zdgs_b {T : zT} {q : Int} (h : zdg T q) : 0 ≤ (zdgs T q).1 ∧ (zdgs T q).1 ≤ 99 ∧ q < (zdgs T q).2 ∧ (zdgs T q).2 ≤ T.1 := by
  unfold zdgs
  split <;> omega
theorem znum_b {T : zT} {q lo hi : Int} (h : ¬ (znum T q lo hi).1 = -1) : (zis T q 32 ∧ zdg T (q + 1) ∧ znum T q lo hi = zdgs T (q + 1)) ∧ (0 ≤ (znum T q lo hi).1 ∧ lo ≤ (znum T q lo hi).1 ∧ (znum T q lo hi).1 ≤ hi ∧ (znum T q lo hi).1 ≤ 99) ∧ q + 1 < (znum T q lo hi).2 ∧ (znum T q lo hi).2 ≤ T.1 := by
  unfold znum at h ⊢
  by_cases g1 : zis T q 32
  · rw [if_neg (fun z => z g1)] at h ⊢
    by_cases g2 : zdg T (q + 1)
    · rw [if_neg (fun z => z g2)] at h ⊢
      by_cases g3 : (zdgs T (q + 1)).1 < lo ∨ hi < (zdgs T (q + 1)).1
      · rw [if_pos g3] at h
        exact absurd rfl h
      · rw [if_neg g3]
        have b := zdgs_b g2
        exact ⟨⟨g1, g2, rfl⟩, by omega, b.2.2⟩
    · rw [if_pos g2] at h
      exact absurd rfl h
  · rw [if_pos g1] at h
    exact absurd rfl h
theorem znum_f {T : zT} {q lo hi : Int} (hq : 0 ≤ q) (h : (znum T q lo hi).1 = -1) : 0 ≤ (znum T q lo hi).2 := by
  unfold znum at h ⊢
  split
  · exact hq
  · split
    · show 0 ≤ q + 1
      omega
    · split
      · show 0 ≤ q + 1
        omega
      · rename_i g1 g2 g3
        rw [if_neg g1, if_neg g2, if_neg g3] at h
        have b := zdgs_b (Decidable.not_not.mp g2)
        omega
/-- an ITEM that stands: its place is behind it, its walk keeps the bounds -/
def zIg (T : zT) (q : Int) (r : zIt) : Prop := (¬ r.1 = -1 → 0 ≤ r.1) ∧ (r.1 = -1 → q ≤ r.2.1 ∧ r.2.1 ≤ T.1 ∧ zB r.2.2)
theorem zone_g {T : zT} {q lo hi : Int} {f : zS} {g : Int → zS} (hq : 0 ≤ q) (hg : ∀ v, 0 ≤ v → lo ≤ v → v ≤ hi → v ≤ 99 → zB (g v)) : zIg T q (zone (znum T q lo hi) g f) := by
  unfold zone
  by_cases e : (znum T q lo hi).1 = -1
  · rw [if_pos e]
    have b := znum_f hq e
    exact ⟨fun _ => b, fun z => absurd z (by show ¬ (znum T q lo hi).2 = -1; omega)⟩
  · rw [if_neg e]
    have b := znum_b e
    exact ⟨fun z => absurd rfl z, fun _ => ⟨by have := b.2.2.1; show q ≤ (znum T q lo hi).2; omega, b.2.2.2, hg _ b.2.1.1 b.2.1.2.1 b.2.1.2.2.1 b.2.1.2.2.2⟩⟩
theorem zIg_le {T : zT} {q q2 : Int} {r : zIt} (h : zIg T q2 r) (hq : q ≤ q2) : zIg T q r := ⟨h.1, fun e => ⟨by have := (h.2 e).1; omega, (h.2 e).2⟩⟩
theorem ztwo_g {T : zT} {q lo hi : Int} {f : zS} {g : Int → Int → zIt} (hq : 0 ≤ q) (hg : ∀ v q2, 0 ≤ v → lo ≤ v → v ≤ hi → v ≤ 99 → q + 1 < q2 → q2 ≤ T.1 → zIg T q (g v q2)) : zIg T q (ztwo (znum T q lo hi) g f) := by
  unfold ztwo
  by_cases e : (znum T q lo hi).1 = -1
  · rw [if_pos e]
    have b := znum_f hq e
    exact ⟨fun _ => b, fun z => absurd z (by show ¬ (znum T q lo hi).2 = -1; omega)⟩
  · rw [if_neg e]
    have b := znum_b e
    exact hg _ _ b.2.1.1 b.2.1.2.1 b.2.1.2.2.1 b.2.1.2.2.2 b.2.2.1 b.2.2.2
theorem zB_til {f : zS} {k : Nat} (h : zB f) : zB (zU f 1 k 1) := zB_stile h (by decide)
theorem zarg_g {T : zT} {f : zS} {w : Nat} {q : Int} (hB : zB f) (hr0 : zroomB f w = true) (hw : w < 12) (hq : 0 ≤ q) (hT : q ≤ T.1) : zIg T q (zarg T f w q) := by
  have hr := zroom_i.mp hr0
  have b := hB.1
  unfold zarg
  by_cases e0 : w = 0
  · rw [if_pos e0]
    exact zone_g hq (fun v a1 a2 a3 a4 => zB_addF hB (hr.1 (Or.inl e0)) (by omega) (by decide))
  rw [if_neg e0]
  by_cases e1 : w = 1
  · rw [if_pos e1]
    exact zone_g hq (fun v a1 a2 a3 a4 => zB_addF hB (hr.1 (Or.inr e1)) (by omega) (by decide))
  rw [if_neg e1]
  by_cases e2 : w = 2
  · rw [if_pos e2]
    exact ⟨fun z => absurd rfl z, fun _ => ⟨Int.le_refl _, hT, zB_til hB⟩⟩
  rw [if_neg e2]
  by_cases e3 : w = 3
  · rw [if_pos e3]
    exact ztwo_g hq (fun a q2 a1 a2 a3 a4 a5 a6 => zIg_le (q2 := q2) (zone_g (by omega) (fun v c1 c2 c3 c4 => zB_addP hB (hr.2.2 e3) (by omega) (by omega))) (by omega))
  rw [if_neg e3]
  by_cases e4 : w = 4
  · rw [if_pos e4]
    exact ztwo_g hq (fun a q2 a1 a2 a3 a4 a5 a6 => zIg_le (q2 := q2) (zone_g (by omega) (fun v c1 c2 c3 c4 => zB_tire hB (by omega))) (by omega))
  rw [if_neg e4]
  by_cases e5 : w = 5
  · rw [if_pos e5]
    exact zone_g hq (fun v a1 a2 a3 a4 => zB_bag hB (by omega))
  rw [if_neg e5]
  by_cases e6 : w = 6
  · rw [if_pos e6]
    refine ztwo_g hq (fun a q2 a1 a2 a3 a4 a5 a6 => ?_)
    by_cases m : zmay f a
    · rw [if_pos m]
      exact ⟨fun z => absurd rfl z, fun _ => ⟨by show q ≤ q2; omega, a6, zB_act hB m⟩⟩
    · rw [if_neg m]
      exact ⟨fun _ => by show 0 ≤ q + 1; omega, fun z => absurd z (by show ¬ q + 1 = -1; omega)⟩
  rw [if_neg e6]
  exact zone_g hq (fun v a1 a2 a3 a4 => zB_ask hB (by omega) ⟨a2, a3⟩)
theorem zfind_l {T : zT} {s : Int} (h : ¬ zfind T s 12 = 12) : zfind T s 12 < 12 ∧ s + zln (zfind T s 12) ≤ T.1 ∧ 2 ≤ zln (zfind T s 12) := by
  rcases zfind_c (T := T) (s := s) 12 (Nat.le_refl _) with e | ⟨e1, e2⟩
  · exact absurd e h
  · have l := zln_b _ e1
    have k := ((zMb_i _).mp e2 (zln (zfind T s 12) - 1) (by omega)).1
    exact ⟨e1, by omega, l.1⟩
theorem zitem_g {T : zT} {f : zS} {s : Int} (hB : zB f) (hs : 0 ≤ s) : zIg T (s + 2) (zitem T f s) := by
  unfold zitem
  by_cases e : zfind T s 12 = 12
  · rw [if_pos e]
    exact ⟨fun _ => by show 0 ≤ s + (zfar T s 8 : Nat); omega, fun z => absurd z (by show ¬ s + (zfar T s 8 : Nat) = -1; omega)⟩
  rw [if_neg e]
  have l := zfind_l e
  by_cases r : zroomB f (zfind T s 12) = true
  · rw [if_neg (fun z => z r)]
    exact zIg_le (zarg_g hB r l.1 (by omega) l.2.1) (by omega)
  · rw [if_pos r]
    exact ⟨fun _ => hs, fun z => absurd z (by show ¬ s = -1; omega)⟩
