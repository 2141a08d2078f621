/-! part 73: shelves as functions; rows, elements, what is shown: the class -/
abbrev zHe : Type := Int × Int × (Nat → Int64)
abbrev zH : Type := Nat → zHe
def znorm (c l : Int) (e : Nat → Int64) : zHe := if 100 ≤ c then (c, l, fun i => if (i : Int) < l then e i else 0) else (c, 0, fun _ => 0)
def zhC (m : zf_Me) : zH := fun j => if j < 8 then znorm (m.1 (47 + 2 * j) 1).toInt (m.1 (47 + 2 * j) 2).toInt (m.2 (48 + 2 * j)) else (-1, 0, fun _ => 0)
def zcode (k o p : Int) : Int := if k = 1 then 100 + o else if k = 2 then p else -1
def zhR (m : zf_Me) : zH := fun j => if j < 8 then znorm (zcode (m.1 70 j).toInt (m.1 71 j).toInt (m.1 73 j).toInt) (m.1 72 j).toInt (fun i => m.2 74 (160 * j + i)) else (-1, 0, fun _ => 0)
def zput (h : zH) (s : Nat) (x : zHe) : zH := fun j => if j = s then x else h j
def zconv (o : Int) (x : Int64) : Int64 := if o = 0 then Int32.toInt64 (Int8.toInt32 (Int32.toInt8 (Int64.toInt32 x))) else if o = 1 then Int32.toInt64 (Int16.toInt32 (Int32.toInt16 (Int64.toInt32 x))) else if o = 2 then Int32.toInt64 (Int64.toInt32 x) else x
def zN68 (h : zH) (s o n : Int) : Int × zH := (zrowA s o n, if zrowA s o n = 1 then zput h s.toNat (100 + o, n, fun _ => 0) else h)
def zN72 (h : zH) (pe s p : Int) : Int × zH := if ¬ (0 ≤ s ∧ s < 8) then (-1, h) else if p = -1 then (0, zput h s.toNat (-1, 0, fun _ => 0)) else if 0 ≤ p ∧ p < pe then (1, zput h s.toNat (p, 0, fun _ => 0)) else (-1, h)
def zN71 (h : zH) (s i : Int) : Int64 := if (0 ≤ s ∧ s < 8) ∧ 100 ≤ (h s.toNat).1 ∧ 0 ≤ i ∧ i < (h s.toNat).2.1 then (h s.toNat).2.2 i.toNat else 0
theorem zhC_put {m m' : zf_Me} {s : Nat} (hs : s < 8) (h : ∀ j, j < 8 → ¬ j = s → m'.1 (47 + 2 * j) = m.1 (47 + 2 * j) ∧ m'.2 (48 + 2 * j) = m.2 (48 + 2 * j)) : zhC m' = zput (zhC m) s (znorm (m'.1 (47 + 2 * s) 1).toInt (m'.1 (47 + 2 * s) 2).toInt (m'.2 (48 + 2 * s))) := by
  funext j
  unfold zput
  by_cases e : j = s
  · rw [if_pos e, e]
    exact if_pos hs
  · rw [if_neg e]
    unfold zhC
    by_cases g : j < 8
    · rw [if_pos g, if_pos g, (h j g e).1, (h j g e).2]
    · rw [if_neg g, if_neg g]
theorem zhR_put {m m' : zf_Me} {s : Nat} (hs : s < 8) (h : ∀ j, j < 8 → ¬ j = s → m'.1 70 j = m.1 70 j ∧ m'.1 71 j = m.1 71 j ∧ m'.1 72 j = m.1 72 j ∧ m'.1 73 j = m.1 73 j ∧ ∀ i, i < 160 → m'.2 74 (160 * j + i) = m.2 74 (160 * j + i)) (hl : zsR m) : zhR m' = zput (zhR m) s (znorm (zcode (m'.1 70 s).toInt (m'.1 71 s).toInt (m'.1 73 s).toInt) (m'.1 72 s).toInt (fun i => m'.2 74 (160 * s + i))) := by
  funext j
  unfold zput
  by_cases e : j = s
  · rw [if_pos e, e]
    exact if_pos hs
  · rw [if_neg e]
    unfold zhR
    by_cases g : j < 8
    · have k := h j g e
      have b := hl j g
      rw [if_pos g, if_pos g, k.1, k.2.1, k.2.2.1, k.2.2.2.1]
      unfold znorm
      split
      · congr 2
        funext i
        by_cases l : (i : Int) < (m.1 72 j).toInt
        · rw [if_pos l, if_pos l]
          exact k.2.2.2.2 i (by omega)
        · rw [if_neg l, if_neg l]
      · rfl
    · rw [if_neg g, if_neg g]
theorem zhC_id {m m' : zf_Me} (h : ∀ a, 47 ≤ a → a ≤ 62 → m'.1 a = m.1 a ∧ m'.2 a = m.2 a) : zhC m' = zhC m := by
  funext j
  unfold zhC
  by_cases g : j < 8
  · rw [if_pos g, if_pos g, (h (47 + 2 * j) (by omega) (by omega)).1, (h (48 + 2 * j) (by omega) (by omega)).2]
  · rw [if_neg g, if_neg g]
theorem zhC_q {m m' : zf_Me} (h : zq m m') : zhC m' = zhC m := zhC_id (fun a h1 h2 => ⟨h.1 a (by omega), by rw [h.2]⟩)
theorem zhC_w {m m' : zf_Me} (h : zw m m') : zhC m' = zhC m := zhC_id (fun a h1 h2 => ⟨h.1 a (by omega), by rw [h.2]⟩)
section
variable {m : zf_Me}
theorem zC_noh {r : Int × zH} {w : Int32} {Q : Int32 → zf_Me → Prop} (hw : 0 ≤ w.toInt ∧ w.toInt < 8) (K : ∀ v m', (zq m m' ∨ zfS m m' ∧ zsz m') → v.toInt = r.1 → zhC m' = r.2 → Q v m') (e : r = (-w.toInt, zhC m)) : wp_109 w m Q :=
  zs_109 hw (fun m' f => K _ m' (Or.inl (zfr_mono f (fun a ha => by omega))) (by rw [e]; exact fb_negI (by omega)) (by rw [e]; exact zhC_q (zfr_mono f (fun a ha => by omega))))
theorem zX_68 (hJ : JX m) {s o n : Int32} {Q : Int32 → zf_Me → Prop} (K : ∀ v m', (zq m m' ∨ zfS m m' ∧ zsz m') → v.toInt = (zN68 (zhC m) s.toInt o.toInt n.toInt).1 → zhC m' = (zN68 (zhC m) s.toInt o.toInt n.toInt).2 → Q v m') : wp_68 s o n m Q := by
  have e100 : (100 : Int32).toInt = 100 := rfl
  have no : ∀ {w : Int32}, (0 ≤ w.toInt ∧ w.toInt < 8) → ¬ (-w.toInt = 1) → zrowA s.toInt o.toInt n.toInt = -w.toInt → wp_109 w m Q := fun hw h1 e => zC_noh hw K (by unfold zN68; rw [e, if_neg h1])
  refine zs_114 (fun g => ⟨fun _ => ⟨fun g1 => ⟨fun g2 => no (w := 6) (by decide) (by decide) ?_, fun g2 => ⟨fun g3 => ⟨fun g4 => ⟨g, zs_22 (j := s.toInt.toNat) (by omega) (by omega) (fun m' hi ha hn hl hz => ?_)⟩, fun g4 => no (w := 7) (by decide) (by decide) ?_⟩, fun g3 => no (w := 6) (by decide) (by decide) ?_⟩⟩, fun g1 => no (w := 4) (by decide) (by decide) ?_⟩, fun z => (nomatch z)⟩) (fun g => ⟨fun z => (nomatch z), fun _ => no (w := 1) (by decide) (by decide) ?_⟩)
  · unfold zrowA
    rw [if_neg (by omega), if_neg (by omega), if_pos (by omega)]
    rfl
  · have e : zrowA s.toInt o.toInt n.toInt = 1 := by
      unfold zrowA
      rw [if_neg (by omega), if_neg (by omega), if_neg (by omega), if_neg (by omega)]
    refine K 1 m' (Or.inr ⟨⟨fun a ha => hi a (by omega), fun a ha => hl a (by omega)⟩, fun j hj => ?_⟩) ?_ ?_
    · by_cases ej : j = s.toInt.toNat
      · rw [ej, hn]
        omega
      · rw [hi _ (by omega)]
        exact hJ.2.2 j hj
    · show _ = zrowA s.toInt o.toInt n.toInt
      rw [e]
      rfl
    · unfold zN68
      rw [if_pos e, zhC_put (s := s.toInt.toNat) (by omega) (fun j hj hne => ⟨hi _ (by omega), hl _ (by omega)⟩)]
      have a := fb_addI (x := 100) (y := o) (by omega) (by omega)
      rw [ha, hn, a, e100]
      unfold znorm
      rw [if_pos (by omega)]
      congr 3
      funext i
      by_cases l : (i : Int) < n.toInt
      · rw [if_pos l, hz i (by omega)]
      · rw [if_neg l]
  · unfold zrowA
    rw [if_neg (by omega), if_neg (by omega), if_neg (by omega), if_pos (by omega)]
    rfl
  · unfold zrowA
    rw [if_neg (by omega), if_neg (by omega), if_pos (by omega)]
    rfl
  · unfold zrowA
    rw [if_neg (by omega), if_pos (by omega)]
    rfl
  · unfold zrowA
    rw [if_pos (by omega)]
    rfl
end
