/-! part 23: what stays true of the cells between the law's calls, cell by cell: laid by wip/p2/inv.py -/
def zc_row (n : Nat) (x : zx_C) : Prop := ∃ f : List Int32, x = .inr (0, .inl f) ∧ f.length = n
def zc_lrow (n : Nat) (x : zx_C) : Prop := ∃ f : List Int64, x = .inr (1, .inr (.inl f)) ∧ f.length = n
def zc_brow (n : Nat) (lo hi : Int) (x : zx_C) : Prop := ∃ f : List Int32, x = .inr (0, .inl f) ∧ f.length = n ∧ ∀ j, j < n → lo ≤ (f.getD j 0).toInt ∧ (f.getD j 0).toInt ≤ hi
def zc_main (x : zx_C) : Prop := ∃ it lf : Int32, x = .inl (7, [.inr (.inr (1, 1)), .inr (.inr (1, 2)), .inr (.inr (1, 9)), .inr (.inr (1, 16)), .inr (.inr (1, 18)), .inr (.inr (1, 21)), .inr (.inr (1, 35)), .inr (.inr (1, 44)), .inr (.inr (1, 46)), .inl it, .inl lf]) ∧ (it = 0 ∨ it = 1)
def zc_walk (y tr : Nat) (x : zx_C) : Prop := ∃ bg mo le na on bi ra wo he mi se : Int32, x = .inl (5, [.inr (.inr (1, y)), .inr (.inr (1, tr)), .inl bg, .inl mo, .inl le, .inl na, .inl on, .inl bi, .inl ra, .inl wo, .inl he, .inl mi, .inl se]) ∧ 0 ≤ he.toInt ∧ he.toInt ≤ 24
def zc_way (y : Nat) (x : zx_C) : Prop := ∃ fu pe : Int32, x = .inl (6, [.inr (.inr (1, (y + 1))), .inr (.inr (1, (y + 2))), .inr (.inr (1, (y + 3))), .inr (.inr (1, (y + 4))), .inl fu, .inl pe]) ∧ 0 ≤ fu.toInt ∧ fu.toInt ≤ 24 ∧ 0 ≤ pe.toInt ∧ pe.toInt ≤ 6
def zc_shelf (c : Nat) (x : zx_C) : Prop := ∃ ho si : Int32, x = .inl (3, [.inr (.inr (1, c)), .inl ho, .inl si]) ∧ 0 ≤ si.toInt ∧ si.toInt ≤ 160
def zc_rules (x : zx_C) : Prop := ∃ tu ac wo : Int32, x = .inl (1, [.inr (.inr (1, 19)), .inl tu, .inl ac, .inl wo]) ∧ 0 ≤ tu.toInt ∧ tu.toInt ≤ 6
def zc_search (x : zx_C) : Prop := ∃ dw ba bh bw bm : Int32, x = .inl (2, [.inr (.inr (1, 22)), .inr (.inr (1, 23)), .inr (.inr (1, 24)), .inl dw, .inl ba, .inl bh, .inl bw, .inl bm]) ∧ 0 ≤ ba.toInt ∧ ba.toInt ≤ 4
def zc_tell (x : zx_C) : Prop := ∃ si pl np it fa : Int32, x = .inl (4, [.inr (.inr (1, 36)), .inr (.inr (1, 43)), .inl si, .inl pl, .inl np, .inl it, .inl fa])
def zc_moves (x : zx_C) : Prop := ∃ ra ow nu tr : Int32, x = .inl (0, [.inr (.inr (1, 45)), .inl ra, .inl ow, .inl nu, .inl tr]) ∧ 0 ≤ ra.toInt ∧ ra.toInt ≤ 1000
def zc_ref (x : zx_C) : Prop := ∃ m_furlongs m_many m_bagged m_legs m_most m_nap m_on m_biscuits m_races m_worn m_here m_minutes m_seed m_fault m_base m_at m_end m_number m_wrongAt m_bestMany m_bestHere m_bestWorn m_bestMinutes m_turn m_ever m_made m_ruleHere m_ruleMinutes m_ruleEver m_ran m_isKept : Int32, x = .inl (8, [.inl m_furlongs, .inl m_many, .inl m_bagged, .inl m_legs, .inl m_most, .inl m_nap, .inl m_on, .inl m_biscuits, .inl m_races, .inl m_worn, .inl m_here, .inl m_minutes, .inl m_seed, .inl m_fault, .inr (.inr (1, 64)), .inr (.inr (1, 65)), .inr (.inr (1, 66)), .inr (.inr (1, 67)), .inr (.inr (1, 68)), .inr (.inr (1, 69)), .inr (.inr (1, 70)), .inr (.inr (1, 71)), .inr (.inr (1, 72)), .inr (.inr (1, 73)), .inr (.inr (1, 74)), .inr (.inr (1, 75)), .inr (.inr (1, 76)), .inr (.inr (1, 77)), .inr (.inr (1, 78)), .inl m_base, .inl m_at, .inl m_end, .inl m_number, .inl m_wrongAt, .inr (.inr (1, 79)), .inr (.inr (1, 80)), .inr (.inr (1, 81)), .inr (.inr (1, 82)), .inr (.inr (1, 83)), .inr (.inr (1, 84)), .inl m_bestMany, .inl m_bestHere, .inl m_bestWorn, .inl m_bestMinutes, .inl m_turn, .inl m_ever, .inl m_made, .inl m_ruleHere, .inl m_ruleMinutes, .inl m_ruleEver, .inr (.inr (1, 85)), .inl m_ran, .inl m_isKept]) ∧ 0 ≤ m_furlongs.toInt ∧ m_furlongs.toInt ≤ 24 ∧ 0 ≤ m_many.toInt ∧ m_many.toInt ≤ 6 ∧ 0 ≤ m_here.toInt ∧ m_here.toInt ≤ 24 ∧ 0 ≤ m_ran.toInt ∧ m_ran.toInt ≤ 1000 ∧ (m_isKept = 0 ∨ m_isKept = 1)
def zc_kept (x : zx_C) : Prop := ∃ f : List Int32, x = .inr (0, .inl f) ∧ f.length = 90 ∧ (∀ j, j < 6 → 0 ≤ (f.getD (48 + j) 0).toInt ∧ (f.getD (48 + j) 0).toInt ≤ 6) ∧ 0 ≤ (f.getD 71 0).toInt ∧ (f.getD 71 0).toInt ≤ 24 ∧ 0 ≤ (f.getD 72 0).toInt ∧ (f.getD 72 0).toInt ≤ 6 ∧ 0 ≤ (f.getD 76 0).toInt ∧ (f.getD 76 0).toInt ≤ 24
def zi_c (i : Nat) (x : zx_C) : Prop := match i with
  | 0 => zc_main x
  | 1 => x = .inr (2, .inr (.inr [some 47, some 49, some 51, some 53, some 55, some 57, some 59, some 61]))
  | 2 => zc_walk 3 8 x
  | 3 => zc_way 3 x
  | 4 => zc_row 24 x
  | 5 => zc_row 24 x
  | 6 => zc_brow 6 0 6 x
  | 7 => zc_row 6 x
  | 8 => zc_row 6 x
  | 9 => zc_walk 10 15 x
  | 10 => zc_way 10 x
  | 11 => zc_row 24 x
  | 12 => zc_row 24 x
  | 13 => zc_brow 6 0 6 x
  | 14 => zc_row 6 x
  | 15 => zc_row 6 x
  | 16 => zc_walk 3 17 x
  | 17 => zc_row 6 x
  | 18 => zc_rules x
  | 19 => zc_walk 3 20 x
  | 20 => zc_row 6 x
  | 21 => zc_search x
  | 22 => x = .inr (3, .inr (.inr [some 25, some 27, some 29, some 31, some 33]))
  | 23 => zc_row 4 x
  | 24 => zc_row 4 x
  | 25 => zc_walk 3 26 x
  | 26 => zc_row 6 x
  | 27 => zc_walk 3 28 x
  | 28 => zc_row 6 x
  | 29 => zc_walk 3 30 x
  | 30 => zc_row 6 x
  | 31 => zc_walk 3 32 x
  | 32 => zc_row 6 x
  | 33 => zc_walk 3 34 x
  | 34 => zc_row 6 x
  | 35 => zc_tell x
  | 36 => zc_walk 37 42 x
  | 37 => zc_way 37 x
  | 38 => zc_row 24 x
  | 39 => zc_row 24 x
  | 40 => zc_brow 6 0 6 x
  | 41 => zc_row 6 x
  | 42 => zc_row 6 x
  | 43 => zc_row 160 x
  | 44 => zc_moves x
  | 45 => zc_row 20 x
  | 46 => zc_row 8 x
  | 47 => zc_shelf 48 x
  | 48 => zc_lrow 160 x
  | 49 => zc_shelf 50 x
  | 50 => zc_lrow 160 x
  | 51 => zc_shelf 52 x
  | 52 => zc_lrow 160 x
  | 53 => zc_shelf 54 x
  | 54 => zc_lrow 160 x
  | 55 => zc_shelf 56 x
  | 56 => zc_lrow 160 x
  | 57 => zc_shelf 58 x
  | 58 => zc_lrow 160 x
  | 59 => zc_shelf 60 x
  | 60 => zc_lrow 160 x
  | 61 => zc_shelf 62 x
  | 62 => zc_lrow 160 x
  | 63 => zc_ref x
  | 64 => zc_row 8 x
  | 65 => zc_row 24 x
  | 66 => zc_row 24 x
  | 67 => zc_brow 6 0 6 x
  | 68 => zc_row 6 x
  | 69 => zc_row 6 x
  | 70 => zc_brow 8 0 2 x
  | 71 => zc_row 8 x
  | 72 => zc_brow 8 0 160 x
  | 73 => zc_row 8 x
  | 74 => zc_lrow 1280 x
  | 75 => zc_lrow 160 x
  | 76 => x = .inr (0, .inl [117, 112, 32, 0, 100, 111, 119, 110, 32, 0, 115, 116, 105, 108, 101, 0, 112, 101, 114, 115, 111, 110, 32, 0, 116, 105, 114, 101, 100, 32, 0, 98, 97, 103, 32, 0, 108, 101, 103, 115, 32, 0, 110, 97, 112, 32, 0, 119, 111, 114, 110, 32, 0, 98, 105, 115, 99, 117, 105, 116, 115, 32, 0, 114, 97, 99, 101, 115, 32, 0, 97, 99, 116, 32, 0])
  | 77 => x = .inr (0, .inl [1, 1, 0, 2, 2, 1, 1, 1, 1, 1, 1, 1])
  | 78 => zc_row 2 x
  | 79 => zc_row 90 x
  | 80 => zc_kept x
  | 81 => zc_row 90 x
  | 82 => zc_row 450 x
  | 83 => zc_row 4 x
  | 84 => zc_row 4 x
  | 85 => zc_row 20 x
  | _ => True
/-- a shelf of the reference that shows a person shows one of six -/
def zi_sh (h : List zx_C) : Prop := ∀ f g : List Int32, h[70]? = some (.inr (0, .inl f)) → h[73]? = some (.inr (0, .inl g)) → ∀ j, j < 8 → f.getD j 0 = 2 → 0 ≤ (g.getD j 0).toInt ∧ (g.getD j 0).toInt ≤ 5
def zx_I (h : List zx_C) : Prop := h.length = 86 ∧ (∀ i x, h[i]? = some x → zi_c i x) ∧ zi_sh h
theorem zi_g {h : List zx_C} (hI : zx_I h) (i : Nat) (hi : i < 86) : ∃ x, h[i]? = some x ∧ zi_c i x := by
  have e := List.getElem?_eq_getElem (l := h) (i := i) (by rw [hI.1]; exact hi)
  exact ⟨_, e, hI.2.1 i _ e⟩
theorem zi_set {h : List zx_C} {c : Nat} {x : zx_C} (hI : zx_I h) (hc : zi_c c x) (h70 : c ≠ 70) (h73 : c ≠ 73) : zx_I (h.set c x) := by
  refine ⟨by rw [List.length_set]; exact hI.1, fun i y hy => ?_, fun f g hf hg => ?_⟩
  · rw [List.getElem?_set] at hy
    split at hy
    · rename_i e
      subst e
      split at hy
      · cases hy; exact hc
      · cases hy
    · exact hI.2.1 i y hy
  · rw [List.getElem?_set_ne h70] at hf
    rw [List.getElem?_set_ne h73] at hg
    exact hI.2.2 f g hf hg
theorem zi_0 (h : List zx_C) (hI : zx_I h) : ∃ fs, h[0]? = some (.inl (7, fs)) := by
  obtain ⟨x, hx, it, lf, rfl, -⟩ := zi_g hI 0 (by decide)
  exact ⟨_, hx⟩
theorem zi_63 (h : List zx_C) (hI : zx_I h) : ∃ fs, h[63]? = some (.inl (8, fs)) := by
  obtain ⟨x, hx, _, _, _, _, _, _, _, _, _, _, _, _, _, _, _, _, _, _, _, _, _, _, _, _, _, _, _, _, _, _, _, rfl, -⟩ := zi_g hI 63 (by decide)
  exact ⟨_, hx⟩
-- the start
theorem zi_rep {n : Nat} {lo hi : Int} (h0 : lo ≤ 0) (h1 : 0 ≤ hi) (j : Nat) : lo ≤ ((List.replicate n (0 : Int32)).getD j 0).toInt ∧ ((List.replicate n (0 : Int32)).getD j 0).toInt ≤ hi := by
  have e : (List.replicate n (0 : Int32)).getD j 0 = 0 := by
    rw [List.getD_eq_getElem?_getD, List.getElem?_replicate]
    split <;> rfl
  rw [e]
  exact ⟨h0, h1⟩
set_option maxRecDepth 100000 in
theorem zi_start : zx_I zx_hM := by
  refine ⟨by decide, fun i x hx => ?_, fun f g hf hg j _ hj => ?_⟩
  · have hi : i < 86 := by
      have := (List.getElem?_eq_some_iff.mp hx).1
      have e : zx_hM.length = 86 := by decide
      omega
    rcases (show i = 0 ∨ i = 1 ∨ i = 2 ∨ i = 3 ∨ i = 4 ∨ i = 5 ∨ i = 6 ∨ i = 7 ∨ i = 8 ∨ i = 9 ∨ i = 10 ∨ i = 11 ∨ i = 12 ∨ i = 13 ∨ i = 14 ∨ i = 15 ∨ i = 16 ∨ i = 17 ∨ i = 18 ∨ i = 19 ∨ i = 20 ∨ i = 21 ∨ i = 22 ∨ i = 23 ∨ i = 24 ∨ i = 25 ∨ i = 26 ∨ i = 27 ∨ i = 28 ∨ i = 29 ∨ i = 30 ∨ i = 31 ∨ i = 32 ∨ i = 33 ∨ i = 34 ∨ i = 35 ∨ i = 36 ∨ i = 37 ∨ i = 38 ∨ i = 39 ∨ i = 40 ∨ i = 41 ∨ i = 42 ∨ i = 43 ∨ i = 44 ∨ i = 45 ∨ i = 46 ∨ i = 47 ∨ i = 48 ∨ i = 49 ∨ i = 50 ∨ i = 51 ∨ i = 52 ∨ i = 53 ∨ i = 54 ∨ i = 55 ∨ i = 56 ∨ i = 57 ∨ i = 58 ∨ i = 59 ∨ i = 60 ∨ i = 61 ∨ i = 62 ∨ i = 63 ∨ i = 64 ∨ i = 65 ∨ i = 66 ∨ i = 67 ∨ i = 68 ∨ i = 69 ∨ i = 70 ∨ i = 71 ∨ i = 72 ∨ i = 73 ∨ i = 74 ∨ i = 75 ∨ i = 76 ∨ i = 77 ∨ i = 78 ∨ i = 79 ∨ i = 80 ∨ i = 81 ∨ i = 82 ∨ i = 83 ∨ i = 84 ∨ i = 85 by omega) with rfl | rfl | rfl | rfl | rfl | rfl | rfl | rfl | rfl | rfl | rfl | rfl | rfl | rfl | rfl | rfl | rfl | rfl | rfl | rfl | rfl | rfl | rfl | rfl | rfl | rfl | rfl | rfl | rfl | rfl | rfl | rfl | rfl | rfl | rfl | rfl | rfl | rfl | rfl | rfl | rfl | rfl | rfl | rfl | rfl | rfl | rfl | rfl | rfl | rfl | rfl | rfl | rfl | rfl | rfl | rfl | rfl | rfl | rfl | rfl | rfl | rfl | rfl | rfl | rfl | rfl | rfl | rfl | rfl | rfl | rfl | rfl | rfl | rfl | rfl | rfl | rfl | rfl | rfl | rfl | rfl | rfl | rfl | rfl | rfl | rfl
    · cases hx; exact ⟨_, _, rfl, Or.inl rfl⟩
    · cases hx; exact rfl
    · cases hx; exact ⟨_, _, _, _, _, _, _, _, _, _, _, rfl, by decide, by decide⟩
    · cases hx; exact ⟨_, _, rfl, by decide, by decide, by decide, by decide⟩
    · cases hx; exact ⟨_, rfl, by simp⟩
    · cases hx; exact ⟨_, rfl, by simp⟩
    · cases hx; exact ⟨_, rfl, by simp, fun j _ => zi_rep (by decide) (by decide) j⟩
    · cases hx; exact ⟨_, rfl, by simp⟩
    · cases hx; exact ⟨_, rfl, by simp⟩
    · cases hx; exact ⟨_, _, _, _, _, _, _, _, _, _, _, rfl, by decide, by decide⟩
    · cases hx; exact ⟨_, _, rfl, by decide, by decide, by decide, by decide⟩
    · cases hx; exact ⟨_, rfl, by simp⟩
    · cases hx; exact ⟨_, rfl, by simp⟩
    · cases hx; exact ⟨_, rfl, by simp, fun j _ => zi_rep (by decide) (by decide) j⟩
    · cases hx; exact ⟨_, rfl, by simp⟩
    · cases hx; exact ⟨_, rfl, by simp⟩
    · cases hx; exact ⟨_, _, _, _, _, _, _, _, _, _, _, rfl, by decide, by decide⟩
    · cases hx; exact ⟨_, rfl, by simp⟩
    · cases hx; exact ⟨_, _, _, rfl, by decide, by decide⟩
    · cases hx; exact ⟨_, _, _, _, _, _, _, _, _, _, _, rfl, by decide, by decide⟩
    · cases hx; exact ⟨_, rfl, by simp⟩
    · cases hx; exact ⟨_, _, _, _, _, rfl, by decide, by decide⟩
    · cases hx; exact rfl
    · cases hx; exact ⟨_, rfl, by simp⟩
    · cases hx; exact ⟨_, rfl, by simp⟩
    · cases hx; exact ⟨_, _, _, _, _, _, _, _, _, _, _, rfl, by decide, by decide⟩
    · cases hx; exact ⟨_, rfl, by simp⟩
    · cases hx; exact ⟨_, _, _, _, _, _, _, _, _, _, _, rfl, by decide, by decide⟩
    · cases hx; exact ⟨_, rfl, by simp⟩
    · cases hx; exact ⟨_, _, _, _, _, _, _, _, _, _, _, rfl, by decide, by decide⟩
    · cases hx; exact ⟨_, rfl, by simp⟩
    · cases hx; exact ⟨_, _, _, _, _, _, _, _, _, _, _, rfl, by decide, by decide⟩
    · cases hx; exact ⟨_, rfl, by simp⟩
    · cases hx; exact ⟨_, _, _, _, _, _, _, _, _, _, _, rfl, by decide, by decide⟩
    · cases hx; exact ⟨_, rfl, by simp⟩
    · cases hx; exact ⟨_, _, _, _, _, rfl⟩
    · cases hx; exact ⟨_, _, _, _, _, _, _, _, _, _, _, rfl, by decide, by decide⟩
    · cases hx; exact ⟨_, _, rfl, by decide, by decide, by decide, by decide⟩
    · cases hx; exact ⟨_, rfl, by simp⟩
    · cases hx; exact ⟨_, rfl, by simp⟩
    · cases hx; exact ⟨_, rfl, by simp, fun j _ => zi_rep (by decide) (by decide) j⟩
    · cases hx; exact ⟨_, rfl, by simp⟩
    · cases hx; exact ⟨_, rfl, by simp⟩
    · cases hx; exact ⟨_, rfl, by simp⟩
    · cases hx; exact ⟨_, _, _, _, rfl, by decide, by decide⟩
    · cases hx; exact ⟨_, rfl, by simp⟩
    · cases hx; exact ⟨_, rfl, by simp⟩
    · cases hx; exact ⟨_, _, rfl, by decide, by decide⟩
    · cases hx; exact ⟨_, rfl, by simp⟩
    · cases hx; exact ⟨_, _, rfl, by decide, by decide⟩
    · cases hx; exact ⟨_, rfl, by simp⟩
    · cases hx; exact ⟨_, _, rfl, by decide, by decide⟩
    · cases hx; exact ⟨_, rfl, by simp⟩
    · cases hx; exact ⟨_, _, rfl, by decide, by decide⟩
    · cases hx; exact ⟨_, rfl, by simp⟩
    · cases hx; exact ⟨_, _, rfl, by decide, by decide⟩
    · cases hx; exact ⟨_, rfl, by simp⟩
    · cases hx; exact ⟨_, _, rfl, by decide, by decide⟩
    · cases hx; exact ⟨_, rfl, by simp⟩
    · cases hx; exact ⟨_, _, rfl, by decide, by decide⟩
    · cases hx; exact ⟨_, rfl, by simp⟩
    · cases hx; exact ⟨_, _, rfl, by decide, by decide⟩
    · cases hx; exact ⟨_, rfl, by simp⟩
    · cases hx; exact ⟨_, _, _, _, _, _, _, _, _, _, _, _, _, _, _, _, _, _, _, _, _, _, _, _, _, _, _, _, _, _, _, rfl, by decide, by decide, by decide, by decide, by decide, by decide, by decide, by decide, Or.inl rfl⟩
    · cases hx; exact ⟨_, rfl, by simp⟩
    · cases hx; exact ⟨_, rfl, by simp⟩
    · cases hx; exact ⟨_, rfl, by simp⟩
    · cases hx; exact ⟨_, rfl, by simp, fun j _ => zi_rep (by decide) (by decide) j⟩
    · cases hx; exact ⟨_, rfl, by simp⟩
    · cases hx; exact ⟨_, rfl, by simp⟩
    · cases hx; exact ⟨_, rfl, by simp, fun j _ => zi_rep (by decide) (by decide) j⟩
    · cases hx; exact ⟨_, rfl, by simp⟩
    · cases hx; exact ⟨_, rfl, by simp, fun j _ => zi_rep (by decide) (by decide) j⟩
    · cases hx; exact ⟨_, rfl, by simp⟩
    · cases hx; exact ⟨_, rfl, by simp⟩
    · cases hx; exact ⟨_, rfl, by simp⟩
    · cases hx; exact rfl
    · cases hx; exact rfl
    · cases hx; exact ⟨_, rfl, by simp⟩
    · cases hx; exact ⟨_, rfl, by simp⟩
    · cases hx; exact ⟨_, rfl, by simp, fun j _ => zi_rep (by decide) (by decide) (48 + j), (zi_rep (n := 90) (lo := 0) (hi := 24) (by decide) (by decide) 71).1, (zi_rep (n := 90) (lo := 0) (hi := 24) (by decide) (by decide) 71).2, (zi_rep (n := 90) (lo := 0) (hi := 6) (by decide) (by decide) 72).1, (zi_rep (n := 90) (lo := 0) (hi := 6) (by decide) (by decide) 72).2, (zi_rep (n := 90) (lo := 0) (hi := 24) (by decide) (by decide) 76).1, (zi_rep (n := 90) (lo := 0) (hi := 24) (by decide) (by decide) 76).2⟩
    · cases hx; exact ⟨_, rfl, by simp⟩
    · cases hx; exact ⟨_, rfl, by simp⟩
    · cases hx; exact ⟨_, rfl, by simp⟩
    · cases hx; exact ⟨_, rfl, by simp⟩
    · cases hx; exact ⟨_, rfl, by simp⟩
  · exfalso
    cases hf
    have e : (List.replicate 8 (0 : Int32)).getD j 0 = 0 := by
      rw [List.getD_eq_getElem?_getD, List.getElem?_replicate]
      split <;> rfl
    rw [e] at hj
    exact absurd hj (by decide)
