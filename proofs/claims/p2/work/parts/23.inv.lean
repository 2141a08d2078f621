/-! part 23: what stays true of the cells between the law's calls: laid by wip/p2/inv.py -/
def zi_row (h : List zx_C) (a n : Nat) : Prop := ∃ f : List Int32, h[a]? = some (.inr (0, .inl f)) ∧ f.length = n
def zi_lrow (h : List zx_C) (a n : Nat) : Prop := ∃ f : List Int64, h[a]? = some (.inr (1, .inr (.inl f))) ∧ f.length = n
def zi_brow (h : List zx_C) (a n : Nat) (lo hi : Int) : Prop := ∃ f : List Int32, h[a]? = some (.inr (0, .inl f)) ∧ f.length = n ∧ ∀ j, j < n → lo ≤ (f.getD j 0).toInt ∧ (f.getD j 0).toInt ≤ hi
def zi_walk (h : List zx_C) (w y tr : Nat) : Prop := (∃ bg mo le na on bi ra wo he mi se : Int32, h[w]? = some (.inl (5, [.inr (.inr (1, y)), .inr (.inr (1, tr)), .inl bg, .inl mo, .inl le, .inl na, .inl on, .inl bi, .inl ra, .inl wo, .inl he, .inl mi, .inl se])) ∧ 0 ≤ he.toInt ∧ he.toInt ≤ 24) ∧ zi_row h tr 6
def zi_way (h : List zx_C) (y : Nat) : Prop := (∃ fu pe : Int32, h[y]? = some (.inl (6, [.inr (.inr (1, (y + 1))), .inr (.inr (1, (y + 2))), .inr (.inr (1, (y + 3))), .inr (.inr (1, (y + 4))), .inl fu, .inl pe])) ∧ 0 ≤ fu.toInt ∧ fu.toInt ≤ 24 ∧ 0 ≤ pe.toInt ∧ pe.toInt ≤ 6) ∧ zi_row h (y + 1) 24 ∧ zi_row h (y + 2) 24 ∧ zi_brow h (y + 3) 6 0 6 ∧ zi_row h (y + 4) 6
def zi_shelf (h : List zx_C) (b : Nat) : Prop := (∃ ho si : Int32, h[b]? = some (.inl (3, [.inr (.inr (1, (b + 1))), .inl ho, .inl si])) ∧ 0 ≤ si.toInt ∧ si.toInt ≤ 160) ∧ zi_lrow h (b + 1) 160
/-- the class's cells: 0 to 62 -/
def zi_X (h : List zx_C) : Prop :=
  (∃ it lf : Int32, h[0]? = some (.inl (7, [.inr (.inr (1, 1)), .inr (.inr (1, 2)), .inr (.inr (1, 9)), .inr (.inr (1, 16)), .inr (.inr (1, 18)), .inr (.inr (1, 21)), .inr (.inr (1, 35)), .inr (.inr (1, 44)), .inr (.inr (1, 46)), .inl it, .inl lf])) ∧ (it = 0 ∨ it = 1)) ∧
  h[1]? = some (.inr (2, .inr (.inr [some 47, some 49, some 51, some 53, some 55, some 57, some 59, some 61]))) ∧
  (∀ b, b ∈ [47, 49, 51, 53, 55, 57, 59, 61] → zi_shelf h b) ∧
  (zi_way h 3 ∧ zi_way h 10 ∧ zi_way h 37) ∧
  (zi_walk h 2 3 8 ∧ zi_walk h 9 10 15 ∧ zi_walk h 16 3 17 ∧ zi_walk h 19 3 20 ∧ zi_walk h 25 3 26 ∧ zi_walk h 27 3 28 ∧ zi_walk h 29 3 30 ∧ zi_walk h 31 3 32 ∧ zi_walk h 33 3 34 ∧ zi_walk h 36 37 42) ∧
  (∃ tu ac wo : Int32, h[18]? = some (.inl (1, [.inr (.inr (1, 19)), .inl tu, .inl ac, .inl wo])) ∧ 0 ≤ tu.toInt ∧ tu.toInt ≤ 6) ∧
  (∃ dw ba bh bw bm : Int32, h[21]? = some (.inl (2, [.inr (.inr (1, 22)), .inr (.inr (1, 23)), .inr (.inr (1, 24)), .inl dw, .inl ba, .inl bh, .inl bw, .inl bm])) ∧ 0 ≤ ba.toInt ∧ ba.toInt ≤ 4) ∧
  h[22]? = some (.inr (3, .inr (.inr [some 25, some 27, some 29, some 31, some 33]))) ∧ zi_row h 23 4 ∧ zi_row h 24 4 ∧
  (∃ si pl np it fa : Int32, h[35]? = some (.inl (4, [.inr (.inr (1, 36)), .inr (.inr (1, 43)), .inl si, .inl pl, .inl np, .inl it, .inl fa]))) ∧ zi_row h 43 160 ∧
  (∃ ra ow nu tr : Int32, h[44]? = some (.inl (0, [.inr (.inr (1, 45)), .inl ra, .inl ow, .inl nu, .inl tr])) ∧ 0 ≤ ra.toInt ∧ ra.toInt ≤ 1000) ∧ zi_row h 45 20 ∧ zi_row h 46 8
/-- the reference's cells: 63 to 85 -/
def zi_M (h : List zx_C) : Prop :=
  (∃ m_furlongs m_many m_bagged m_legs m_most m_nap m_on m_biscuits m_races m_worn m_here m_minutes m_seed m_fault m_base m_at m_end m_number m_wrongAt m_bestMany m_bestHere m_bestWorn m_bestMinutes m_turn m_ever m_made m_ruleHere m_ruleMinutes m_ruleEver m_ran m_isKept : Int32, h[63]? = some (.inl (8, [.inl m_furlongs, .inl m_many, .inl m_bagged, .inl m_legs, .inl m_most, .inl m_nap, .inl m_on, .inl m_biscuits, .inl m_races, .inl m_worn, .inl m_here, .inl m_minutes, .inl m_seed, .inl m_fault, .inr (.inr (1, 64)), .inr (.inr (1, 65)), .inr (.inr (1, 66)), .inr (.inr (1, 67)), .inr (.inr (1, 68)), .inr (.inr (1, 69)), .inr (.inr (1, 70)), .inr (.inr (1, 71)), .inr (.inr (1, 72)), .inr (.inr (1, 73)), .inr (.inr (1, 74)), .inr (.inr (1, 75)), .inr (.inr (1, 76)), .inr (.inr (1, 77)), .inr (.inr (1, 78)), .inl m_base, .inl m_at, .inl m_end, .inl m_number, .inl m_wrongAt, .inr (.inr (1, 79)), .inr (.inr (1, 80)), .inr (.inr (1, 81)), .inr (.inr (1, 82)), .inr (.inr (1, 83)), .inr (.inr (1, 84)), .inl m_bestMany, .inl m_bestHere, .inl m_bestWorn, .inl m_bestMinutes, .inl m_turn, .inl m_ever, .inl m_made, .inl m_ruleHere, .inl m_ruleMinutes, .inl m_ruleEver, .inr (.inr (1, 85)), .inl m_ran, .inl m_isKept])) ∧ 0 ≤ m_furlongs.toInt ∧ m_furlongs.toInt ≤ 24 ∧ 0 ≤ m_many.toInt ∧ m_many.toInt ≤ 6 ∧ 0 ≤ m_here.toInt ∧ m_here.toInt ≤ 24 ∧ 0 ≤ m_ran.toInt ∧ m_ran.toInt ≤ 1000 ∧ (m_isKept = 0 ∨ m_isKept = 1)) ∧
  zi_row h 64 8 ∧ zi_row h 65 24 ∧ zi_row h 66 24 ∧ zi_brow h 67 6 0 6 ∧ zi_row h 68 6 ∧ zi_row h 69 6 ∧
  (∃ f g : List Int32, h[70]? = some (.inr (0, .inl f)) ∧ f.length = 8 ∧ h[73]? = some (.inr (0, .inl g)) ∧ g.length = 8 ∧ ∀ j, j < 8 → f.getD j 0 = 2 → 0 ≤ (g.getD j 0).toInt ∧ (g.getD j 0).toInt ≤ 5) ∧
  zi_row h 71 8 ∧ zi_brow h 72 8 0 160 ∧ zi_lrow h 74 1280 ∧ zi_lrow h 75 160 ∧
  h[76]? = some (.inr (0, .inl [117, 112, 32, 0, 100, 111, 119, 110, 32, 0, 115, 116, 105, 108, 101, 0, 112, 101, 114, 115, 111, 110, 32, 0, 116, 105, 114, 101, 100, 32, 0, 98, 97, 103, 32, 0, 108, 101, 103, 115, 32, 0, 110, 97, 112, 32, 0, 119, 111, 114, 110, 32, 0, 98, 105, 115, 99, 117, 105, 116, 115, 32, 0, 114, 97, 99, 101, 115, 32, 0, 97, 99, 116, 32, 0])) ∧ h[77]? = some (.inr (0, .inl [1, 1, 0, 2, 2, 1, 1, 1, 1, 1, 1, 1])) ∧
  zi_row h 78 2 ∧ zi_row h 79 90 ∧
  (∃ f : List Int32, h[80]? = some (.inr (0, .inl f)) ∧ f.length = 90 ∧ (∀ j, j < 6 → 0 ≤ (f.getD (48 + j) 0).toInt ∧ (f.getD (48 + j) 0).toInt ≤ 6) ∧ 0 ≤ (f.getD 71 0).toInt ∧ (f.getD 71 0).toInt ≤ 24 ∧ 0 ≤ (f.getD 72 0).toInt ∧ (f.getD 72 0).toInt ≤ 6 ∧ 0 ≤ (f.getD 76 0).toInt ∧ (f.getD 76 0).toInt ≤ 24) ∧
  zi_row h 81 90 ∧ zi_row h 82 450 ∧ zi_row h 83 4 ∧ zi_row h 84 4 ∧ zi_row h 85 20
def zx_I (h : List zx_C) : Prop := zi_X h ∧ zi_M h
theorem zi_0 (h : List zx_C) (hI : zx_I h) : ∃ fs, h[0]? = some (.inl (7, fs)) := by
  obtain ⟨it, lf, h1, -⟩ := hI.1.1
  exact ⟨_, h1⟩
theorem zi_63 (h : List zx_C) (hI : zx_I h) : ∃ fs, h[63]? = some (.inl (8, fs)) := by
  obtain ⟨_, _, _, _, _, _, _, _, _, _, _, _, _, _, _, _, _, _, _, _, _, _, _, _, _, _, _, _, _, _, _, h1, -⟩ := hI.2.1
  exact ⟨_, h1⟩
-- the start
theorem zi_rep {n : Nat} {lo hi : Int} (h0 : lo ≤ 0) (h1 : 0 ≤ hi) (j : Nat) : lo ≤ ((List.replicate n (0 : Int32)).getD j 0).toInt ∧ ((List.replicate n (0 : Int32)).getD j 0).toInt ≤ hi := by
  have e : (List.replicate n (0 : Int32)).getD j 0 = 0 := by
    rw [List.getD_eq_getElem?_getD, List.getElem?_replicate]
    split <;> rfl
  rw [e]
  exact ⟨h0, h1⟩
set_option maxRecDepth 100000 in
theorem zi_startX : zi_X zx_hM := by
  refine ⟨⟨_, _, by rfl, Or.inl rfl⟩, by rfl, ?_, ⟨⟨⟨_, _, by rfl, by decide, by decide, by decide, by decide⟩, ⟨_, by rfl, by simp⟩, ⟨_, by rfl, by simp⟩, ⟨_, by rfl, by simp, fun j _ => zi_rep (by decide) (by decide) j⟩, ⟨_, by rfl, by simp⟩⟩, ⟨⟨_, _, by rfl, by decide, by decide, by decide, by decide⟩, ⟨_, by rfl, by simp⟩, ⟨_, by rfl, by simp⟩, ⟨_, by rfl, by simp, fun j _ => zi_rep (by decide) (by decide) j⟩, ⟨_, by rfl, by simp⟩⟩, ⟨⟨_, _, by rfl, by decide, by decide, by decide, by decide⟩, ⟨_, by rfl, by simp⟩, ⟨_, by rfl, by simp⟩, ⟨_, by rfl, by simp, fun j _ => zi_rep (by decide) (by decide) j⟩, ⟨_, by rfl, by simp⟩⟩⟩, ⟨⟨⟨_, _, _, _, _, _, _, _, _, _, _, by rfl, by decide, by decide⟩, ⟨_, by rfl, by simp⟩⟩, ⟨⟨_, _, _, _, _, _, _, _, _, _, _, by rfl, by decide, by decide⟩, ⟨_, by rfl, by simp⟩⟩, ⟨⟨_, _, _, _, _, _, _, _, _, _, _, by rfl, by decide, by decide⟩, ⟨_, by rfl, by simp⟩⟩, ⟨⟨_, _, _, _, _, _, _, _, _, _, _, by rfl, by decide, by decide⟩, ⟨_, by rfl, by simp⟩⟩, ⟨⟨_, _, _, _, _, _, _, _, _, _, _, by rfl, by decide, by decide⟩, ⟨_, by rfl, by simp⟩⟩, ⟨⟨_, _, _, _, _, _, _, _, _, _, _, by rfl, by decide, by decide⟩, ⟨_, by rfl, by simp⟩⟩, ⟨⟨_, _, _, _, _, _, _, _, _, _, _, by rfl, by decide, by decide⟩, ⟨_, by rfl, by simp⟩⟩, ⟨⟨_, _, _, _, _, _, _, _, _, _, _, by rfl, by decide, by decide⟩, ⟨_, by rfl, by simp⟩⟩, ⟨⟨_, _, _, _, _, _, _, _, _, _, _, by rfl, by decide, by decide⟩, ⟨_, by rfl, by simp⟩⟩, ⟨⟨_, _, _, _, _, _, _, _, _, _, _, by rfl, by decide, by decide⟩, ⟨_, by rfl, by simp⟩⟩⟩, ⟨_, _, _, by rfl, by decide, by decide⟩, ⟨_, _, _, _, _, by rfl, by decide, by decide⟩, by rfl, ⟨_, by rfl, by simp⟩, ⟨_, by rfl, by simp⟩, ⟨_, _, _, _, _, by rfl⟩, ⟨_, by rfl, by simp⟩, ⟨_, _, _, _, by rfl, by decide, by decide⟩, ⟨_, by rfl, by simp⟩, ⟨_, by rfl, by simp⟩⟩
  simp only [List.forall_mem_cons]
  exact ⟨⟨⟨_, _, by rfl, by decide, by decide⟩, ⟨_, by rfl, by simp⟩⟩, ⟨⟨_, _, by rfl, by decide, by decide⟩, ⟨_, by rfl, by simp⟩⟩, ⟨⟨_, _, by rfl, by decide, by decide⟩, ⟨_, by rfl, by simp⟩⟩, ⟨⟨_, _, by rfl, by decide, by decide⟩, ⟨_, by rfl, by simp⟩⟩, ⟨⟨_, _, by rfl, by decide, by decide⟩, ⟨_, by rfl, by simp⟩⟩, ⟨⟨_, _, by rfl, by decide, by decide⟩, ⟨_, by rfl, by simp⟩⟩, ⟨⟨_, _, by rfl, by decide, by decide⟩, ⟨_, by rfl, by simp⟩⟩, ⟨⟨_, _, by rfl, by decide, by decide⟩, ⟨_, by rfl, by simp⟩⟩, fun _ hm => absurd hm List.not_mem_nil⟩
set_option maxRecDepth 100000 in
theorem zi_startM : zi_M zx_hM := by
  refine ⟨⟨_, _, _, _, _, _, _, _, _, _, _, _, _, _, _, _, _, _, _, _, _, _, _, _, _, _, _, _, _, _, _, by rfl, by decide, by decide, by decide, by decide, by decide, by decide, by decide, by decide, Or.inl rfl⟩, ⟨_, by rfl, by simp⟩, ⟨_, by rfl, by simp⟩, ⟨_, by rfl, by simp⟩, ⟨_, by rfl, by simp, fun j _ => zi_rep (by decide) (by decide) j⟩, ⟨_, by rfl, by simp⟩, ⟨_, by rfl, by simp⟩, ⟨_, _, by rfl, by simp, by rfl, by simp, fun j _ _ => zi_rep (by decide) (by decide) j⟩, ⟨_, by rfl, by simp⟩, ⟨_, by rfl, by simp, fun j _ => zi_rep (by decide) (by decide) j⟩, ⟨_, by rfl, by simp⟩, ⟨_, by rfl, by simp⟩, by rfl, by rfl, ⟨_, by rfl, by simp⟩, ⟨_, by rfl, by simp⟩, ⟨_, by rfl, by simp, fun j _ => zi_rep (by decide) (by decide) (48 + j), (zi_rep (n := 90) (lo := 0) (hi := 24) (by decide) (by decide) 71).1, (zi_rep (n := 90) (lo := 0) (hi := 24) (by decide) (by decide) 71).2, (zi_rep (n := 90) (lo := 0) (hi := 6) (by decide) (by decide) 72).1, (zi_rep (n := 90) (lo := 0) (hi := 6) (by decide) (by decide) 72).2, (zi_rep (n := 90) (lo := 0) (hi := 24) (by decide) (by decide) 76).1, (zi_rep (n := 90) (lo := 0) (hi := 24) (by decide) (by decide) 76).2⟩, ⟨_, by rfl, by simp⟩, ⟨_, by rfl, by simp⟩, ⟨_, by rfl, by simp⟩, ⟨_, by rfl, by simp⟩, ⟨_, by rfl, by simp⟩⟩
theorem zi_start : zx_I zx_hM := ⟨zi_startX, zi_startM⟩
