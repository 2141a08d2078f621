/-! part 65: the reference between calls (JM); its simple calls -/
abbrev zfd (m m' : zf_Me) : Prop := ∀ a, a < 63 → m'.1 a = m.1 a ∧ m'.2 a = m.2 a
def zsR (m : zf_Me) : Prop := ∀ j, j < 8 → (0 ≤ (m.1 70 j).toInt ∧ (m.1 70 j).toInt ≤ 2) ∧ (0 ≤ (m.1 72 j).toInt ∧ (m.1 72 j).toInt ≤ 160) ∧ ((m.1 70 j).toInt = 2 → 0 ≤ (m.1 73 j).toInt ∧ (m.1 73 j).toInt ≤ 5)
def zkp (m : zf_Me) : Prop := (m.1 63 52).toInt = 0 ∨ zB (zA 80 0 m)
def zwl : List Int32 := [117, 112, 32, 0, 100, 111, 119, 110, 32, 0, 115, 116, 105, 108, 101, 0, 112, 101, 114, 115, 111, 110, 32, 0, 116, 105, 114, 101, 100, 32, 0, 98, 97, 103, 32, 0, 108, 101, 103, 115, 32, 0, 110, 97, 112, 32, 0, 119, 111, 114, 110, 32, 0, 98, 105, 115, 99, 117, 105, 116, 115, 32, 0, 114, 97, 99, 101, 115, 32, 0, 97, 99, 116, 32, 0]
def znl : List Int32 := [1, 1, 0, 2, 2, 1, 1, 1, 1, 1, 1, 1]
def zwd (m : zf_Me) : Prop := (∀ k, k < 75 → m.1 76 k = zwl.getD k 0) ∧ (∀ k, k < 12 → m.1 77 k = znl.getD k 0)
def JM (m : zf_Me) : Prop := zB (zr m) ∧ zsR m ∧ zkp m ∧ zwd m
abbrev zcoQ (a k : Nat) : Prop := (a = 63 ∧ ¬ k = 52 ∧ ¬ k = 51 ∧ ¬ k = 13) ∨ (64 ≤ a ∧ a ≤ 69) ∨ a = 78 ∨ a = 79 ∨ (81 ≤ a ∧ a ≤ 84)
abbrev zgQ (m m' : zf_Me) : Prop := zgr' zcoQ m m'
theorem zfd_of {P : Nat → Nat → Prop} {m m' : zf_Me} (h : zgr' P m m') (hp : ∀ a k, P a k → 63 ≤ a) : zfd m m' := fun a ha => ⟨by
  funext k
  exact h.1 a k (fun z => by have := hp a k z; omega), by rw [h.2]⟩
/-- as zgQ, and the fault, the trace -/
abbrev zcoB (a k : Nat) : Prop := (a = 63 ∧ ¬ k = 52) ∨ (64 ≤ a ∧ a ≤ 69) ∨ a = 78 ∨ a = 79 ∨ (81 ≤ a ∧ a ≤ 85)
abbrev zgB (m m' : zf_Me) : Prop := zgr' zcoB m m'
theorem JM_b {m m' : zf_Me} (hJ : JM m) (h : zgB m m') (hB : zB (zr m')) : JM m' := by
  refine ⟨hB, fun j hj => ?_, ?_, fun k hk => ?_, fun k hk => ?_⟩
  · rw [h.1 70 j (by omega), h.1 72 j (by omega), h.1 73 j (by omega)]
    exact hJ.2.1 j hj
  · unfold zkp
    rw [h.1 63 52 (by omega), zA_of h (fun k => by omega)]
    exact hJ.2.2.1
  · rw [h.1 76 k (by omega)]
    exact hJ.2.2.2.1 k hk
  · rw [h.1 77 k (by omega)]
    exact hJ.2.2.2.2 k hk
theorem zgQ_b {m m' : zf_Me} (h : zgQ m m') : zgB m m' := zgr_mono h (fun a k z => by omega)
theorem JM_q {m m' : zf_Me} (hJ : JM m) (h : zgQ m m') (hB : zB (zr m')) : JM m' := JM_b hJ (zgQ_b h) hB
theorem zfd_q {m m' : zf_Me} (h : zgQ m m') : zfd m m' := zfd_of h (fun a k z => by omega)
theorem zgc_q {m m' : zf_Me} (h : zgc m m') : zgQ m m' := zgr_mono h (fun a k z => by omega)
theorem zgL_q {m m' : zf_Me} (h : zgL m m') : zgQ m m' := zgr_mono h (fun a k z => by omega)
theorem zg64_q {m m' : zf_Me} (h : zgr' (fun a _ => a = 64) m m') : zgQ m m' := zgr_mono h (fun a k z => by omega)
theorem zg64_r {m m' : zf_Me} (h : zgr' (fun a _ => a = 64) m m') : zr m' = zr m := zr_of h (fun a k z => by omega)
/-- only shelves of the reference -/
theorem JM_s {m m' : zf_Me} (hJ : JM m) (h : ∀ a, ¬ (70 ≤ a ∧ a ≤ 73) → m'.1 a = m.1 a) (hs : zsR m') : JM m' := by
  refine ⟨?_, hs, ?_, fun k hk => ?_, fun k hk => ?_⟩
  · rw [show zr m' = zr m from zr_fr (fun k _ => by rw [h 63 (by decide)]) (fun a _ _ => h a (by omega))]
    exact hJ.1
  · unfold zkp
    rw [h 63 (by decide), show zA 80 0 m' = zA 80 0 m from zL_ext (fun i _ => by rw [h 80 (by decide)])]
    exact hJ.2.2.1
  · rw [h 76 (by decide)]
    exact hJ.2.2.2.1 k hk
  · rw [h 77 (by decide)]
    exact hJ.2.2.2.2 k hk
theorem zix {s i : Int32} (hs : 0 ≤ s.toInt ∧ s.toInt < 8) (hi : 0 ≤ i.toInt ∧ i.toInt ≤ 160) : (160 * s + i).toInt = 160 * s.toInt + i.toInt := by
  have e : (160 : Int32).toInt = 160 := rfl
  have m := fb_mulI (x := 160) (y := s) (by rw [e]; omega) (by rw [e]; omega)
  rw [e] at m
  rw [fb_addI (by rw [m]; omega) (by rw [m]; omega), m]
section
variable {m : zf_Me}
theorem zs_173 (hB : zB (zr m)) {Q : Int32 → zf_Me → Prop} (hq : Q (Int32.ofNat (zbits (zr m) 10)) m) : wp_173 m Q := by
  have e1 : (1 : Int32).toInt = 1 := rfl
  have lp : ∀ (n : Nat) (v1 v2 : Int32), 0 ≤ v2.toInt → v2.toInt ≤ 10 → 10 - v2.toInt < n → v1 = Int32.ofNat (zbits (zr m) v2.toInt.toNat) → wq_173_4 Q n v1 v2 m := by
    intro n
    induction n with
    | zero => intro v1 v2 h0 h1 h2; omega
    | succ n ih =>
      intro v1 v2 h0 h1 h2 h3
      refine ⟨fun g => ?_, fun g => zs_167 hB g (fun b hb => ?_)⟩
      · rw [h3, show v2.toInt = 10 by omega]
        exact hq
      · have s := fb_addI (x := v2) (y := 1) (by omega) (by omega)
        have e2 : (v2 + 1).toInt.toNat = v2.toInt.toNat + 1 := by omega
        have ev : v2 = Int32.ofNat v2.toInt.toNat := zn_of _ _ (by omega)
        have ej : ((v2.toInt.toNat : Nat) : Int) = v2.toInt := by omega
        refine ⟨fun e => ih _ _ (by omega) (by omega) (by omega) ?_, fun e => ih _ _ (by omega) (by omega) (by omega) ?_⟩
        · have st : zbits (zr m) (v2.toInt.toNat + 1) = zbits (zr m) v2.toInt.toNat := by
            show (if zmay (zr m) ((v2.toInt.toNat : Nat) : Int) then _ else _) = _
            rw [ej, if_neg (zno hb e)]
          rw [h3, e2, st]
        · rw [e2]
          have st : zbits (zr m) (v2.toInt.toNat + 1) = zbits (zr m) v2.toInt.toNat + 2 ^ v2.toInt.toNat := by
            show (if zmay (zr m) ((v2.toInt.toNat : Nat) : Int) then _ else _) = _
            rw [ej, if_pos (hb.mp e)]
          rw [st, ← zbits_or v2.toInt.toNat (by omega) _ (zbits_lt _ _), h3, ← ev]
  exact ⟨12, lp 12 0 0 (by decide) (by decide) (by decide) rfl⟩
end
