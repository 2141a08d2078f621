section
/-! part 84: what comes of rules, as functions: the class -/
def zend (f : zS) (rule : Int) : zRS := zgo rule 60 (zbeg f)
def zsel (s : zRS) (w : Int) : Int := if w = 0 then s.1 5 10 else if w = 1 then s.1 5 11 else if w = 2 then s.2.2.2 else if w = 3 then s.2.2.1 else s.1 4 (w - 10).toNat
def zN88 (f : zS) (rule w : Int) : Int := if ¬ ((0 ≤ w ∧ w ≤ 3) ∨ (10 ≤ w ∧ w - 10 < f 5 6)) then -5 else if ¬ (0 ≤ rule ∧ rule ≤ 3) then -6 else zsel (zend f rule) w
def zbet (r h c : Int) (s : Int × Int × Int) : Int × Int × Int := if s.2.1 < h ∨ (h = s.2.1 ∧ c < s.2.2) then (r, h, c) else s
def zbst (f : zS) (w : Int) : Nat → Int → Int × Int × Int → Int × Int × Int
  | 0, _, s => s
  | n + 1, r, s => zbst f w n (r + 1) (zbet r ((zend f r).1 5 10) (if w = 0 then (zend f r).2.2.2 else (zend f r).1 5 11) s)
def zN89 (f : zS) (w : Int) : Int := if w < 0 ∨ 1 < w then -5 else (zbst f w 4 0 (0, -1, 0)).1
def zN92 (f : zS) (rule : Int) : Int := if ¬ (0 ≤ rule ∧ rule ≤ 3) then -6 else if ¬ zmay f 9 then 0 else if (zend f rule).1 5 10 < (zgo rule 60 (zact f 9, 0, 0, zgr f (f 5 6).toNat)).1 5 10 ∨ ((zgo rule 60 (zact f 9, 0, 0, zgr f (f 5 6).toNat)).1 5 10 = (zend f rule).1 5 10 ∧ (zgo rule 60 (zact f 9, 0, 0, zgr f (f 5 6).toNat)).2.2.2 < (zend f rule).2.2.2) then 1 else 0
def zbgl (f : zS) (rule : Int) : Nat → Int → Int × Int × Int → Int × Int × Int
  | 0, _, s => s
  | n + 1, p, s => zbgl f rule n (p + 1) (zbet p ((zend (zU f 5 7 p) rule).1 5 10) (zend (zU f 5 7 p) rule).2.2.2 s)
def zN93 (f : zS) (rule : Int) : Int := if ¬ (0 ≤ rule ∧ rule ≤ 3) then -16 else (zbgl f rule ((f 5 6).toNat + 1) (-1) (-1, -1, 0)).1
def zfitB (x : zHe) (g : zS) : Nat → Bool
  | 0 => true
  | n + 1 => zfitB x g n && decide (g 4 n = zel x n)
def zfitb (x : zHe) (f : zS) : Nat → Nat
  | 0 => 0
  | r + 1 => if zfitB x (zend f (r : Nat)).1 (f 5 6).toNat = true then zfitb x f r + 2 ^ r else zfitb x f r
def zN97 (h : zH) (f : zS) (s : Int) : Int := if ¬ zK h s = 0 then -(zK h s) else if (h s.toNat).2.1 < f 5 6 then -5 else ((zfitb (h s.toNat) f 4 : Nat) : Int)
def zlst (f : zS) (rule : Int) (w : Nat) : Nat → Int → Int
  | 0, _ => -1
  | n + 1, v => if ¬ (zend (zU f 5 w v) rule).1 5 10 < f 5 5 then v else zlst f rule w n (v + 1)
def zN98 (f : zS) : Int := zlst f 3 3 10 0
def zN99 (f : zS) (rule : Int) : Int := if ¬ (0 ≤ rule ∧ rule ≤ 3) then -16 else zlst f rule 2 99 1
theorem zgr_u5 {f : zS} {k : Nat} {x : Int} : ∀ n, zgr (zU f 5 k x) n = zgr f n
  | 0 => rfl
  | n + 1 => by
    have e : zU f 5 k x 4 n = f 4 n := zU_o (by omega)
    unfold zgr
    rw [zgr_u5 n, e]
theorem zgo_fur {rule : Int} : ∀ (n : Nat) (s : zRS), (zgo rule n s).1 5 5 = s.1 5 5
  | 0, _ => rfl
  | n + 1, s => by
    unfold zgo
    split
    · rfl
    · rename_i s' e
      rw [zgo_fur n s']
      unfold zstp at e
      split at e
      · cases e
        exact zact_furlongs
      · cases e
theorem zgo_peo {rule : Int} : ∀ (n : Nat) (s : zRS), (zgo rule n s).1 5 6 = s.1 5 6
  | 0, _ => rfl
  | n + 1, s => by
    unfold zgo
    split
    · rfl
    · rename_i s' e
      rw [zgo_peo n s']
      unfold zstp at e
      split at e
      · cases e
        exact zact_people
      · cases e
theorem zfitB_f {x : zHe} {g : zS} {i : Nat} (h : ¬ g 4 i = zel x i) : ∀ n, i < n → zfitB x g n = false
  | 0, k => absurd k (Nat.not_lt_zero _)
  | n + 1, k => by
    unfold zfitB
    by_cases e : i = n
    · rw [← e, decide_eq_false h, Bool.and_false]
    · rw [zfitB_f h n (by omega), Bool.false_and]
theorem zfitb_lt {x : zHe} {f : zS} : ∀ r, zfitb x f r < 2 ^ r
  | 0 => Nat.zero_lt_one
  | r + 1 => by
    have := zfitb_lt (x := x) (f := f) r
    have p : 2 ^ (r + 1) = 2 * 2 ^ r := by rw [Nat.pow_succ, Nat.mul_comm]
    unfold zfitb
    split <;> omega
theorem zsmall : ∀ N : Nat, N < 16 → (Int32.ofNat N).toInt = N := by decide
section
variable {m : zf_Me}
theorem zs_goE {F : zS} (hF : zv 2 3 8 m = F) (hB : zB F) {rule : Int32} {Q : zf_Me → Prop} (hq : ∀ m', zrs m' = zend F rule.toInt → zfR m m' → Q m') : wp_7 2 3 8 m (fun m4 => wp_8 rule m4 Q) := by
  subst hF
  exact zs_go hB hq
theorem zrs_h {s : zRS} (e : zrs m = s) : (m.1 19 10).toInt = s.1 5 10 ∧ (m.1 19 11).toInt = s.1 5 11 ∧ (m.1 18 3).toInt = s.2.2.2 ∧ (m.1 18 2).toInt = s.2.2.1 := by
  rw [← e]
  exact ⟨rfl, rfl, rfl, rfl⟩
theorem zA_88 (hJ : JX m) {rule w : Int32} {Q : Int32 → zf_Me → Prop} (K : ∀ (v : Int32) (m' : zf_Me), zq m m' → v.toInt = zN88 (zv 2 3 8 m) rule.toInt w.toInt → Q v m') : wp_88 rule w m Q := by
  have b := zB_v hJ.1
  have e10 : (10 : Int32).toInt = 10 := rfl
  have e1 : (1 : Int32).toInt = 1 := rfl
  have p6 : zv 2 3 8 m 5 6 = (m.1 3 5).toInt := rfl
  have no : ¬ ((0 ≤ w.toInt ∧ w.toInt ≤ 3) ∨ (10 ≤ w.toInt ∧ w.toInt - 10 < (m.1 3 5).toInt)) → wp_109 5 m (fun x m' => Q x m') := fun g => zC_q (by decide) K (if_pos g)
  have sub : 10 ≤ w.toInt → (w - 10).toInt = w.toInt - 10 := fun g => by
    have rw0 := fb_rng w
    have := fb_subI (x := w) (y := 10) (by omega) (by omega)
    omega
  have t48 : (0 ≤ w.toInt ∧ w.toInt ≤ 3) ∨ (10 ≤ w.toInt ∧ w.toInt - 10 < (m.1 3 5).toInt) → wq_88_48 rule w m Q := fun h => by
    have N : ∀ r, (0 ≤ rule.toInt ∧ rule.toInt ≤ 3) → zsel (zend (zv 2 3 8 m) rule.toInt) w.toInt = r → r = zN88 (zv 2 3 8 m) rule.toInt w.toInt := fun r g hr => by
      unfold zN88
      rw [if_neg (fun z => z h), if_neg (fun z => z g)]
      exact hr.symm
    refine zs_116 (fun g => ⟨fun _ => zs_goE rfl hJ.1 (fun m6 e6 f => ?_), fun z => (nomatch z)⟩) (fun g => ⟨fun z => (nomatch z), fun _ => zC_q (by decide) K ?_⟩)
    · have hh := zrs_h e6
      have N := fun r => N r (by omega)
      unfold zsel at N
      refine ⟨fun o => ?_, fun o => K _ m6 (zfR_q f) (N _ ?_), fun o => K _ m6 (zfR_q f) (N _ ?_), fun o => K _ m6 (zfR_q f) (N _ ?_), fun o => K _ m6 (zfR_q f) (N _ ?_)⟩
      · have s := sub (by omega)
        refine ⟨by omega, K _ m6 (zfR_q f) (N _ ?_)⟩
        rw [if_neg (by omega), if_neg (by omega), if_neg (by omega), if_neg (by omega), ← e6, ← s]
        exact zN_lt (by omega)
      · rw [if_pos o]
        exact hh.1.symm
      · rw [if_neg (by omega), if_pos o]
        exact hh.2.1.symm
      · rw [if_neg (by omega), if_neg (by omega), if_pos o]
        exact hh.2.2.1.symm
      · rw [if_neg (by omega), if_neg (by omega), if_neg (by omega), if_pos o]
        exact hh.2.2.2.symm
    · unfold zN88
      rw [if_neg (fun z => z h), if_pos (by omega)]
      rfl
  have t28 : ∀ u : Int32, (¬ u.toInt = 0 → 10 ≤ w.toInt ∧ w.toInt - 10 < (m.1 3 5).toInt) → (u.toInt = 0 → ¬ (10 ≤ w.toInt ∧ w.toInt - 10 < (m.1 3 5).toInt)) → wq_88_28 rule w u m Q := fun u h h2 => ⟨fun g => t48 (Or.inr (h g)), fun g => ⟨fun g1 => no (fun z => by have := h2 g; omega), fun g2 => ⟨fun g3 => t48 (Or.inl ⟨g2, g3⟩), fun g3 => no (fun z => by have := h2 g; omega)⟩⟩⟩
  have t27 : ¬ (10 ≤ w.toInt ∧ w.toInt - 10 < (m.1 3 5).toInt) → wq_88_27 rule w m Q := fun h => t28 0 (fun z => absurd rfl z) (fun _ => h)
  refine ⟨fun g => t27 (by omega), fun g => ?_⟩
  have s := sub g
  exact zs_65t (fun g2 => ⟨fun z => (nomatch z), fun _ => t28 1 (fun _ => by omega) (fun z => absurd z (by decide))⟩) (fun g2 => ⟨fun _ => t27 (by omega), fun z => (nomatch z)⟩)
theorem zA_89 (hJ : JX m) {w : Int32} {Q : Int32 → zf_Me → Prop} (K : ∀ (v : Int32) (m' : zf_Me), zq m m' → v.toInt = zN89 (zv 2 3 8 m) w.toInt → Q v m') : wp_89 w m Q := by
  have e1 : (1 : Int32).toInt = 1 := rfl
  have lp : (0 ≤ w.toInt ∧ w.toInt ≤ 1) → ∀ (n : Nat) (v2 v3 v4 v5 : Int32) (mj : zf_Me), 0 ≤ v5.toInt → v5.toInt ≤ 4 → 4 - v5.toInt < n → zq m mj → zN89 (zv 2 3 8 m) w.toInt = (zbst (zv 2 3 8 m) w.toInt (4 - v5.toInt).toNat v5.toInt (v2.toInt, v3.toInt, v4.toInt)).1 → wq_89_25 w Q n v2 v3 v4 v5 mj := by
    intro hw n
    induction n with
    | zero => intro v2 v3 v4 v5 mj h0 h1 h2; omega
    | succ n ih =>
      intro v2 v3 v4 v5 mj h0 h1 h2 hf hA
      refine ⟨fun g => K _ mj hf ?_, fun g => zs_goE (zq_now hf) hJ.1 (fun m6 e6 f => ?_)⟩
      · rw [hA, show (4 - v5.toInt).toNat = 0 by omega]
        rfl
      · have s := fb_addI (x := v5) (y := 1) (by omega) (by omega)
        have hh := zrs_h e6
        rw [show (4 - v5.toInt).toNat = (4 - (v5 + 1).toInt).toNat + 1 by omega] at hA
        replace hA : zN89 (zv 2 3 8 m) w.toInt = (zbst (zv 2 3 8 m) w.toInt (4 - (v5 + 1).toInt).toNat (v5.toInt + 1) (zbet v5.toInt ((zend (zv 2 3 8 m) v5.toInt).1 5 10) (if w.toInt = 0 then (zend (zv 2 3 8 m) v5.toInt).2.2.2 else (zend (zv 2 3 8 m) v5.toInt).1 5 11) (v2.toInt, v3.toInt, v4.toInt))).1 := hA
        rw [show v5.toInt + 1 = (v5 + 1).toInt by omega, ← hh.1] at hA
        have t : ∀ u : Int32, u.toInt = (if w.toInt = 0 then (zend (zv 2 3 8 m) v5.toInt).2.2.2 else (zend (zv 2 3 8 m) v5.toInt).1 5 11) → wq_89_75 w (wq_89_25 w Q n) v2 v3 v4 v5 u m6 Q := fun u hu => by
          rw [← hu] at hA
          refine zs_119 (fun x hx => ⟨fun e => ih _ _ _ _ m6 (by omega) (by omega) (by omega) (zfr_trans hf (zfR_q f)) ?_, fun e => ih _ _ _ _ m6 (by omega) (by omega) (by omega) (zfr_trans hf (zfR_q f)) ?_⟩)
          · rw [hA, show zbet v5.toInt (m6.1 19 10).toInt u.toInt (v2.toInt, v3.toInt, v4.toInt) = (v2.toInt, v3.toInt, v4.toInt) from if_neg (zno hx e)]
          · rw [hA, show zbet v5.toInt (m6.1 19 10).toInt u.toInt (v2.toInt, v3.toInt, v4.toInt) = (v5.toInt, (m6.1 19 10).toInt, u.toInt) from if_pos (hx.mp e)]
        exact ⟨fun o => t _ (by rw [if_neg o]; exact hh.2.1), fun o => t _ (by rw [if_pos o]; exact hh.2.2.1)⟩
  refine ⟨fun g => zC_q (by decide) K (if_pos (Or.inl g)), fun g => ⟨fun g2 => ⟨6, lp ⟨g, g2⟩ 6 _ _ _ 0 m (by decide) (by decide) (by decide) zfr_refl ?_⟩, fun g2 => zC_q (by decide) K (if_pos (Or.inr g2))⟩⟩
  unfold zN89
  rw [if_neg (by omega)]
  rfl
theorem zA_92 (hJ : JX m) {rule : Int32} {Q : Int32 → zf_Me → Prop} (K : ∀ (v : Int32) (m' : zf_Me), zq m m' → v.toInt = zN92 (zv 2 3 8 m) rule.toInt → Q v m') : wp_92 rule m Q := by
  refine zs_116 (fun g => ⟨fun _ => zs_52 hJ.1 (fun b hb => ⟨fun e => zs_goE rfl hJ.1 (fun m8 e8 f8 => zs_7 (by decide) (zs_now (zfR_q f8) hJ.1) (fun m10 z10 f10 => ?_)), fun e => K _ m zfr_refl ?_⟩), fun z => (nomatch z)⟩) (fun g => ⟨fun z => (nomatch z), fun _ => zC_q (by decide) K (if_pos (by omega))⟩)
  · have w10 := zrs_w z10
    have n8 : zv 2 3 8 m8 = zv 2 3 8 m := zq_now (zfR_q f8)
    have hh8 := zrs_h e8
    have may : zmay (zv 19 3 20 m10) 9 := by
      rw [w10.1, n8]
      exact hb.mp e
    have b10 : zB (zv 19 3 20 m10) := by rw [w10.1, n8]; exact hJ.1
    refine zs_56 (a := 9) zd19 b10 may (fun m12 z12 f12 => ?_)
    have s : m12.1 18 = m10.1 18 := f12.1 18 (by decide)
    have r12 : zrs m12 = (zact (zv 2 3 8 m) 9, 0, 0, zgr (zv 2 3 8 m) (zv 2 3 8 m 5 6).toNat) := by
      unfold zrs
      rw [z12, s, w10.2.1, w10.2.2.1, w10.2.2.2, w10.1, n8]
      rfl
    refine zs_8 ?_ (fun m14 e14 f14 => ?_)
    · rw [r12]
      refine ⟨zB_act hJ.1 (hb.mp e), (by decide : (0 : Int) ≤ 0 ∧ (0 : Int) ≤ 5), (by decide : (0 : Int) ≤ 0 ∧ (0 : Int) ≤ 60), ?_⟩
      exact zgr_b hJ.1.2.2 _ (by have := hJ.1.1; omega)
    · rw [r12] at e14
      have hh := zrs_h e14
      have f : zq m m14 := zfr_trans (zfR_q f8) (zfr_trans (zfR_q f10) (zfr_trans (zfr_mono f12 (fun a ha => by omega)) (zfR_q f14)))
      refine zs_119 (fun x hx => ⟨fun ex => K _ m14 f ?_, fun ex => K _ m14 f ?_⟩)
      · unfold zN92
        rw [if_neg (by omega), if_neg (fun z => z (hb.mp e)), ← hh.1, ← hh.2.2.1, ← hh8.1, ← hh8.2.2.1, if_neg (zno hx ex)]
        rfl
      · unfold zN92
        rw [if_neg (by omega), if_neg (fun z => z (hb.mp e)), ← hh.1, ← hh.2.2.1, ← hh8.1, ← hh8.2.2.1, if_pos (hx.mp ex)]
        rfl
  · have hn : ¬ zmay (zv 2 3 8 m) 9 := zno hb e
    unfold zN92
    rw [if_neg (by omega), if_pos hn]
    rfl
theorem zA_93 (hJ : JX m) {rule : Int32} {Q : Int32 → zf_Me → Prop} (K : ∀ (v : Int32) (m' : zf_Me), zq m m' → v.toInt = zN93 (zv 2 3 8 m) rule.toInt → Q v m') : wp_93 rule m Q := by
  have e1 : (1 : Int32).toInt = 1 := rfl
  have em1 : (-1 : Int32).toInt = -1 := rfl
  have b := zB_v hJ.1
  have p6 : zv 2 3 8 m 5 6 = (m.1 3 5).toInt := rfl
  have lp : ∀ (n : Nat) (v2 v3 v4 v5 : Int32) (mj : zf_Me), -1 ≤ v5.toInt → v5.toInt ≤ (m.1 3 5).toInt → (m.1 3 5).toInt - v5.toInt < n → zq m mj → zN93 (zv 2 3 8 m) rule.toInt = (zbgl (zv 2 3 8 m) rule.toInt ((m.1 3 5).toInt - v5.toInt).toNat v5.toInt (v2.toInt, v3.toInt, v4.toInt)).1 → wq_93_24 rule Q n v2 v3 v4 v5 mj := by
    intro n
    induction n with
    | zero => intro v2 v3 v4 v5 mj h0 h1 h2; omega
    | succ n ih =>
      intro v2 v3 v4 v5 mj h0 h1 h2 hf hA
      have hB := zs_now hf hJ.1
      have hn := zq_now hf
      have py : (mj.1 3 5).toInt = (m.1 3 5).toInt := by rw [hf.1 3 (by omega)]
      refine ⟨fun g => K _ mj hf ?_, fun g => zs_7 (by decide) hB (fun m4 z4 f4 m5 q5 => ?_)⟩
      · rw [hA, show ((m.1 3 5).toInt - v5.toInt).toNat = 0 by omega]
        rfl
      · have s := fb_addI (x := v5) (y := 1) (by omega) (by omega)
        have w4 := zrs_w z4
        have f5 : zfR mj m5 := by
          rw [q5]
          exact zfr_u f4 (by omega)
        have c18 : m5.1 18 = m4.1 18 := by rw [q5]; exact zf_u1 (by decide)
        have r5 : zrs m5 = zbeg (zU (zv 2 3 8 m) 5 7 v5.toInt) := by
          unfold zrs zbeg
          rw [c18, w4.2.1, w4.2.2.1, w4.2.2.2, q5, zv_w2 zd19, w4.1, hn, zgr_u5]
          rfl
        refine zs_8 ?_ (fun m8 e8 f8 => ?_)
        · rw [r5]
          exact zRB_beg (zB_bag hJ.1 (by omega))
        · rw [r5] at e8
          have hh := zrs_h e8
          have f : zq m m8 := zfr_trans hf (zfr_trans (zfR_q f5) (zfR_q f8))
          rw [show ((m.1 3 5).toInt - v5.toInt).toNat = ((m.1 3 5).toInt - (v5 + 1).toInt).toNat + 1 by omega] at hA
          replace hA : zN93 (zv 2 3 8 m) rule.toInt = (zbgl (zv 2 3 8 m) rule.toInt ((m.1 3 5).toInt - (v5 + 1).toInt).toNat (v5.toInt + 1) (zbet v5.toInt ((zgo rule.toInt 60 (zbeg (zU (zv 2 3 8 m) 5 7 v5.toInt))).1 5 10) (zgo rule.toInt 60 (zbeg (zU (zv 2 3 8 m) 5 7 v5.toInt))).2.2.2 (v2.toInt, v3.toInt, v4.toInt))).1 := hA
          rw [show v5.toInt + 1 = (v5 + 1).toInt by omega, ← hh.1, ← hh.2.2.1] at hA
          refine zs_119 (fun x hx => ⟨fun e => ih _ _ _ _ m8 (by omega) (by omega) (by omega) f ?_, fun e => ih _ _ _ _ m8 (by omega) (by omega) (by omega) f ?_⟩)
          · rw [hA, show zbet v5.toInt (m8.1 19 10).toInt (m8.1 18 3).toInt (v2.toInt, v3.toInt, v4.toInt) = (v2.toInt, v3.toInt, v4.toInt) from if_neg (zno hx e)]
          · rw [hA, show zbet v5.toInt (m8.1 19 10).toInt (m8.1 18 3).toInt (v2.toInt, v3.toInt, v4.toInt) = (v5.toInt, (m8.1 19 10).toInt, (m8.1 18 3).toInt) from if_pos (hx.mp e)]
  refine zs_116 (fun g => ⟨fun _ => ⟨9, lp 9 _ _ _ (-1) m (by decide) (by omega) (by omega) zfr_refl ?_⟩, fun z => (nomatch z)⟩) (fun g => ⟨fun z => (nomatch z), fun _ => zC_q10 (by decide) K (if_pos (by omega))⟩)
  unfold zN93
  rw [if_neg (by omega), em1, p6, show ((m.1 3 5).toInt - -1).toNat = (m.1 3 5).toInt.toNat + 1 by omega]
  rfl
theorem zs_122x {w y r c r1 : Nat} (hp : 0 ≤ (m.1 y 5).toInt ∧ (m.1 y 5).toInt ≤ 6) {x : zHe} (el : ∀ i : Nat, (i : Int) < (m.1 y 5).toInt → zel x i = (Int64.toInt32 (m.2 r1 i)).toInt) {Q : Bool → zf_Me → Prop} (hq : Q (zfitB x (zv w y r m) (m.1 y 5).toInt.toNat) m) : wp_122 w y r c r1 m Q := by
  have e1 : (1 : Int32).toInt = 1 := rfl
  have lp : ∀ (n : Nat) (v2 : Int32), 0 ≤ v2.toInt → v2.toInt ≤ (m.1 y 5).toInt → (m.1 y 5).toInt - v2.toInt < n → zfitB x (zv w y r m) v2.toInt.toNat = true → wq_122_2 w y r c r1 Q n v2 m := by
    intro n
    induction n with
    | zero => intro v2 h0 h1 h2; omega
    | succ n ih =>
      intro v2 h0 h1 h2 hA
      refine ⟨fun g => ?_, fun g => ⟨by omega, ⟨by omega, by omega⟩, fun g2 => ?_, fun g2 => ?_⟩⟩
      · rw [show (m.1 y 5).toInt.toNat = v2.toInt.toNat by omega, hA] at hq
        exact hq
      · have s := fb_addI (x := v2) (y := 1) (by omega) (by omega)
        refine ih _ (by omega) (by omega) (by omega) ?_
        rw [show (v2 + 1).toInt.toNat = v2.toInt.toNat + 1 by omega]
        unfold zfitB
        rw [hA, Bool.true_and]
        refine decide_eq_true ?_
        rw [el _ (by omega), ← g2]
        exact zN_lt (by omega)
      · rw [zfitB_f (i := v2.toInt.toNat) (fun z => g2 ?_) _ (by omega)] at hq
        · exact hq
        · rw [el _ (by omega)] at z
          rw [← z]
          exact (zN_lt (by omega)).symm
  exact ⟨8, lp 8 0 (by decide) hp.1 (by show _ - (0 : Int) < 8; omega) rfl⟩
theorem zA_97 (hJ : JX m) {s : Int32} {Q : Int32 → zf_Me → Prop} (K : ∀ (v : Int32) (m' : zf_Me), zq m m' → v.toInt = zN97 (zhC m) (zv 2 3 8 m) s.toInt → Q v m') : wp_97 s m Q := by
  have e1 : (1 : Int32).toInt = 1 := rfl
  have b := zB_v hJ.1
  have p6 : zv 2 3 8 m 5 6 = (m.1 3 5).toInt := rfl
  refine zs_111x (fun x h => ⟨fun e => ?_, fun ne => zC_q (by have := zK_b (h := zhC m) (s := s.toInt); omega) K (by unfold zN97; rw [if_pos (by rw [← h]; exact ne), h])⟩)
  have h0 := h.symm.trans e
  obtain ⟨g, rr⟩ := zK_0.mp h0
  have c := zhC_c (m := m) (s := s.toInt.toNat) (by omega)
  have l := zhC_l (m := m) (s := s.toInt.toNat) (by omega) (by rw [← c]; exact rr)
  refine ⟨g, fun ge => ⟨6, ?_⟩, fun lt => zC_q (by decide) K ?_⟩
  · have u : zhC m s.toInt.toNat = ((m.1 (47 + 2 * s.toInt.toNat) 1).toInt, (m.1 (47 + 2 * s.toInt.toNat) 2).toInt, fun (k : Nat) => if (k : Int) < (m.1 (47 + 2 * s.toInt.toNat) 2).toInt then m.2 (48 + 2 * s.toInt.toNat) k else 0) := (zhC_at (m := m) (s := s.toInt.toNat) (by omega)).trans (if_pos (by rw [← c]; exact rr))
    have el : ∀ i : Nat, (i : Int) < (m.1 (47 + 2 * s.toInt.toNat) 2).toInt → zel (zhC m s.toInt.toNat) i = (Int64.toInt32 (m.2 (48 + 2 * s.toInt.toNat) i)).toInt := fun i hi => by
      unfold zel
      rw [u]
      show (Int64.toInt32 (if (i : Int) < _ then _ else _)).toInt = _
      rw [if_pos hi]
    have lp : ∀ (n : Nat) (v3 v4 : Int32) (mj : zf_Me), 0 ≤ v4.toInt → v4.toInt ≤ 4 → 4 - v4.toInt < n → zq m mj → v3 = Int32.ofNat (zfitb (zhC m s.toInt.toNat) (zv 2 3 8 m) v4.toInt.toNat) → wq_97_49 s Q n v3 v4 mj := by
      intro n
      induction n with
      | zero => intro v3 v4 mj h0 h1 h2; omega
      | succ n ih =>
        intro v3 v4 mj k0 k1 k2 hf hA
        have hB := zs_now hf hJ.1
        have lt := zfitb_lt (x := zhC m s.toInt.toNat) (f := zv 2 3 8 m) v4.toInt.toNat
        refine ⟨fun g3 => K _ mj hf ?_, fun g3 => zs_goE (zq_now hf) hJ.1 (fun m8 e8 f8 => ⟨g, ?_⟩)⟩
        · have v44 : v4.toInt.toNat = 4 := by omega
          rw [v44] at hA lt
          unfold zN97
          rw [if_neg (fun z => z h0), if_neg (by rw [l, p6]; omega), hA]
          exact zsmall _ lt
        · have q8 : (m8.1 3 5).toInt = (m.1 3 5).toInt := by rw [f8.1 3 (by decide), hf.1 3 (by omega)]
          have f : zq m m8 := zfr_trans hf (zfR_q f8)
          refine zs_122x (x := zhC m s.toInt.toNat) (by rw [q8]; omega) (fun i hi => ?_) ?_
          · rw [el i (by omega), f.2]
          · have t := fb_addI (x := v4) (y := 1) (by omega) (by omega)
            have n4 : (v4 + 1).toInt.toNat = v4.toInt.toNat + 1 := by omega
            have ee : zfitB (zhC m s.toInt.toNat) (zv 19 3 20 m8) (m8.1 3 5).toInt.toNat = zfitB (zhC m s.toInt.toNat) (zend (zv 2 3 8 m) (v4.toInt.toNat : Nat)).1 (zv 2 3 8 m 5 6).toNat := by
              rw [q8, p6, show ((v4.toInt.toNat : Nat) : Int) = v4.toInt by omega, ← e8]
              rfl
            rw [ee]
            have ev : v4 = Int32.ofNat v4.toInt.toNat := zn_of _ _ (by omega)
            refine ⟨fun eb => ih _ _ m8 (by omega) (by omega) (by omega) f ?_, fun eb => ih _ _ m8 (by omega) (by omega) (by omega) f ?_⟩
            · rw [n4]
              unfold zfitb
              rw [if_neg (by rw [eb]; decide)]
              exact hA
            · rw [n4]
              unfold zfitb
              rw [if_pos eb, hA]
              have o := zbits_or v4.toInt.toNat (by omega) _ lt
              rw [← ev] at o
              exact o
    exact lp 6 _ 0 m (by decide) (by decide) (by decide) zfr_refl rfl
  · unfold zN97
    rw [if_neg (fun z => z h0), if_pos (by rw [l, p6]; exact lt)]
    rfl
theorem zs_123x (hJ : JX m) {rule w : Int32} (hr : 0 ≤ rule.toInt ∧ rule.toInt ≤ 3) (hw : w.toInt = 2 ∨ w.toInt = 3) {Q : Int32 → zf_Me → Prop} (K : ∀ v m', zq m m' → v.toInt = zlst (zv 2 3 8 m) rule.toInt w.toInt.toNat (zhi w.toInt.toNat + 1 - zlo w.toInt.toNat).toNat (zlo w.toInt.toNat) → Q v m') : wp_123 rule w m Q := by
  have e1 : (1 : Int32).toInt = 1 := rfl
  have lo := zk_lo w.toInt.toNat (by omega)
  have bd : 0 ≤ zlo w.toInt.toNat ∧ zlo w.toInt.toNat ≤ 1 ∧ zhi w.toInt.toNat ≤ 99 ∧ 9 ≤ zhi w.toInt.toNat := by
    unfold zlo zhi
    split <;> split <;> omega
  have p5 : zv 2 3 8 m 5 5 = (m.1 3 4).toInt := rfl
  have lp : ∀ (n : Nat) (v3 : Int32) (mj : zf_Me), zlo w.toInt.toNat ≤ v3.toInt → v3.toInt ≤ zhi w.toInt.toNat + 1 → zhi w.toInt.toNat + 1 - v3.toInt < n → zq m mj → zlst (zv 2 3 8 m) rule.toInt w.toInt.toNat (zhi w.toInt.toNat + 1 - zlo w.toInt.toNat).toNat (zlo w.toInt.toNat) = zlst (zv 2 3 8 m) rule.toInt w.toInt.toNat (zhi w.toInt.toNat + 1 - v3.toInt).toNat v3.toInt → wq_123_6 rule w Q n v3 mj := by
    intro n
    induction n with
    | zero => intro v3 mj h0 h1 h2; omega
    | succ n ih =>
      intro v3 mj h0 h1 h2 hf hA
      have hB := zs_now hf hJ.1
      have hn := zq_now hf
      refine ⟨by omega, fun g => K _ mj hf ?_, fun g => zs_7 (by decide) hB (fun m2 z2 f2 => zs_46 zd19 (by omega) (fun m4 z4 f4 => ?_))⟩
      · rw [lo.2] at g
        rw [hA, show (zhi w.toInt.toNat + 1 - v3.toInt).toNat = 0 by omega]
        rfl
      · rw [lo.2] at g
        have t := fb_addI (x := v3) (y := 1) (by omega) (by omega)
        have w2 := zrs_w z2
        have c18 : m4.1 18 = m2.1 18 := f4.1 18 (by decide)
        have za : zask (zv 2 3 8 m) w.toInt.toNat v3.toInt = zU (zv 2 3 8 m) 5 w.toInt.toNat v3.toInt := if_neg (by omega)
        have r4 : zrs m4 = zbeg (zU (zv 2 3 8 m) 5 w.toInt.toNat v3.toInt) := by
          unfold zrs zbeg
          rw [c18, w2.2.1, w2.2.2.1, w2.2.2.2, z4, w2.1, hn, za, zgr_u5, show zU (zv 2 3 8 m) 5 w.toInt.toNat v3.toInt 5 6 = zv 2 3 8 m 5 6 from zU_o (by omega)]
        have rb : zRB (zrs m4) := by
          rw [r4, ← za]
          exact zRB_beg (zB_ask hJ.1 (by omega) ⟨h0, g⟩)
        refine zs_8 rb (fun m6 e6 f6 => zs_47 (fun b hb => ?_))
        rw [r4] at e6
        have hh := zrs_h e6
        have f : zq m m6 := zfr_trans hf (zfr_trans (zfR_q f2) (zfr_trans (zfr_mono f4 (fun a ha => by omega)) (zfR_q f6)))
        have q4 : (m6.1 3 4).toInt = (m.1 3 4).toInt := by rw [f.1 3 (by omega)]
        rw [hh.1, q4, ← p5] at hb
        rw [show (zhi w.toInt.toNat + 1 - v3.toInt).toNat = (zhi w.toInt.toNat + 1 - (v3 + 1).toInt).toNat + 1 by omega] at hA
        replace hA : zlst (zv 2 3 8 m) rule.toInt w.toInt.toNat (zhi w.toInt.toNat + 1 - zlo w.toInt.toNat).toNat (zlo w.toInt.toNat) = if ¬ (zgo rule.toInt 60 (zbeg (zU (zv 2 3 8 m) 5 w.toInt.toNat v3.toInt))).1 5 10 < zv 2 3 8 m 5 5 then v3.toInt else zlst (zv 2 3 8 m) rule.toInt w.toInt.toNat (zhi w.toInt.toNat + 1 - (v3 + 1).toInt).toNat (v3.toInt + 1) := hA
        refine ⟨fun e => ih _ m6 (by omega) (by omega) (by omega) f ?_, fun e => K _ m6 f ?_⟩
        · rw [hA, if_neg (zno hb e), show v3.toInt + 1 = (v3 + 1).toInt by omega]
        · rw [hA, if_pos (hb.mp e)]
  refine ⟨by omega, 102, lp 102 _ m (by rw [lo.1]; exact Int.le_refl _) (by rw [lo.1]; omega) (by rw [lo.1]; omega) zfr_refl (by rw [lo.1])⟩
theorem zA_98 (hJ : JX m) {Q : Int32 → zf_Me → Prop} (K : ∀ (v : Int32) (m' : zf_Me), zq m m' → v.toInt = zN98 (zv 2 3 8 m) → Q v m') : wp_98 m Q :=
  zs_123x (rule := 3) (w := 3) hJ (by decide) (by decide) (fun v m' f e => K v m' f e)
theorem zA_99 (hJ : JX m) {rule : Int32} {Q : Int32 → zf_Me → Prop} (K : ∀ (v : Int32) (m' : zf_Me), zq m m' → v.toInt = zN99 (zv 2 3 8 m) rule.toInt → Q v m') : wp_99 rule m Q :=
  zs_116 (fun g => ⟨fun z => (nomatch z), fun _ => zs_123x (rule := rule) (w := 2) hJ (by omega) (by decide) (fun v m' f e => K v m' f (by
    unfold zN99
    rw [if_neg (by omega)]
    exact e))⟩) (fun g => ⟨fun _ => zC_q10 (by decide) K (if_pos (by omega)), fun z => (nomatch z)⟩)
end
end
section
/-! part 85: what comes of rules, as functions: the reference -/
/-- worst x at least -/
def zmx (x : Int) (s : zRS) : zRS := (s.1, s.2.1, s.2.2.1, if s.2.2.2 < x then x else s.2.2.2)
theorem zmx_next {x : Int} {s : zRS} {rule a : Int} : znext (zmx x s) rule a = zmx x (znext s rule a) := by
  unfold znext zmx
  show (_, _, _, _) = (_, _, _, _)
  congr 3
  show (if (if s.2.2.2 < x then x else s.2.2.2) < zgr (zact s.1 a) (s.1 5 6).toNat then zgr (zact s.1 a) (s.1 5 6).toNat else (if s.2.2.2 < x then x else s.2.2.2)) = (if (if s.2.2.2 < zgr (zact s.1 a) (s.1 5 6).toNat then zgr (zact s.1 a) (s.1 5 6).toNat else s.2.2.2) < x then x else (if s.2.2.2 < zgr (zact s.1 a) (s.1 5 6).toNat then zgr (zact s.1 a) (s.1 5 6).toNat else s.2.2.2))
  generalize zgr (zact s.1 a) (s.1 5 6).toNat = g
  generalize s.2.2.2 = w
  repeat' split
  all_goals omega
theorem zmx_stp {x : Int} {s : zRS} {rule : Int} : zstp (zmx x s) rule = (zstp s rule).map (zmx x) := by
  have e : zstp (zmx x s) rule = if s.2.2.1 < 60 ∧ s.1 5 10 < s.1 5 5 ∧ ¬ zchoose s.1 rule s.2.1 = -1 then some (znext (zmx x s) rule (zchoose s.1 rule s.2.1)) else none := rfl
  rw [e, zmx_next]
  unfold zstp
  split <;> rfl
theorem zmx_go {x : Int} {rule : Int} : ∀ (n : Nat) (s : zRS), zgo rule n (zmx x s) = zmx x (zgo rule n s)
  | 0, _ => rfl
  | n + 1, s => by
    unfold zgo
    rw [zmx_stp]
    cases zstp s rule with
    | none => rfl
    | some s' => exact zmx_go n s'
theorem zgr_mono4 {f g : zS} : ∀ n, (∀ k, k < n → f 4 k ≤ g 4 k) → zgr f n ≤ zgr g n
  | 0, _ => Int.le_refl _
  | n + 1, h => by
    have i := zgr_mono4 n (fun k hk => h k (by omega))
    have j := h n (by omega)
    unfold zgr
    split <;> split <;> omega
theorem zpay_e {f : zS} (hB : zB f) (hm : zmay f 9) : (zact f 9, (0 : Int), (0 : Int), zgr f (f 5 6).toNat) = zmx (zgr f (f 5 6).toNat) (zbeg (zact f 9)) := by
  have b := hB.1
  have p : zact f 9 5 6 = f 5 6 := zact_people
  have le : zgr (zact f 9) (zact f 9 5 6).toNat ≤ zgr f (f 5 6).toNat := by
    rw [p]
    refine zgr_mono4 _ (fun k hk => ?_)
    have b3 := hB.2.2 k (by omega)
    have e : zact f 9 = zresta f := rfl
    rw [e]
    unfold zresta zrestA
    show (if 4 = 4 ∧ k < _ then (if 0 < f 4 k - 6 then f 4 k - 6 else 0) else f 4 k) ≤ f 4 k
    split
    · split <;> omega
    · exact Int.le_refl _
  unfold zmx zbeg
  show (_, _, _, _) = (_, _, _, (if zgr (zact f 9) (zact f 9 5 6).toNat < zgr f (f 5 6).toNat then zgr f (f 5 6).toNat else zgr (zact f 9) (zact f 9 5 6).toNat))
  congr 3
  split <;> omega
section
variable {m : zf_Me}
theorem zs_trE {F : zS} (hF : zr m = F) (hB : zB F) {rule : Int32} (hr : 0 ≤ rule.toInt ∧ rule.toInt ≤ 3) {Q : zf_Me → Prop} (hq : ∀ m4, zgL m m4 → zrm m4 = zend F rule.toInt → zB (zr m4) → (∀ {R : zf_Me → Prop}, (∀ m6, zgL m m6 → zr m6 = F → (m6.1 63 47).toInt = (zend F rule.toInt).1 5 10 → (m6.1 63 48).toInt = (zend F rule.toInt).1 5 11 → (m6.1 63 49).toInt = (zend F rule.toInt).2.2.2 → R m6) → wp_182 m4 R) → Q m4) : wp_181 rule m Q := by
  subst hF
  exact zs_tr hB hr (fun m4 f4 e4 b4 l => hq m4 f4 e4 b4 (fun k => l (fun m6 f6 z6 a b c => k m6 f6 z6 (by rw [a, ← show zrm m4 = zend (zr m) rule.toInt from e4]; rfl) (by rw [b, ← show zrm m4 = zend (zr m) rule.toInt from e4]; rfl) (by rw [c, ← show zrm m4 = zend (zr m) rule.toInt from e4]; rfl))))
theorem zrm_h {s : zRS} (e : zrm m = s) : (m.1 63 10).toInt = s.1 5 10 ∧ (m.1 63 11).toInt = s.1 5 11 ∧ (m.1 63 45).toInt = s.2.2.2 ∧ (m.1 63 46).toInt = s.2.2.1 := by
  rw [← e]
  exact ⟨rfl, rfl, rfl, rfl⟩
theorem zG_183 (hJ : JM m) {rule q : Int32} {Q : Int32 → zf_Me → Prop} (K : ∀ (v : Int32) (m' : zf_Me), zgQ m m' → zr m' = zr m → v.toInt = zN88 (zr m) rule.toInt q.toInt → Q v m') : wp_183 rule q m Q := by
  have b := zB_r hJ.1
  have e10 : (10 : Int32).toInt = 10 := rfl
  have p6 : zr m 5 6 = (m.1 63 1).toInt := rfl
  have no : ¬ ((0 ≤ q.toInt ∧ q.toInt ≤ 3) ∨ (10 ≤ q.toInt ∧ q.toInt - 10 < (m.1 63 1).toInt)) → wp_125 (-5) m (fun x m' => Q x m') := fun g => zR_q (by decide) K (if_pos g)
  have t27 : (0 ≤ q.toInt ∧ q.toInt ≤ 3) ∨ ((10 ≤ q.toInt ∧ q.toInt - 10 < (m.1 63 1).toInt) ∧ (q - 10).toInt = q.toInt - 10) → wq_183_27 rule q m Q := by
    intro h
    refine zs_180 (fun g => ⟨fun _ => zs_trE rfl hJ.1 g (fun m4 f4 e4 _ l => ?_), fun z => (nomatch z)⟩) (fun g => ⟨fun z => (nomatch z), fun _ => zR_q (by decide) K ?_⟩)
    · have hh := zrm_h e4
      have N : ∀ r, zsel (zend (zr m) rule.toInt) q.toInt = r → r = zN88 (zr m) rule.toInt q.toInt := fun r hr => by
        unfold zN88
        rw [if_neg (by omega), if_neg (by omega)]
        exact hr.symm
      unfold zsel at N
      have L : ∀ u : Int32, u.toInt = zN88 (zr m) rule.toInt q.toInt → wp_182 m4 (fun m' => Q u m') := fun u hu => l (fun m6 f6 z6 _ _ _ => K _ m6 (zgL_q f6) z6 hu)
      refine ⟨fun h0 => ⟨fun h1 => ⟨fun h2 => ⟨fun h3 => ⟨by omega, L _ (N _ ?_)⟩, fun o => L _ (N _ ?_)⟩, fun o => L _ (N _ ?_)⟩, fun o => L _ (N _ ?_)⟩, fun o => L _ (N _ ?_)⟩
      · have s : (q - 10).toInt = q.toInt - 10 := by omega
        rw [if_neg h0, if_neg h1, if_neg h2, if_neg h3, ← e4, ← s]
        exact zN_lt (by omega)
      · rw [if_neg h0, if_neg h1, if_neg h2, if_pos o]
        exact hh.2.2.2.symm
      · rw [if_neg h0, if_neg h1, if_pos o]
        exact hh.2.2.1.symm
      · rw [if_neg h0, if_pos o]
        exact hh.2.1.symm
      · rw [if_pos o]
        exact hh.1.symm
    · unfold zN88
      rw [if_neg (by omega), if_pos g]
      rfl
  refine ⟨fun g => no (by omega), fun g0 => ⟨fun g3 => t27 (Or.inl ⟨g0, g3⟩), fun g3 => ?_⟩⟩
  have rq := fb_rng q
  have s := fb_subI (x := q) (y := 10) (by omega) (by omega)
  exact zs_128 (fun g => ⟨fun _ => t27 (Or.inr (by omega)), fun z => (nomatch z)⟩) (fun g => ⟨fun z => (nomatch z), fun _ => no (by omega)⟩)
theorem zG_184 (hJ : JM m) {w : Int32} {Q : Int32 → zf_Me → Prop} (K : ∀ (v : Int32) (m' : zf_Me), zgQ m m' → zr m' = zr m → v.toInt = zN89 (zr m) w.toInt → Q v m') : wp_184 w m Q := by
  have e1 : (1 : Int32).toInt = 1 := rfl
  have em1 : (-1 : Int32).toInt = -1 := rfl
  have lp : (0 ≤ w.toInt ∧ w.toInt ≤ 1) → ∀ (n : Nat) (v2 v3 v4 v5 : Int32) (mj : zf_Me) (s : Int × Int × Int), 0 ≤ v5.toInt → v5.toInt ≤ 4 → 4 - v5.toInt < n → zgL m mj → zr mj = zr m → zN89 (zr m) w.toInt = (zbst (zr m) w.toInt (4 - v5.toInt).toNat v5.toInt s).1 → (v2.toInt = -1 ∧ v5.toInt = 0 ∧ s = (0, -1, 0) ∨ ¬ v2.toInt = -1 ∧ s = (v2.toInt, v3.toInt, v4.toInt)) → wq_184_26 w Q n v2 v3 v4 v5 mj := by
    intro hw n
    induction n with
    | zero => intro v2 v3 v4 v5 mj s h0 h1 h2; omega
    | succ n ih =>
      intro v2 v3 v4 v5 mj s h0 h1 h2 hf hz hA hs
      refine ⟨fun g => K _ mj (zgL_q hf) hz ?_, fun g => zs_trE hz hJ.1 (by omega) (fun m4 f4 e4 b4 l => l (fun m6 f6 z6 a7 a8 a9 => ?_))⟩
      · rcases hs with hs | hs
        · omega
        · rw [hA, show (4 - v5.toInt).toNat = 0 by omega, hs.2]
          rfl
      · have t := fb_addI (x := v5) (y := 1) (by omega) (by omega)
        have n5 : v5.toInt + 1 = (v5 + 1).toInt := by omega
        have pos : 0 ≤ (m6.1 63 47).toInt := by
          have := b4.1
          have h4 := zrm_h e4
          have z : zr m4 5 10 = (m4.1 63 10).toInt := rfl
          rw [a7, ← h4.1]
          omega
        rw [show (4 - v5.toInt).toNat = (4 - (v5 + 1).toInt).toNat + 1 by omega] at hA
        replace hA : zN89 (zr m) w.toInt = (zbst (zr m) w.toInt (4 - (v5 + 1).toInt).toNat (v5.toInt + 1) (zbet v5.toInt ((zend (zr m) v5.toInt).1 5 10) (if w.toInt = 0 then (zend (zr m) v5.toInt).2.2.2 else (zend (zr m) v5.toInt).1 5 11) s)).1 := hA
        rw [n5, ← a7] at hA
        have T : ∀ u : Int32, u.toInt = (if w.toInt = 0 then (zend (zr m) v5.toInt).2.2.2 else (zend (zr m) v5.toInt).1 5 11) → wq_184_57 w (wq_184_26 w Q n) v2 v3 v4 v5 u m6 Q := fun u hu => by
          rw [← hu] at hA
          have take : (s.2.1 < (m6.1 63 47).toInt ∨ ((m6.1 63 47).toInt = s.2.1 ∧ u.toInt < s.2.2)) → wq_184_26 w Q n v5 (m6.1 63 47) u (v5 + 1) m6 := fun c => ih v5 _ _ _ m6 (v5.toInt, (m6.1 63 47).toInt, u.toInt) (by omega) (by omega) (by omega) (zgL_t hf f6) z6 (by rw [hA, show zbet v5.toInt (m6.1 63 47).toInt u.toInt s = (v5.toInt, (m6.1 63 47).toInt, u.toInt) from if_pos c]) (Or.inr ⟨by omega, rfl⟩)
          have skip : ¬ v2.toInt = -1 → ¬ (v3.toInt < (m6.1 63 47).toInt ∨ ((m6.1 63 47).toInt = v3.toInt ∧ u.toInt < v4.toInt)) → wq_184_26 w Q n v2 v3 v4 (v5 + 1) m6 := fun nn c => by
            have s2 := (hs.resolve_left (fun z => nn z.1)).2
            refine ih v2 v3 v4 _ m6 s (by omega) (by omega) (by omega) (zgL_t hf f6) z6 ?_ (Or.inr ⟨nn, s2⟩)
            rw [hA, show zbet v5.toInt (m6.1 63 47).toInt u.toInt s = s from if_neg (by rw [s2]; exact c)]
          have tk2 : ¬ v2.toInt = -1 → (v3.toInt < (m6.1 63 47).toInt ∨ ((m6.1 63 47).toInt = v3.toInt ∧ u.toInt < v4.toInt)) → wq_184_26 w Q n v5 (m6.1 63 47) u (v5 + 1) m6 := fun nn c => take (by
            have s2 := (hs.resolve_left (fun z => nn z.1)).2
            rw [s2]
            exact c)
          refine ⟨fun e => take ?_, fun nn => ⟨fun lt => skip nn (by omega), fun ge => ⟨fun ne => tk2 nn (by omega), fun eq => ⟨fun lt2 => tk2 nn (by omega), fun ge2 => skip nn (by omega)⟩⟩⟩⟩
          have s1 := (hs.resolve_right (fun z => z.1 e)).2.2
          rw [s1]
          exact Or.inl (by show (-1 : Int) < _; omega)
        exact ⟨fun o => T _ (by rw [if_neg o]; exact a8), fun o => T _ (by rw [if_pos o]; exact a9)⟩
  refine ⟨fun g => zR_q (by decide) K (if_pos (Or.inl g)), fun g => ⟨fun g2 => ⟨6, lp ⟨g, g2⟩ 6 _ _ _ 0 m (0, -1, 0) (by decide) (by decide) (by decide) zgr_refl rfl ?_ (Or.inl ⟨rfl, rfl, rfl⟩)⟩, fun g2 => zR_q (by decide) K (if_pos (Or.inr g2))⟩⟩
  unfold zN89
  rw [if_neg (by omega)]
  rfl
theorem zG_186 (hJ : JM m) {rule t : Int32} {Q : Int32 → zf_Me → Prop} (K : ∀ (v : Int32) (m' : zf_Me), zgQ m m' → zr m' = zr m → Q v m') : wp_186 rule t m Q := by
  have R : ∀ {w : Int32}, (-8 < w.toInt ∧ w.toInt ≤ 0) → wp_126 w m Q := fun hw => zs_126 hw (fun m' f => K _ m' (zg64_q f) (zg64_r f))
  refine zs_180 (fun hr => ⟨fun z => (nomatch z), fun _ => ⟨fun g => ?_, fun _ => R (by decide)⟩⟩) (fun _ => ⟨fun _ => R (by decide), fun z => (nomatch z)⟩)
  refine zs_161s (by decide) rfl (by decide) (fun m2 s2 f2 z2 => zs_178 (by rw [z2]; exact hJ.1) (fun m4 z4 f4 y4 => ?_))
  rw [z2] at z4 y4
  have A4 : zA 81 0 m4 = zr m := by
    rw [zA_of f4 (fun k => by omega)]
    exact s2
  have F4 : zgL m m4 := zgr_trans (zgr_mono f2 (fun a k h => by omega)) (zgr_mono f4 (fun a k h => by omega))
  have fin : ∀ (n : Nat) (v3 v4 : Int32) (mj : zf_Me), zgL m mj → zA 81 0 mj = zr m → wq_186_44 rule t Q (n + 1) v3 v4 0 mj := fun n v3 v4 mj h3 h4 =>
    ⟨fun _ => zs_182 (fun m6 z6 f6 => K _ m6 (zgr_trans (zgL_q h3) (zgc_q f6)) (by rw [z6, h4])), fun z => absurd rfl z⟩
  have lp : ∀ (n : Nat) (v3 v4 v5 : Int32) (mj : zf_Me), zRB (zrm mj) → 60 - (zrm mj).2.2.1 + 1 < n → zgL m mj → zA 81 0 mj = zr m → wq_186_44 rule t Q n v3 v4 v5 mj := by
    intro n
    induction n with
    | zero =>
      intro v3 v4 v5 mj h1 h2
      have := h1.2.2.1
      omega
    | succ n ih =>
      intro v3 v4 v5 mj h1 h2 h3 h4
      have nb := h1.2.2.1
      have go : ∀ v3' v4', wp_179 rule mj (fun b11 m12 => wq_186_44 rule t Q n v3' v4' (zb b11) m12) := by
        intro v3' v4'
        refine zs_179 h1 hr (fun b m' y1 n1 f1 => ?_)
        have F' : zgL m m' := zgr_trans h3 (zgr_mono f1 (fun a k h => by omega))
        have A' : zA 81 0 m' = zr m := by
          rw [zA_of f1 (fun k => by omega)]
          exact h4
        cases b with
        | true =>
          have z := y1 rfl
          have rb := zRB_stp h1 z
          have acts : (zrm m').2.2.1 = (zrm mj).2.2.1 + 1 ∧ (zrm mj).2.2.1 < 60 := by
            have z2 := z
            unfold zstp at z2
            split at z2
            · rename_i g
              have := Option.some.inj z2
              rw [← this]
              exact ⟨rfl, g.1⟩
            · cases z2
          exact ih _ _ _ m' rb (by omega) F' A'
        | false =>
          obtain ⟨k, rfl⟩ : ∃ k, n = k + 1 := ⟨n - 1, by omega⟩
          exact fin k _ _ m' F' A'
      exact ⟨fun _ => zs_182 (fun m6 z6 f6 => K _ m6 (zgr_trans (zgL_q h3) (zgc_q f6)) (by rw [z6, h4])), fun _ => ⟨fun _ => go _ _, fun _ => go _ _⟩⟩
  exact ⟨63, lp 63 _ _ _ m4 (by rw [z4]; exact zRB_beg hJ.1) (by rw [z4]; show (60 : Int) - 0 + 1 < 63; decide) F4 A4⟩
theorem zG_187 (hJ : JM m) {rule : Int32} {Q : Int32 → zf_Me → Prop} (K : ∀ (v : Int32) (m' : zf_Me), zgQ m m' → zr m' = zr m → v.toInt = zN92 (zr m) rule.toInt → Q v m') : wp_187 rule m Q := by
  have e9 : (9 : Int32).toInt = 9 := rfl
  refine zs_180 (fun hr => ⟨fun _ => zs_167 hJ.1 (by decide) (fun b hb => ⟨fun e => ?_, fun e => K _ m zgr_refl rfl ?_⟩), fun z => (nomatch z)⟩) (fun g => ⟨fun z => (nomatch z), fun _ => zR_q (by decide) K (if_pos g)⟩)
  · have hm : zmay (zr m) 9 := hb.mp e
    refine zs_trE rfl hJ.1 hr (fun m4 f4 _ _ l => l (fun m8 f8 z8 a7 _ a9 => ?_))
    have B8 : zB (zr m8) := by rw [z8]; exact hJ.1
    refine zs_170 B8 (fun x9 h9 => zs_161s (by decide) rfl (by decide) (fun m12 a12 f12 z12 => ?_))
    have a12' : zA 79 0 m12 = zr m8 := a12
    have B12 : zB (zr m12) := by rw [z12]; exact B8
    have M12 : zmay (zr m12) (9 : Int32).toInt := by rw [z12, z8]; exact hm
    refine zs_169 B12 (by decide) M12 (fun m14 z14 f14 => ?_)
    have z14' : zr m14 = zact (zr m) 9 := by rw [z14, z12, z8]; rfl
    have B14 : zB (zact (zr m) 9) := zB_act hJ.1 hm
    refine zs_181 (by rw [z14']; exact B14) hr (fun m16 e16 _ f16 b7 _ b9 => zs_161b (by decide) (by decide) (by decide) (fun m18 z18 f18 => ?_))
    have z18' : zr m18 = zA 79 0 m16 := z18
    have Z18 : zr m18 = zr m := by
      rw [z18', zA_of f16 (fun k => by omega), zA_of f14 (fun k => by omega), a12', z8]
    have F : zgQ m m18 := zgr_trans (zgL_q f8) (zgr_trans (zgr_mono f12 (fun a k z => by omega)) (zgr_trans (zgc_q f14) (zgr_trans (zgL_q f16) (zgc_q f18))))
    have hh := zrm_h e16
    rw [z14'] at hh
    have c47 : (m18.1 63 47).toInt = (zgo rule.toInt 60 (zbeg (zact (zr m) 9))).1 5 10 := by rw [f18.1 63 47 (by omega), b7]; exact hh.1
    have c49 : (m18.1 63 49).toInt = (zgo rule.toInt 60 (zbeg (zact (zr m) 9))).2.2.2 := by rw [f18.1 63 49 (by omega), b9]; exact hh.2.2.1
    have g9 : x9.toInt = zgr (zr m) (zr m 5 6).toNat := by
      rw [h9, ← z8]
      rfl
    have E : ∀ u : Int32, u.toInt = (if (m18.1 63 49).toInt < x9.toInt then x9.toInt else (m18.1 63 49).toInt) → wq_187_100 rule (m8.1 63 47) (m8.1 63 49) u m18 Q := fun u hu => by
      have N : zN92 (zr m) rule.toInt = if (m8.1 63 47).toInt < (m18.1 63 47).toInt ∨ ((m18.1 63 47).toInt = (m8.1 63 47).toInt ∧ u.toInt < (m8.1 63 49).toInt) then 1 else 0 := by
        unfold zN92
        rw [if_neg (fun z => z hr), if_neg (fun z => z hm), zpay_e hJ.1 hm, zmx_go, ← a7, ← a9]
        have k : (zmx (zgr (zr m) (zr m 5 6).toNat) (zgo rule.toInt 60 (zbeg (zact (zr m) 9)))).2.2.2 = u.toInt := by
          rw [hu, g9, c49]
          rfl
        have k1 : (zmx (zgr (zr m) (zr m 5 6).toNat) (zgo rule.toInt 60 (zbeg (zact (zr m) 9)))).1 5 10 = (m18.1 63 47).toInt := by
          rw [c47]
          rfl
        rw [k, k1]
      refine ⟨fun gt => K _ m18 F Z18 ?_, fun le => ⟨fun ne => K _ m18 F Z18 ?_, fun eq => ⟨fun ge => K _ m18 F Z18 ?_, fun lt => K _ m18 F Z18 ?_⟩⟩⟩
      · rw [N, if_pos (by omega)]
        rfl
      · rw [N, if_neg (by omega)]
        rfl
      · rw [N, if_neg (by omega)]
        rfl
      · rw [N, if_pos (by omega)]
        rfl
    refine ⟨fun le => E _ ?_, fun gt => E _ ?_⟩
    · split <;> omega
    · split <;> omega
  · have hn : ¬ zmay (zr m) 9 := zno hb e
    unfold zN92
    rw [if_neg (fun z => z hr), if_pos hn]
    rfl
theorem zG_188 (hJ : JM m) {rule : Int32} {Q : Int32 → zf_Me → Prop} (K : ∀ (v : Int32) (m' : zf_Me), zgQ m m' → zr m' = zr m → v.toInt = zN93 (zr m) rule.toInt → Q v m') : wp_188 rule m Q := by
  have e1 : (1 : Int32).toInt = 1 := rfl
  have em1 : (-1 : Int32).toInt = -1 := rfl
  have b := zB_r hJ.1
  have p6 : zr m 5 6 = (m.1 63 1).toInt := rfl
  have p7 : zr m 5 7 = (m.1 63 2).toInt := rfl
  refine zs_180 (fun hr => ⟨fun _ => ?_, fun z => (nomatch z)⟩) (fun g => ⟨fun z => (nomatch z), fun _ => zR_q10 (by decide) K (if_pos g)⟩)
  have UU : ∀ x y : Int, zU (zU (zr m) 5 7 x) 5 7 y = zU (zr m) 5 7 y := fun x y => by
    funext c k
    unfold zU
    split <;> rfl
  have lp : ∀ (n : Nat) (v3 v4 v5 v6 : Int32) (mj : zf_Me) (u : Int), -1 ≤ v6.toInt → v6.toInt ≤ (m.1 63 1).toInt → (m.1 63 1).toInt - v6.toInt < n → zgL m mj → zr mj = zU (zr m) 5 7 u → (v4.toInt = -1 → v6.toInt = -1) → zN93 (zr m) rule.toInt = (zbgl (zr m) rule.toInt ((m.1 63 1).toInt - v6.toInt).toNat v6.toInt (v3.toInt, v4.toInt, v5.toInt)).1 → wq_188_31 rule Q n (m.1 63 2) v3 v4 v5 v6 mj := by
    intro n
    induction n with
    | zero => intro v3 v4 v5 v6 mj u h0 h1 h2; omega
    | succ n ih =>
      intro v3 v4 v5 v6 mj u h0 h1 h2 hf hz h4 hA
      have hp : (mj.1 63 1).toInt = (m.1 63 1).toInt := by
        have : zr mj 5 6 = zr m 5 6 := by rw [hz]; exact zU_o (by omega)
        exact this
      refine ⟨fun g m3 q3 => K _ m3 ?_ ?_ ?_, fun g m5 q5 => ?_⟩
      · rw [q3]
        exact zgr_u (zgL_q hf) (by omega)
      · rw [q3, zr_w2, hz, UU, ← p7]
        exact zU_id
      · rw [hA, show ((m.1 63 1).toInt - v6.toInt).toNat = 0 by omega]
        rfl
      · have F5 : zgL m m5 := by
          rw [q5]
          exact zgr_u hf (by omega)
        have z5 : zr m5 = zU (zr m) 5 7 v6.toInt := by rw [q5, zr_w2, hz, UU]
        refine zs_trE z5 (zB_bag hJ.1 (by omega)) hr (fun m8 f8 e8 b8 l => l (fun m10 f10 z10 a7 _ a9 => ?_))
        have t := fb_addI (x := v6) (y := 1) (by omega) (by omega)
        have pos : 0 ≤ (m10.1 63 47).toInt := by
          have := b8.1
          have h8 := zrm_h e8
          have z : zr m8 5 10 = (m8.1 63 10).toInt := rfl
          rw [a7, ← h8.1]
          omega
        rw [show ((m.1 63 1).toInt - v6.toInt).toNat = ((m.1 63 1).toInt - (v6 + 1).toInt).toNat + 1 by omega] at hA
        replace hA : zN93 (zr m) rule.toInt = (zbgl (zr m) rule.toInt ((m.1 63 1).toInt - (v6 + 1).toInt).toNat (v6.toInt + 1) (zbet v6.toInt ((zend (zU (zr m) 5 7 v6.toInt) rule.toInt).1 5 10) (zend (zU (zr m) 5 7 v6.toInt) rule.toInt).2.2.2 (v3.toInt, v4.toInt, v5.toInt))).1 := hA
        rw [show v6.toInt + 1 = (v6 + 1).toInt by omega, ← a7, ← a9] at hA
        have take : (v4.toInt < (m10.1 63 47).toInt ∨ ((m10.1 63 47).toInt = v4.toInt ∧ (m10.1 63 49).toInt < v5.toInt)) → wq_188_31 rule Q n (m.1 63 2) v6 (m10.1 63 47) (m10.1 63 49) (v6 + 1) m10 := fun c => ih _ _ _ _ m10 v6.toInt (by omega) (by omega) (by omega) (zgL_t F5 f10) z10 (by omega) (by rw [hA, show zbet v6.toInt (m10.1 63 47).toInt (m10.1 63 49).toInt (v3.toInt, v4.toInt, v5.toInt) = (v6.toInt, (m10.1 63 47).toInt, (m10.1 63 49).toInt) from if_pos c])
        have skip : ¬ v4.toInt = -1 → ¬ (v4.toInt < (m10.1 63 47).toInt ∨ ((m10.1 63 47).toInt = v4.toInt ∧ (m10.1 63 49).toInt < v5.toInt)) → wq_188_31 rule Q n (m.1 63 2) v3 v4 v5 (v6 + 1) m10 := fun nn c => ih _ _ _ _ m10 v6.toInt (by omega) (by omega) (by omega) (zgL_t F5 f10) z10 (fun z => absurd z nn) (by rw [hA, show zbet v6.toInt (m10.1 63 47).toInt (m10.1 63 49).toInt (v3.toInt, v4.toInt, v5.toInt) = (v3.toInt, v4.toInt, v5.toInt) from if_neg c])
        exact ⟨fun e => take (by omega), fun nn => ⟨fun lt => skip nn (by omega), fun ge => ⟨fun ne => take (by omega), fun eq => ⟨fun lt2 => take (by omega), fun ge2 => skip nn (by omega)⟩⟩⟩⟩
  refine ⟨9, lp 9 _ _ _ (-1) m (zr m 5 7) (by decide) (by omega) (by omega) zgr_refl zU_id.symm (fun _ => rfl) ?_⟩
  unfold zN93
  rw [if_neg (fun z => z hr), em1, p6, show ((m.1 63 1).toInt - -1).toNat = (m.1 63 1).toInt.toNat + 1 by omega]
  rfl
theorem zG_194 (hJ : JM m) (ho : zso m) {s : Int32} {Q : Int32 → zf_Me → Prop} (K : ∀ (v : Int32) (m' : zf_Me), zgQ m m' → zr m' = zr m → v.toInt = zN97 (zhR m) (zr m) s.toInt → Q v m') : wp_194 s m Q := by
  have e1 : (1 : Int32).toInt = 1 := rfl
  have e0 : (0 : Int32).toInt = 0 := rfl
  have em5 : (-5 : Int32).toInt = -5 := rfl
  have bz := zB_r hJ.1
  have p6 : zr m 5 6 = (m.1 63 1).toInt := rfl
  refine zs_137x hJ ho (fun x h => ⟨fun ne => ⟨fun z => absurd z ne, fun _ => zR_q (by have := zK_b (h := zhR m) (s := s.toInt); omega) K (by unfold zN97; rw [if_pos (by omega), h])⟩, fun e => ?_⟩)
  have h0 : zK (zhR m) s.toInt = 0 := by omega
  obtain ⟨g, rr⟩ := zK_0.mp h0
  have bs := hJ.2.1 s.toInt.toNat (by omega)
  have kk := zhR_k hJ ho (s := s.toInt.toNat) (by omega)
  have k1 : (m.1 70 s.toInt.toNat).toInt = 1 := by
    by_cases e2 : (m.1 70 s.toInt.toNat).toInt = 2
    · have := kk.2.1 e2
      omega
    · by_cases e3 : (m.1 70 s.toInt.toNat).toInt = 0
      · have := kk.2.2 e3
        omega
      · omega
  have k := kk.1 k1
  refine ⟨g, fun le => ⟨fun _ => ⟨6, ?_⟩, fun z => absurd e z⟩, fun gt => ⟨fun z => absurd z (by decide), fun _ => zR_q (by decide) K ?_⟩⟩
  · have el : ∀ i : Nat, (i : Int) < (m.1 72 s.toInt.toNat).toInt → zel (zhR m s.toInt.toNat) i = (Int64.toInt32 (m.2 74 (160 * s.toInt.toNat + i))).toInt := fun i hi => by
      unfold zel
      rw [k.2.2.2 i hi]
    have lp : ∀ (n : Nat) (v3 v4 : Int32) (mj : zf_Me), 0 ≤ v4.toInt → v4.toInt ≤ 4 → 4 - v4.toInt < n → zgL m mj → zr mj = zr m → v3 = Int32.ofNat (zfitb (zhR m s.toInt.toNat) (zr m) v4.toInt.toNat) → wq_194_41 s Q n v3 v4 mj := by
      intro n
      induction n with
      | zero => intro v3 v4 mj h0 h1 h2; omega
      | succ n ih =>
        intro v3 v4 mj k0 k1 k2 hf hz hA
        have lt := zfitb_lt (x := zhR m s.toInt.toNat) (f := zr m) v4.toInt.toNat
        refine ⟨fun g3 => K _ mj (zgL_q hf) hz ?_, fun g3 => zs_trE hz hJ.1 (by omega) (fun m4 f4 e4 B4 l => ?_)⟩
        · have v44 : v4.toInt.toNat = 4 := by omega
          rw [v44] at hA lt
          unfold zN97
          rw [if_neg (fun z => z h0), if_neg (by rw [k.2.1, p6]; omega), hA]
          exact zsmall _ lt
        · have t := fb_addI (x := v4) (y := 1) (by omega) (by omega)
          have n4 : (v4 + 1).toInt.toNat = v4.toInt.toNat + 1 := by omega
          have ev : v4 = Int32.ofNat v4.toInt.toNat := zn_of _ _ (by omega)
          have z4 : zr m4 = (zend (zr m) v4.toInt).1 := by rw [← e4]; rfl
          have pe : (m4.1 63 1).toInt = (m.1 63 1).toInt := by
            have : zr m4 5 6 = zr m 5 6 := by
              rw [z4]
              exact zgo_peo 60 _
            exact this
          have lp2 : ∀ (kx : Nat) (v5 v6 : Int32), 0 ≤ v6.toInt → v6.toInt ≤ (m.1 63 1).toInt → (m.1 63 1).toInt - v6.toInt < kx → (¬ v5.toInt = 0 ↔ zfitB (zhR m s.toInt.toNat) (zr m4) v6.toInt.toNat = true) → wq_194_59 s (wq_194_41 s Q n) Q kx v3 v4 v5 v6 m4 := by
            intro kx
            induction kx with
            | zero => intro v5 v6 k0 k1 k2; omega
            | succ kx ik =>
              intro v5 v6 k0 k1 k2 hv
              refine ⟨fun g6 => l (fun m6 f6 z6 _ _ _ => ?_), fun g6 => ⟨by omega, ?_⟩⟩
              · have ee : zfitB (zhR m s.toInt.toNat) (zend (zr m) (v4.toInt.toNat : Nat)).1 (zr m 5 6).toNat = zfitB (zhR m s.toInt.toNat) (zr m4) v6.toInt.toNat := by
                  rw [show ((v4.toInt.toNat : Nat) : Int) = v4.toInt by omega, z4, p6, show v6.toInt.toNat = (m.1 63 1).toInt.toNat by omega]
                refine ⟨fun e5 => ih _ _ m6 (by omega) (by omega) (by omega) (zgL_t hf f6) z6 ?_, fun e5 => ih _ _ m6 (by omega) (by omega) (by omega) (zgL_t hf f6) z6 ?_⟩
                · rw [n4]
                  unfold zfitb
                  rw [if_neg (by rw [ee]; exact fun z => hv.mpr z e5)]
                  exact hA
                · rw [n4]
                  unfold zfitb
                  rw [if_pos (by rw [ee]; exact hv.mp e5), hA]
                  have o := zbits_or v4.toInt.toNat (by omega) _ lt
                  rw [← ev] at o
                  exact o
              · have x := zix (s := s) (i := v6) g (by omega)
                have t6 := fb_addI (x := v6) (y := 1) (by omega) (by omega)
                have n6 : (v6 + 1).toInt.toNat = v6.toInt.toNat + 1 := by omega
                have ei : (160 * s + v6).toInt.toNat = 160 * s.toInt.toNat + v6.toInt.toNat := by omega
                have l4 : m4.2 = m.2 := f4.2.trans hf.2
                have E6 : (Int64.toInt32 (m4.2 74 (160 * s + v6).toInt.toNat)).toInt = zel (zhR m s.toInt.toNat) v6.toInt.toNat := by
                  rw [l4, ei, el _ (by omega)]
                have T6 : zr m4 4 v6.toInt.toNat = (m4.1 69 v6.toInt.toNat).toInt := zN_lt (by omega)
                refine ⟨by omega, fun eq => ik _ _ (by omega) (by omega) (by omega) ?_, fun ne => ik _ _ (by omega) (by omega) (by omega) ?_⟩
                · rw [n6]
                  unfold zfitB
                  rw [decide_eq_true (by rw [T6, ← E6]; exact eq), Bool.and_true]
                  exact hv
                · rw [zfitB_f (i := v6.toInt.toNat) (fun z => ne (by rw [E6, ← z, T6])) _ (by omega)]
                  exact iff_of_false (fun z => z e0) (by decide)
          exact ⟨8, lp2 8 _ 0 (by decide) (by show (0 : Int) ≤ _; omega) (by show (m.1 63 1).toInt - (0 : Int) < _; omega) (iff_of_true (by decide) rfl)⟩
    exact lp 6 _ 0 m (by decide) (by decide) (by decide) zgr_refl rfl rfl
  · unfold zN97
    rw [if_neg (fun z => z h0), if_pos (by rw [k.2.1, p6]; omega)]
    rfl
theorem zG_195 (hJ : JM m) {Q : Int32 → zf_Me → Prop} (K : ∀ (v : Int32) (m' : zf_Me), zgQ m m' → zr m' = zr m → v.toInt = zN98 (zr m) → Q v m') : wp_195 m Q := by
  have e1 : (1 : Int32).toInt = 1 := rfl
  have e3 : (3 : Int32).toInt = 3 := rfl
  have b := zB_r hJ.1
  have p3 : zr m 5 3 = (m.1 63 7).toInt := rfl
  have p5 : zr m 5 5 = (m.1 63 0).toInt := rfl
  have UU : ∀ x y : Int, zU (zU (zr m) 5 3 x) 5 3 y = zU (zr m) 5 3 y := fun x y => by
    funext c k
    unfold zU
    split <;> rfl
  have lp : ∀ (n : Nat) (v2 v3 : Int32) (mj : zf_Me) (u : Int), 0 ≤ v3.toInt → v3.toInt ≤ 10 → 10 - v3.toInt < n → zgL m mj → zr mj = zU (zr m) 5 3 u → (¬ v2.toInt = -1 → zN98 (zr m) = v2.toInt) → (v2.toInt = -1 → zN98 (zr m) = zlst (zr m) 3 3 (10 - v3.toInt).toNat v3.toInt) → wq_195_9 Q n (m.1 63 7) v2 v3 mj := by
    intro n
    induction n with
    | zero => intro v2 v3 mj u h0 h1 h2; omega
    | succ n ih =>
      intro v2 v3 mj u h0 h1 h2 hf hz hA hB
      have E : zN98 (zr m) = v2.toInt → ∀ m3, m3 = zf_u mj 63 7 (m.1 63 7) → Q v2 m3 := fun hv m3 q3 => K _ m3 (by rw [q3]; exact zgr_u (zgL_q hf) (by omega)) (by rw [q3, zr_w7, hz, UU, ← p3]; exact zU_id) hv.symm
      refine ⟨fun g => E ?_, fun g => ⟨fun nn => E (hA nn), fun e m5 q5 => ?_⟩⟩
      · by_cases e : v2.toInt = -1
        · rw [hB e, show (10 - v3.toInt).toNat = 0 by omega, e]
          rfl
        · exact hA e
      · have F5 : zgL m m5 := by
          rw [q5]
          exact zgr_u hf (by omega)
        have z5 : zr m5 = zU (zr m) 5 3 v3.toInt := by rw [q5, zr_w7, hz, UU]
        refine zs_trE z5 (zB_bis hJ.1 (by omega)) (by decide) (fun m8 f8 e8 b8 l => l (fun m10 f10 z10 a7 _ _ => ?_))
        have t := fb_addI (x := v3) (y := 1) (by omega) (by omega)
        have hb := hB e
        rw [show (10 - v3.toInt).toNat = (10 - (v3 + 1).toInt).toNat + 1 by omega] at hb
        replace hb : zN98 (zr m) = if ¬ (zend (zU (zr m) 5 3 v3.toInt) 3).1 5 10 < zr m 5 5 then v3.toInt else zlst (zr m) 3 3 (10 - (v3 + 1).toInt).toNat (v3.toInt + 1) := hb
        rw [e3] at a7
        have fu : (m10.1 63 0).toInt = zr m 5 5 := by
          have : zr m10 5 5 = zr m 5 5 := by rw [z10]; exact zU_o (by omega)
          exact this
        have le : (m10.1 63 47).toInt ≤ zr m 5 5 := by
          have h8 := zrm_h e8
          have b9 := b8.1
          have z1 : zr m8 5 10 = (m8.1 63 10).toInt := rfl
          have z2 : zr m8 5 5 = zr m 5 5 := by
            have : zr m8 = (zend (zU (zr m) 5 3 v3.toInt) (3 : Int32).toInt).1 := by rw [← e8]; rfl
            rw [this]
            exact (zgo_fur 60 _).trans (show zU (zr m) 5 3 v3.toInt 5 5 = zr m 5 5 from zU_o (by omega))
          rw [e3] at h8
          rw [a7, ← h8.1]
          omega
        rw [← a7] at hb
        refine ⟨fun ne => ih _ _ m10 v3.toInt (by omega) (by omega) (by omega) (zgL_t F5 f10) z10 (fun z => absurd e z) (fun _ => ?_), fun eq => ih _ _ m10 v3.toInt (by omega) (by omega) (by omega) (zgL_t F5 f10) z10 (fun _ => ?_) (fun z => by omega)⟩
        · rw [hb, if_neg (by omega), show v3.toInt + 1 = (v3 + 1).toInt by omega]
        · rw [hb, if_pos (by omega)]
  exact ⟨12, lp 12 _ 0 m (zr m 5 3) (by decide) (by decide) (by decide) zgr_refl zU_id.symm (fun z => absurd rfl z) (fun _ => rfl)⟩
theorem zG_196 (hJ : JM m) {rule : Int32} {Q : Int32 → zf_Me → Prop} (K : ∀ (v : Int32) (m' : zf_Me), zgQ m m' → zr m' = zr m → v.toInt = zN99 (zr m) rule.toInt → Q v m') : wp_196 rule m Q := by
  have e1 : (1 : Int32).toInt = 1 := rfl
  have b := zB_r hJ.1
  have p2 : zr m 5 2 = (m.1 63 9).toInt := rfl
  refine zs_180 (fun hr => ⟨fun _ => ?_, fun z => (nomatch z)⟩) (fun g => ⟨fun z => (nomatch z), fun _ => zR_q10 (by decide) K (if_pos g)⟩)
  have UU : ∀ x y : Int, zU (zU (zr m) 5 2 x) 5 2 y = zU (zr m) 5 2 y := fun x y => by
    funext c k
    unfold zU
    split <;> rfl
  have lp : ∀ (n : Nat) (v2 v3 : Int32) (mj : zf_Me) (u : Int), 1 ≤ v3.toInt → v3.toInt ≤ 100 → 100 - v3.toInt < n → zgL m mj → zr mj = zU (zr m) 5 2 u → (¬ v2.toInt = -1 → zN99 (zr m) rule.toInt = v2.toInt) → (v2.toInt = -1 → zN99 (zr m) rule.toInt = zlst (zr m) rule.toInt 2 (100 - v3.toInt).toNat v3.toInt) → wq_196_25 rule Q n (m.1 63 9) v2 v3 mj := by
    intro n
    induction n with
    | zero => intro v2 v3 mj u h0 h1 h2; omega
    | succ n ih =>
      intro v2 v3 mj u h0 h1 h2 hf hz hA hB
      have E : zN99 (zr m) rule.toInt = v2.toInt → ∀ m3, m3 = zf_u mj 63 9 (m.1 63 9) → Q v2 m3 := fun hv m3 q3 => K _ m3 (by rw [q3]; exact zgr_u (zgL_q hf) (by omega)) (by rw [q3, zr_w9, hz, UU, ← p2]; exact zU_id) hv.symm
      refine ⟨fun g => E ?_, fun g => ⟨fun nn => E (hA nn), fun e m5 q5 => ?_⟩⟩
      · by_cases e : v2.toInt = -1
        · rw [hB e, show (100 - v3.toInt).toNat = 0 by omega, e]
          rfl
        · exact hA e
      · have F5 : zgL m m5 := by
          rw [q5]
          exact zgr_u hf (by omega)
        have z5 : zr m5 = zU (zr m) 5 2 v3.toInt := by rw [q5, zr_w9, hz, UU]
        refine zs_trE z5 (zB_worn hJ.1 (by omega)) hr (fun m8 f8 e8 b8 l => l (fun m10 f10 z10 a7 _ _ => ?_))
        have t := fb_addI (x := v3) (y := 1) (by omega) (by omega)
        have hb := hB e
        rw [show (100 - v3.toInt).toNat = (100 - (v3 + 1).toInt).toNat + 1 by omega] at hb
        replace hb : zN99 (zr m) rule.toInt = if ¬ (zend (zU (zr m) 5 2 v3.toInt) rule.toInt).1 5 10 < zr m 5 5 then v3.toInt else zlst (zr m) rule.toInt 2 (100 - (v3 + 1).toInt).toNat (v3.toInt + 1) := hb
        have fu : (m10.1 63 0).toInt = zr m 5 5 := by
          have : zr m10 5 5 = zr m 5 5 := by rw [z10]; exact zU_o (by omega)
          exact this
        have le : (m10.1 63 47).toInt ≤ zr m 5 5 := by
          have h8 := zrm_h e8
          have b9 := b8.1
          have z1 : zr m8 5 10 = (m8.1 63 10).toInt := rfl
          have z2 : zr m8 5 5 = zr m 5 5 := by
            have : zr m8 = (zend (zU (zr m) 5 2 v3.toInt) rule.toInt).1 := by rw [← e8]; rfl
            rw [this]
            exact (zgo_fur 60 _).trans (show zU (zr m) 5 2 v3.toInt 5 5 = zr m 5 5 from zU_o (by omega))
          rw [a7, ← h8.1]
          omega
        rw [← a7] at hb
        refine ⟨fun ne => ih _ _ m10 v3.toInt (by omega) (by omega) (by omega) (zgL_t F5 f10) z10 (fun z => absurd e z) (fun _ => ?_), fun eq => ih _ _ m10 v3.toInt (by omega) (by omega) (by omega) (zgL_t F5 f10) z10 (fun _ => ?_) (fun z => by omega)⟩
        · rw [hb, if_neg (by omega), show v3.toInt + 1 = (v3 + 1).toInt by omega]
        · rw [hb, if_pos (by omega)]
  refine ⟨102, lp 102 _ 1 m (zr m 5 2) (by decide) (by decide) (by decide) zgr_refl zU_id.symm (fun z => absurd rfl z) (fun _ => ?_)⟩
  unfold zN99
  rw [if_neg (fun z => z hr)]
  rfl
end
end
