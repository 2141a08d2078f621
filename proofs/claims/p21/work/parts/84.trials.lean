/-! part 84: what comes of rules, as functions: the class -/
def zend (f : zS) (rule : Int) : zRS := zgo rule 60 (zbeg f)
def zsel (s : zRS) (w : Int) : Int := if w = 0 then s.1 5 10 else if w = 1 then s.1 5 11 else if w = 2 then s.2.2.2 else if w = 3 then s.2.2.1 else s.1 4 (w - 10).toNat
def zN88 (f : zS) (rule w : Int) : Int := if ¬ ((0 ≤ w ∧ w ≤ 3) ∨ (10 ≤ w ∧ w - 10 < f 5 6)) then -5 else if ¬ (0 ≤ rule ∧ rule ≤ 3) then -6 else zsel (zend f rule) w
def zbet (r h c : Int) (s : Int × Int × Int) : Int × Int × Int := if s.2.1 < h ∨ (h = s.2.1 ∧ c < s.2.2) then (r, h, c) else s
def zbst (f : zS) (w : Int) : Nat → Int → Int × Int × Int → Int × Int × Int
  | 0, _, s => s
  | n + 1, r, s => zbst f w n (r + 1) (zbet r ((zend f r).1 5 10) (if w = 0 then (zend f r).2.2.2 else (zend f r).1 5 11) s)
def zN89 (f : zS) (w : Int) : Int := if w < 0 ∨ 1 < w then -5 else (zbst f w 4 0 (0, -1, 0)).1
def zN92 (f : zS) (rule : Int) : Int := if ¬ (0 ≤ rule ∧ rule ≤ 3) then -6 else if ¬ zmay f 9 then 0 else if (zend f rule).1 5 10 < (zgo rule 60 (zact f 9, 0, 0, zgr f (f 5 6).toNat)).1 5 10 ∨ ((zgo rule 60 (zact f 9, 0, 0, zgr f (f 5 6).toNat)).1 5 10 = (zend f rule).1 5 10 ∧ (zgo rule 60 (zact f 9, 0, 0, zgr f (f 5 6).toNat)).2.2.2 < (zend f rule).2.2.2) then 1 else 0
def zbgl (f : zS) (rule : Int) : Nat → Int → Int × Int × Int → Int × Int × Int
  | 0, _, s => s
  | n + 1, p, s => zbgl f rule n (p + 1) (zbet p ((zend (zU f 5 7 p) rule).1 5 10) (zend (zU f 5 7 p) rule).2.2.2 s)
def zN93 (f : zS) (rule : Int) : Int := if ¬ (0 ≤ rule ∧ rule ≤ 3) then -16 else (zbgl f rule ((f 5 6).toNat + 1) (-1) (-1, -1, 0)).1
def zfitB (x : zHe) (g : zS) : Nat → Bool
  | 0 => true
  | n + 1 => zfitB x g n && decide (g 4 n = zel x n)
def zfitb (x : zHe) (f : zS) : Nat → Nat
  | 0 => 0
  | r + 1 => if zfitB x (zend f (r : Nat)).1 (f 5 6).toNat = true then zfitb x f r + 2 ^ r else zfitb x f r
def zN97 (h : zH) (f : zS) (s : Int) : Int := if ¬ zK h s = 0 then -(zK h s) else if (h s.toNat).2.1 < f 5 6 then -5 else ((zfitb (h s.toNat) f 4 : Nat) : Int)
def zlst (f : zS) (rule : Int) (w : Nat) : Nat → Int → Int
  | 0, _ => -1
  | n + 1, v => if ¬ (zend (zU f 5 w v) rule).1 5 10 < f 5 5 then v else zlst f rule w n (v + 1)
def zN98 (f : zS) : Int := zlst f 3 3 10 0
def zN99 (f : zS) (rule : Int) : Int := if ¬ (0 ≤ rule ∧ rule ≤ 3) then -16 else zlst f rule 2 99 1
theorem zgr_u5 {f : zS} {k : Nat} {x : Int} : ∀ n, zgr (zU f 5 k x) n = zgr f n
  | 0 => rfl
  | n + 1 => by
    have e : zU f 5 k x 4 n = f 4 n := zU_o (by omega)
    unfold zgr
    rw [zgr_u5 n, e]
theorem zgo_fur {rule : Int} : ∀ (n : Nat) (s : zRS), (zgo rule n s).1 5 5 = s.1 5 5
  | 0, _ => rfl
  | n + 1, s => by
    unfold zgo
    split
    · rfl
    · rename_i s' e
      rw [zgo_fur n s']
      unfold zstp at e
      split at e
      · cases e
        exact zact_furlongs
      · cases e
theorem zgo_peo {rule : Int} : ∀ (n : Nat) (s : zRS), (zgo rule n s).1 5 6 = s.1 5 6
  | 0, _ => rfl
  | n + 1, s => by
    unfold zgo
    split
    · rfl
    · rename_i s' e
      rw [zgo_peo n s']
      unfold zstp at e
      split at e
      · cases e
        exact zact_people
      · cases e
theorem zfitB_f {x : zHe} {g : zS} {i : Nat} (h : ¬ g 4 i = zel x i) : ∀ n, i < n → zfitB x g n = false
  | 0, k => absurd k (Nat.not_lt_zero _)
  | n + 1, k => by
    unfold zfitB
    by_cases e : i = n
    · rw [← e, decide_eq_false h, Bool.and_false]
    · rw [zfitB_f h n (by omega), Bool.false_and]
theorem zfitb_lt {x : zHe} {f : zS} : ∀ r, zfitb x f r < 2 ^ r
  | 0 => Nat.zero_lt_one
  | r + 1 => by
    have := zfitb_lt (x := x) (f := f) r
    have p : 2 ^ (r + 1) = 2 * 2 ^ r := by rw [Nat.pow_succ, Nat.mul_comm]
    unfold zfitb
    split <;> omega
theorem zsmall : ∀ N : Nat, N < 16 → (Int32.ofNat N).toInt = N := by decide
section
variable {m : zf_Me}
theorem zs_goE {F : zS} (hF : zv 2 3 8 m = F) (hB : zB F) {rule : Int32} {Q : zf_Me → Prop} (hq : ∀ m', zrs m' = zend F rule.toInt → zfR m m' → Q m') : wp_7 2 3 8 m (fun m4 => wp_8 rule m4 Q) := by
  subst hF
  exact zs_go hB hq
theorem zrs_h {s : zRS} (e : zrs m = s) : (m.1 19 10).toInt = s.1 5 10 ∧ (m.1 19 11).toInt = s.1 5 11 ∧ (m.1 18 3).toInt = s.2.2.2 ∧ (m.1 18 2).toInt = s.2.2.1 := by
  rw [← e]
  exact ⟨rfl, rfl, rfl, rfl⟩
theorem zA_88 (hJ : JX m) {rule w : Int32} {Q : Int32 → zf_Me → Prop} (K : ∀ (v : Int32) (m' : zf_Me), zq m m' → v.toInt = zN88 (zv 2 3 8 m) rule.toInt w.toInt → Q v m') : wp_88 rule w m Q := by
  have b := zB_v hJ.1
  have e10 : (10 : Int32).toInt = 10 := rfl
  have e1 : (1 : Int32).toInt = 1 := rfl
  have p6 : zv 2 3 8 m 5 6 = (m.1 3 5).toInt := rfl
  have no : ¬ ((0 ≤ w.toInt ∧ w.toInt ≤ 3) ∨ (10 ≤ w.toInt ∧ w.toInt - 10 < (m.1 3 5).toInt)) → wp_109 5 m (fun x m' => Q x m') := fun g => zC_q (by decide) K (if_pos g)
  have sub : 10 ≤ w.toInt → (w - 10).toInt = w.toInt - 10 := fun g => by
    have rw0 := fb_rng w
    have := fb_subI (x := w) (y := 10) (by omega) (by omega)
    omega
  have t48 : (0 ≤ w.toInt ∧ w.toInt ≤ 3) ∨ (10 ≤ w.toInt ∧ w.toInt - 10 < (m.1 3 5).toInt) → wq_88_48 rule w m Q := fun h => by
    have N : ∀ r, (0 ≤ rule.toInt ∧ rule.toInt ≤ 3) → zsel (zend (zv 2 3 8 m) rule.toInt) w.toInt = r → r = zN88 (zv 2 3 8 m) rule.toInt w.toInt := fun r g hr => by
      unfold zN88
      rw [if_neg (fun z => z h), if_neg (fun z => z g)]
      exact hr.symm
    refine zs_116 (fun g => ⟨fun _ => zs_goE rfl hJ.1 (fun m6 e6 f => ?_), fun z => (nomatch z)⟩) (fun g => ⟨fun z => (nomatch z), fun _ => zC_q (by decide) K ?_⟩)
    · have hh := zrs_h e6
      have N := fun r => N r (by omega)
      unfold zsel at N
      refine ⟨fun o => ?_, fun o => K _ m6 (zfR_q f) (N _ ?_), fun o => K _ m6 (zfR_q f) (N _ ?_), fun o => K _ m6 (zfR_q f) (N _ ?_), fun o => K _ m6 (zfR_q f) (N _ ?_)⟩
      · have s := sub (by omega)
        refine ⟨by omega, K _ m6 (zfR_q f) (N _ ?_)⟩
        rw [if_neg (by omega), if_neg (by omega), if_neg (by omega), if_neg (by omega), ← e6, ← s]
        exact zN_lt (by omega)
      · rw [if_pos o]
        exact hh.1.symm
      · rw [if_neg (by omega), if_pos o]
        exact hh.2.1.symm
      · rw [if_neg (by omega), if_neg (by omega), if_pos o]
        exact hh.2.2.1.symm
      · rw [if_neg (by omega), if_neg (by omega), if_neg (by omega), if_pos o]
        exact hh.2.2.2.symm
    · unfold zN88
      rw [if_neg (fun z => z h), if_pos (by omega)]
      rfl
  have t28 : ∀ u : Int32, (¬ u.toInt = 0 → 10 ≤ w.toInt ∧ w.toInt - 10 < (m.1 3 5).toInt) → (u.toInt = 0 → ¬ (10 ≤ w.toInt ∧ w.toInt - 10 < (m.1 3 5).toInt)) → wq_88_28 rule w u m Q := fun u h h2 => ⟨fun g => t48 (Or.inr (h g)), fun g => ⟨fun g1 => no (fun z => by have := h2 g; omega), fun g2 => ⟨fun g3 => t48 (Or.inl ⟨g2, g3⟩), fun g3 => no (fun z => by have := h2 g; omega)⟩⟩⟩
  have t27 : ¬ (10 ≤ w.toInt ∧ w.toInt - 10 < (m.1 3 5).toInt) → wq_88_27 rule w m Q := fun h => t28 0 (fun z => absurd rfl z) (fun _ => h)
  refine ⟨fun g => t27 (by omega), fun g => ?_⟩
  have s := sub g
  exact zs_65t (fun g2 => ⟨fun z => (nomatch z), fun _ => t28 1 (fun _ => by omega) (fun z => absurd z (by decide))⟩) (fun g2 => ⟨fun _ => t27 (by omega), fun z => (nomatch z)⟩)
theorem zA_89 (hJ : JX m) {w : Int32} {Q : Int32 → zf_Me → Prop} (K : ∀ (v : Int32) (m' : zf_Me), zq m m' → v.toInt = zN89 (zv 2 3 8 m) w.toInt → Q v m') : wp_89 w m Q := by
  have e1 : (1 : Int32).toInt = 1 := rfl
  have lp : (0 ≤ w.toInt ∧ w.toInt ≤ 1) → ∀ (n : Nat) (v2 v3 v4 v5 : Int32) (mj : zf_Me), 0 ≤ v5.toInt → v5.toInt ≤ 4 → 4 - v5.toInt < n → zq m mj → zN89 (zv 2 3 8 m) w.toInt = (zbst (zv 2 3 8 m) w.toInt (4 - v5.toInt).toNat v5.toInt (v2.toInt, v3.toInt, v4.toInt)).1 → wq_89_25 w Q n v2 v3 v4 v5 mj := by
    intro hw n
    induction n with
    | zero => intro v2 v3 v4 v5 mj h0 h1 h2; omega
    | succ n ih =>
      intro v2 v3 v4 v5 mj h0 h1 h2 hf hA
      refine ⟨fun g => K _ mj hf ?_, fun g => zs_goE (zq_now hf) hJ.1 (fun m6 e6 f => ?_)⟩
      · rw [hA, show (4 - v5.toInt).toNat = 0 by omega]
        rfl
      · have s := fb_addI (x := v5) (y := 1) (by omega) (by omega)
        have hh := zrs_h e6
        rw [show (4 - v5.toInt).toNat = (4 - (v5 + 1).toInt).toNat + 1 by omega] at hA
        replace hA : zN89 (zv 2 3 8 m) w.toInt = (zbst (zv 2 3 8 m) w.toInt (4 - (v5 + 1).toInt).toNat (v5.toInt + 1) (zbet v5.toInt ((zend (zv 2 3 8 m) v5.toInt).1 5 10) (if w.toInt = 0 then (zend (zv 2 3 8 m) v5.toInt).2.2.2 else (zend (zv 2 3 8 m) v5.toInt).1 5 11) (v2.toInt, v3.toInt, v4.toInt))).1 := hA
        rw [show v5.toInt + 1 = (v5 + 1).toInt by omega, ← hh.1] at hA
        have t : ∀ u : Int32, u.toInt = (if w.toInt = 0 then (zend (zv 2 3 8 m) v5.toInt).2.2.2 else (zend (zv 2 3 8 m) v5.toInt).1 5 11) → wq_89_75 w (wq_89_25 w Q n) v2 v3 v4 v5 u m6 Q := fun u hu => by
          rw [← hu] at hA
          refine zs_119 (fun x hx => ⟨fun e => ih _ _ _ _ m6 (by omega) (by omega) (by omega) (zfr_trans hf (zfR_q f)) ?_, fun e => ih _ _ _ _ m6 (by omega) (by omega) (by omega) (zfr_trans hf (zfR_q f)) ?_⟩)
          · rw [hA, show zbet v5.toInt (m6.1 19 10).toInt u.toInt (v2.toInt, v3.toInt, v4.toInt) = (v2.toInt, v3.toInt, v4.toInt) from if_neg (zno hx e)]
          · rw [hA, show zbet v5.toInt (m6.1 19 10).toInt u.toInt (v2.toInt, v3.toInt, v4.toInt) = (v5.toInt, (m6.1 19 10).toInt, u.toInt) from if_pos (hx.mp e)]
        exact ⟨fun o => t _ (by rw [if_neg o]; exact hh.2.1), fun o => t _ (by rw [if_pos o]; exact hh.2.2.1)⟩
  refine ⟨fun g => zC_q (by decide) K (if_pos (Or.inl g)), fun g => ⟨fun g2 => ⟨6, lp ⟨g, g2⟩ 6 _ _ _ 0 m (by decide) (by decide) (by decide) zfr_refl ?_⟩, fun g2 => zC_q (by decide) K (if_pos (Or.inr g2))⟩⟩
  unfold zN89
  rw [if_neg (by omega)]
  rfl
theorem zA_92 (hJ : JX m) {rule : Int32} {Q : Int32 → zf_Me → Prop} (K : ∀ (v : Int32) (m' : zf_Me), zq m m' → v.toInt = zN92 (zv 2 3 8 m) rule.toInt → Q v m') : wp_92 rule m Q := by
  refine zs_116 (fun g => ⟨fun _ => zs_52 hJ.1 (fun b hb => ⟨fun e => zs_goE rfl hJ.1 (fun m8 e8 f8 => zs_7 (by decide) (zs_now (zfR_q f8) hJ.1) (fun m10 z10 f10 => ?_)), fun e => K _ m zfr_refl ?_⟩), fun z => (nomatch z)⟩) (fun g => ⟨fun z => (nomatch z), fun _ => zC_q (by decide) K (if_pos (by omega))⟩)
  · have w10 := zrs_w z10
    have n8 : zv 2 3 8 m8 = zv 2 3 8 m := zq_now (zfR_q f8)
    have hh8 := zrs_h e8
    have may : zmay (zv 19 3 20 m10) 9 := by
      rw [w10.1, n8]
      exact hb.mp e
    have b10 : zB (zv 19 3 20 m10) := by rw [w10.1, n8]; exact hJ.1
    refine zs_56 (a := 9) zd19 b10 may (fun m12 z12 f12 => ?_)
    have s : m12.1 18 = m10.1 18 := f12.1 18 (by decide)
    have r12 : zrs m12 = (zact (zv 2 3 8 m) 9, 0, 0, zgr (zv 2 3 8 m) (zv 2 3 8 m 5 6).toNat) := by
      unfold zrs
      rw [z12, s, w10.2.1, w10.2.2.1, w10.2.2.2, w10.1, n8]
      rfl
    refine zs_8 ?_ (fun m14 e14 f14 => ?_)
    · rw [r12]
      refine ⟨zB_act hJ.1 (hb.mp e), (by decide : (0 : Int) ≤ 0 ∧ (0 : Int) ≤ 5), (by decide : (0 : Int) ≤ 0 ∧ (0 : Int) ≤ 60), ?_⟩
      exact zgr_b hJ.1.2.2 _ (by have := hJ.1.1; omega)
    · rw [r12] at e14
      have hh := zrs_h e14
      have f : zq m m14 := zfr_trans (zfR_q f8) (zfr_trans (zfR_q f10) (zfr_trans (zfr_mono f12 (fun a ha => by omega)) (zfR_q f14)))
      refine zs_119 (fun x hx => ⟨fun ex => K _ m14 f ?_, fun ex => K _ m14 f ?_⟩)
      · unfold zN92
        rw [if_neg (by omega), if_neg (fun z => z (hb.mp e)), ← hh.1, ← hh.2.2.1, ← hh8.1, ← hh8.2.2.1, if_neg (zno hx ex)]
        rfl
      · unfold zN92
        rw [if_neg (by omega), if_neg (fun z => z (hb.mp e)), ← hh.1, ← hh.2.2.1, ← hh8.1, ← hh8.2.2.1, if_pos (hx.mp ex)]
        rfl
  · have hn : ¬ zmay (zv 2 3 8 m) 9 := zno hb e
    unfold zN92
    rw [if_neg (by omega), if_pos hn]
    rfl
theorem zA_93 (hJ : JX m) {rule : Int32} {Q : Int32 → zf_Me → Prop} (K : ∀ (v : Int32) (m' : zf_Me), zq m m' → v.toInt = zN93 (zv 2 3 8 m) rule.toInt → Q v m') : wp_93 rule m Q := by
  have e1 : (1 : Int32).toInt = 1 := rfl
  have em1 : (-1 : Int32).toInt = -1 := rfl
  have b := zB_v hJ.1
  have p6 : zv 2 3 8 m 5 6 = (m.1 3 5).toInt := rfl
  have lp : ∀ (n : Nat) (v2 v3 v4 v5 : Int32) (mj : zf_Me), -1 ≤ v5.toInt → v5.toInt ≤ (m.1 3 5).toInt → (m.1 3 5).toInt - v5.toInt < n → zq m mj → zN93 (zv 2 3 8 m) rule.toInt = (zbgl (zv 2 3 8 m) rule.toInt ((m.1 3 5).toInt - v5.toInt).toNat v5.toInt (v2.toInt, v3.toInt, v4.toInt)).1 → wq_93_24 rule Q n v2 v3 v4 v5 mj := by
    intro n
    induction n with
    | zero => intro v2 v3 v4 v5 mj h0 h1 h2; omega
    | succ n ih =>
      intro v2 v3 v4 v5 mj h0 h1 h2 hf hA
      have hB := zs_now hf hJ.1
      have hn := zq_now hf
      have py : (mj.1 3 5).toInt = (m.1 3 5).toInt := by rw [hf.1 3 (by omega)]
      refine ⟨fun g => K _ mj hf ?_, fun g => zs_7 (by decide) hB (fun m4 z4 f4 m5 q5 => ?_)⟩
      · rw [hA, show ((m.1 3 5).toInt - v5.toInt).toNat = 0 by omega]
        rfl
      · have s := fb_addI (x := v5) (y := 1) (by omega) (by omega)
        have w4 := zrs_w z4
        have f5 : zfR mj m5 := by
          rw [q5]
          exact zfr_u f4 (by omega)
        have c18 : m5.1 18 = m4.1 18 := by rw [q5]; exact zf_u1 (by decide)
        have r5 : zrs m5 = zbeg (zU (zv 2 3 8 m) 5 7 v5.toInt) := by
          unfold zrs zbeg
          rw [c18, w4.2.1, w4.2.2.1, w4.2.2.2, q5, zv_w2 zd19, w4.1, hn, zgr_u5]
          rfl
        refine zs_8 ?_ (fun m8 e8 f8 => ?_)
        · rw [r5]
          exact zRB_beg (zB_bag hJ.1 (by omega))
        · rw [r5] at e8
          have hh := zrs_h e8
          have f : zq m m8 := zfr_trans hf (zfr_trans (zfR_q f5) (zfR_q f8))
          rw [show ((m.1 3 5).toInt - v5.toInt).toNat = ((m.1 3 5).toInt - (v5 + 1).toInt).toNat + 1 by omega] at hA
          replace hA : zN93 (zv 2 3 8 m) rule.toInt = (zbgl (zv 2 3 8 m) rule.toInt ((m.1 3 5).toInt - (v5 + 1).toInt).toNat (v5.toInt + 1) (zbet v5.toInt ((zgo rule.toInt 60 (zbeg (zU (zv 2 3 8 m) 5 7 v5.toInt))).1 5 10) (zgo rule.toInt 60 (zbeg (zU (zv 2 3 8 m) 5 7 v5.toInt))).2.2.2 (v2.toInt, v3.toInt, v4.toInt))).1 := hA
          rw [show v5.toInt + 1 = (v5 + 1).toInt by omega, ← hh.1, ← hh.2.2.1] at hA
          refine zs_119 (fun x hx => ⟨fun e => ih _ _ _ _ m8 (by omega) (by omega) (by omega) f ?_, fun e => ih _ _ _ _ m8 (by omega) (by omega) (by omega) f ?_⟩)
          · rw [hA, show zbet v5.toInt (m8.1 19 10).toInt (m8.1 18 3).toInt (v2.toInt, v3.toInt, v4.toInt) = (v2.toInt, v3.toInt, v4.toInt) from if_neg (zno hx e)]
          · rw [hA, show zbet v5.toInt (m8.1 19 10).toInt (m8.1 18 3).toInt (v2.toInt, v3.toInt, v4.toInt) = (v5.toInt, (m8.1 19 10).toInt, (m8.1 18 3).toInt) from if_pos (hx.mp e)]
  refine zs_116 (fun g => ⟨fun _ => ⟨9, lp 9 _ _ _ (-1) m (by decide) (by omega) (by omega) zfr_refl ?_⟩, fun z => (nomatch z)⟩) (fun g => ⟨fun z => (nomatch z), fun _ => zC_q10 (by decide) K (if_pos (by omega))⟩)
  unfold zN93
  rw [if_neg (by omega), em1, p6, show ((m.1 3 5).toInt - -1).toNat = (m.1 3 5).toInt.toNat + 1 by omega]
  rfl
theorem zs_122x {w y r c r1 : Nat} (hp : 0 ≤ (m.1 y 5).toInt ∧ (m.1 y 5).toInt ≤ 6) {x : zHe} (el : ∀ i : Nat, (i : Int) < (m.1 y 5).toInt → zel x i = (Int64.toInt32 (m.2 r1 i)).toInt) {Q : Bool → zf_Me → Prop} (hq : Q (zfitB x (zv w y r m) (m.1 y 5).toInt.toNat) m) : wp_122 w y r c r1 m Q := by
  have e1 : (1 : Int32).toInt = 1 := rfl
  have lp : ∀ (n : Nat) (v2 : Int32), 0 ≤ v2.toInt → v2.toInt ≤ (m.1 y 5).toInt → (m.1 y 5).toInt - v2.toInt < n → zfitB x (zv w y r m) v2.toInt.toNat = true → wq_122_2 w y r c r1 Q n v2 m := by
    intro n
    induction n with
    | zero => intro v2 h0 h1 h2; omega
    | succ n ih =>
      intro v2 h0 h1 h2 hA
      refine ⟨fun g => ?_, fun g => ⟨by omega, ⟨by omega, by omega⟩, fun g2 => ?_, fun g2 => ?_⟩⟩
      · rw [show (m.1 y 5).toInt.toNat = v2.toInt.toNat by omega, hA] at hq
        exact hq
      · have s := fb_addI (x := v2) (y := 1) (by omega) (by omega)
        refine ih _ (by omega) (by omega) (by omega) ?_
        rw [show (v2 + 1).toInt.toNat = v2.toInt.toNat + 1 by omega]
        unfold zfitB
        rw [hA, Bool.true_and]
        refine decide_eq_true ?_
        rw [el _ (by omega), ← g2]
        exact zN_lt (by omega)
      · rw [zfitB_f (i := v2.toInt.toNat) (fun z => g2 ?_) _ (by omega)] at hq
        · exact hq
        · rw [el _ (by omega)] at z
          rw [← z]
          exact (zN_lt (by omega)).symm
  exact ⟨8, lp 8 0 (by decide) hp.1 (by show _ - (0 : Int) < 8; omega) rfl⟩
theorem zA_97 (hJ : JX m) {s : Int32} {Q : Int32 → zf_Me → Prop} (K : ∀ (v : Int32) (m' : zf_Me), zq m m' → v.toInt = zN97 (zhC m) (zv 2 3 8 m) s.toInt → Q v m') : wp_97 s m Q := by
  have e1 : (1 : Int32).toInt = 1 := rfl
  have b := zB_v hJ.1
  have p6 : zv 2 3 8 m 5 6 = (m.1 3 5).toInt := rfl
  refine zs_111x (fun x h => ⟨fun e => ?_, fun ne => zC_q (by have := zK_b (h := zhC m) (s := s.toInt); omega) K (by unfold zN97; rw [if_pos (by rw [← h]; exact ne), h])⟩)
  have h0 := h.symm.trans e
  obtain ⟨g, rr⟩ := zK_0.mp h0
  have c := zhC_c (m := m) (s := s.toInt.toNat) (by omega)
  have l := zhC_l (m := m) (s := s.toInt.toNat) (by omega) (by rw [← c]; exact rr)
  refine ⟨g, fun ge => ⟨6, ?_⟩, fun lt => zC_q (by decide) K ?_⟩
  · have u : zhC m s.toInt.toNat = ((m.1 (47 + 2 * s.toInt.toNat) 1).toInt, (m.1 (47 + 2 * s.toInt.toNat) 2).toInt, fun (k : Nat) => if (k : Int) < (m.1 (47 + 2 * s.toInt.toNat) 2).toInt then m.2 (48 + 2 * s.toInt.toNat) k else 0) := (zhC_at (m := m) (s := s.toInt.toNat) (by omega)).trans (if_pos (by rw [← c]; exact rr))
    have el : ∀ i : Nat, (i : Int) < (m.1 (47 + 2 * s.toInt.toNat) 2).toInt → zel (zhC m s.toInt.toNat) i = (Int64.toInt32 (m.2 (48 + 2 * s.toInt.toNat) i)).toInt := fun i hi => by
      unfold zel
      rw [u]
      show (Int64.toInt32 (if (i : Int) < _ then _ else _)).toInt = _
      rw [if_pos hi]
    have lp : ∀ (n : Nat) (v3 v4 : Int32) (mj : zf_Me), 0 ≤ v4.toInt → v4.toInt ≤ 4 → 4 - v4.toInt < n → zq m mj → v3 = Int32.ofNat (zfitb (zhC m s.toInt.toNat) (zv 2 3 8 m) v4.toInt.toNat) → wq_97_49 s Q n v3 v4 mj := by
      intro n
      induction n with
      | zero => intro v3 v4 mj h0 h1 h2; omega
      | succ n ih =>
        intro v3 v4 mj k0 k1 k2 hf hA
        have hB := zs_now hf hJ.1
        have lt := zfitb_lt (x := zhC m s.toInt.toNat) (f := zv 2 3 8 m) v4.toInt.toNat
        refine ⟨fun g3 => K _ mj hf ?_, fun g3 => zs_goE (zq_now hf) hJ.1 (fun m8 e8 f8 => ⟨g, ?_⟩)⟩
        · have v44 : v4.toInt.toNat = 4 := by omega
          rw [v44] at hA lt
          unfold zN97
          rw [if_neg (fun z => z h0), if_neg (by rw [l, p6]; omega), hA]
          exact zsmall _ lt
        · have q8 : (m8.1 3 5).toInt = (m.1 3 5).toInt := by rw [f8.1 3 (by decide), hf.1 3 (by omega)]
          have f : zq m m8 := zfr_trans hf (zfR_q f8)
          refine zs_122x (x := zhC m s.toInt.toNat) (by rw [q8]; omega) (fun i hi => ?_) ?_
          · rw [el i (by omega), f.2]
          · have t := fb_addI (x := v4) (y := 1) (by omega) (by omega)
            have n4 : (v4 + 1).toInt.toNat = v4.toInt.toNat + 1 := by omega
            have ee : zfitB (zhC m s.toInt.toNat) (zv 19 3 20 m8) (m8.1 3 5).toInt.toNat = zfitB (zhC m s.toInt.toNat) (zend (zv 2 3 8 m) (v4.toInt.toNat : Nat)).1 (zv 2 3 8 m 5 6).toNat := by
              rw [q8, p6, show ((v4.toInt.toNat : Nat) : Int) = v4.toInt by omega, ← e8]
              rfl
            rw [ee]
            have ev : v4 = Int32.ofNat v4.toInt.toNat := zn_of _ _ (by omega)
            refine ⟨fun eb => ih _ _ m8 (by omega) (by omega) (by omega) f ?_, fun eb => ih _ _ m8 (by omega) (by omega) (by omega) f ?_⟩
            · rw [n4]
              unfold zfitb
              rw [if_neg (by rw [eb]; decide)]
              exact hA
            · rw [n4]
              unfold zfitb
              rw [if_pos eb, hA]
              have o := zbits_or v4.toInt.toNat (by omega) _ lt
              rw [← ev] at o
              exact o
    exact lp 6 _ 0 m (by decide) (by decide) (by decide) zfr_refl rfl
  · unfold zN97
    rw [if_neg (fun z => z h0), if_pos (by rw [l, p6]; exact lt)]
    rfl
theorem zs_123x (hJ : JX m) {rule w : Int32} (hr : 0 ≤ rule.toInt ∧ rule.toInt ≤ 3) (hw : w.toInt = 2 ∨ w.toInt = 3) {Q : Int32 → zf_Me → Prop} (K : ∀ v m', zq m m' → v.toInt = zlst (zv 2 3 8 m) rule.toInt w.toInt.toNat (zhi w.toInt.toNat + 1 - zlo w.toInt.toNat).toNat (zlo w.toInt.toNat) → Q v m') : wp_123 rule w m Q := by
  have e1 : (1 : Int32).toInt = 1 := rfl
  have lo := zk_lo w.toInt.toNat (by omega)
  have bd : 0 ≤ zlo w.toInt.toNat ∧ zlo w.toInt.toNat ≤ 1 ∧ zhi w.toInt.toNat ≤ 99 ∧ 9 ≤ zhi w.toInt.toNat := by
    unfold zlo zhi
    split <;> split <;> omega
  have p5 : zv 2 3 8 m 5 5 = (m.1 3 4).toInt := rfl
  have lp : ∀ (n : Nat) (v3 : Int32) (mj : zf_Me), zlo w.toInt.toNat ≤ v3.toInt → v3.toInt ≤ zhi w.toInt.toNat + 1 → zhi w.toInt.toNat + 1 - v3.toInt < n → zq m mj → zlst (zv 2 3 8 m) rule.toInt w.toInt.toNat (zhi w.toInt.toNat + 1 - zlo w.toInt.toNat).toNat (zlo w.toInt.toNat) = zlst (zv 2 3 8 m) rule.toInt w.toInt.toNat (zhi w.toInt.toNat + 1 - v3.toInt).toNat v3.toInt → wq_123_6 rule w Q n v3 mj := by
    intro n
    induction n with
    | zero => intro v3 mj h0 h1 h2; omega
    | succ n ih =>
      intro v3 mj h0 h1 h2 hf hA
      have hB := zs_now hf hJ.1
      have hn := zq_now hf
      refine ⟨by omega, fun g => K _ mj hf ?_, fun g => zs_7 (by decide) hB (fun m2 z2 f2 => zs_46 zd19 (by omega) (fun m4 z4 f4 => ?_))⟩
      · rw [lo.2] at g
        rw [hA, show (zhi w.toInt.toNat + 1 - v3.toInt).toNat = 0 by omega]
        rfl
      · rw [lo.2] at g
        have t := fb_addI (x := v3) (y := 1) (by omega) (by omega)
        have w2 := zrs_w z2
        have c18 : m4.1 18 = m2.1 18 := f4.1 18 (by decide)
        have za : zask (zv 2 3 8 m) w.toInt.toNat v3.toInt = zU (zv 2 3 8 m) 5 w.toInt.toNat v3.toInt := if_neg (by omega)
        have r4 : zrs m4 = zbeg (zU (zv 2 3 8 m) 5 w.toInt.toNat v3.toInt) := by
          unfold zrs zbeg
          rw [c18, w2.2.1, w2.2.2.1, w2.2.2.2, z4, w2.1, hn, za, zgr_u5, show zU (zv 2 3 8 m) 5 w.toInt.toNat v3.toInt 5 6 = zv 2 3 8 m 5 6 from zU_o (by omega)]
        have rb : zRB (zrs m4) := by
          rw [r4, ← za]
          exact zRB_beg (zB_ask hJ.1 (by omega) ⟨h0, g⟩)
        refine zs_8 rb (fun m6 e6 f6 => zs_47 (fun b hb => ?_))
        rw [r4] at e6
        have hh := zrs_h e6
        have f : zq m m6 := zfr_trans hf (zfr_trans (zfR_q f2) (zfr_trans (zfr_mono f4 (fun a ha => by omega)) (zfR_q f6)))
        have q4 : (m6.1 3 4).toInt = (m.1 3 4).toInt := by rw [f.1 3 (by omega)]
        rw [hh.1, q4, ← p5] at hb
        rw [show (zhi w.toInt.toNat + 1 - v3.toInt).toNat = (zhi w.toInt.toNat + 1 - (v3 + 1).toInt).toNat + 1 by omega] at hA
        replace hA : zlst (zv 2 3 8 m) rule.toInt w.toInt.toNat (zhi w.toInt.toNat + 1 - zlo w.toInt.toNat).toNat (zlo w.toInt.toNat) = if ¬ (zgo rule.toInt 60 (zbeg (zU (zv 2 3 8 m) 5 w.toInt.toNat v3.toInt))).1 5 10 < zv 2 3 8 m 5 5 then v3.toInt else zlst (zv 2 3 8 m) rule.toInt w.toInt.toNat (zhi w.toInt.toNat + 1 - (v3 + 1).toInt).toNat (v3.toInt + 1) := hA
        refine ⟨fun e => ih _ m6 (by omega) (by omega) (by omega) f ?_, fun e => K _ m6 f ?_⟩
        · rw [hA, if_neg (zno hb e), show v3.toInt + 1 = (v3 + 1).toInt by omega]
        · rw [hA, if_pos (hb.mp e)]
  refine ⟨by omega, 102, lp 102 _ m (by rw [lo.1]; exact Int.le_refl _) (by rw [lo.1]; omega) (by rw [lo.1]; omega) zfr_refl (by rw [lo.1])⟩
theorem zA_98 (hJ : JX m) {Q : Int32 → zf_Me → Prop} (K : ∀ (v : Int32) (m' : zf_Me), zq m m' → v.toInt = zN98 (zv 2 3 8 m) → Q v m') : wp_98 m Q :=
  zs_123x (rule := 3) (w := 3) hJ (by decide) (by decide) (fun v m' f e => K v m' f e)
theorem zA_99 (hJ : JX m) {rule : Int32} {Q : Int32 → zf_Me → Prop} (K : ∀ (v : Int32) (m' : zf_Me), zq m m' → v.toInt = zN99 (zv 2 3 8 m) rule.toInt → Q v m') : wp_99 rule m Q :=
  zs_116 (fun g => ⟨fun z => (nomatch z), fun _ => zs_123x (rule := rule) (w := 2) hJ (by omega) (by decide) (fun v m' f e => K v m' f (by
    unfold zN99
    rw [if_neg (by omega)]
    exact e))⟩) (fun g => ⟨fun _ => zC_q10 (by decide) K (if_pos (by omega)), fun z => (nomatch z)⟩)
end
