/-! part 52: the class's copies, what is asked, persons and furlongs more: laid by wip/flat/w52.py -/
def zcopy (f g : zS) : zS := fun c k => if c = 4 then g 4 k else if c = 5 then (if k = 5 ∨ k = 6 then f 5 k else g 5 k) else f c k
def zcopyw (f g : zS) : zS := fun c k => if c ≤ 3 then g c k else if c = 5 ∧ (k = 5 ∨ k = 6) then g 5 k else f c k
def zaddF (f : zS) (s t : Int) : zS := zU (zU (zU f 0 (f 5 5).toNat s) 1 (f 5 5).toNat t) 5 5 (f 5 5 + 1)
def zaddP (f : zS) (k a : Int) : zS := zU (zU (zU (zU f 2 (f 5 6).toNat k) 3 (f 5 6).toNat a) 4 (f 5 6).toNat 0) 5 6 (f 5 6 + 1)
def zask (f : zS) (w : Nat) (v : Int) : zS := if w = 0 then zU (zU f 5 0 v) 5 8 (if v < f 5 8 then v else f 5 8) else zU f 5 w v
theorem zf_cp1 {m : zf_Me} {x y sp dp n a : Nat} (h : ¬ a = y) : (zf_cp m x y sp dp n).1 a = m.1 a := if_neg h
theorem zf_cp2 {m : zf_Me} {x y n : Nat} {b : Nat} (h : b < n) : (zf_cp m x y 0 0 n).1 y b = m.1 x b := by
  show (if y = y then _ else _ : Nat → Int32) b = _
  rw [if_pos rfl]
  show (if 0 ≤ b ∧ b < 0 + n then m.1 x (0 + (b - 0)) else m.1 y b) = _
  rw [if_pos (by omega), show 0 + (b - 0) = b by omega]
theorem zN_eq {n k : Nat} {a b : Nat → Int32} (h : ∀ j, j < n → a j = b j) : zN n a k = zN n b k := by
  unfold zN
  by_cases e : k < n
  · rw [if_pos e, if_pos e, h k e]
  · rw [if_neg e, if_neg e]
theorem zfr_cp {P : Nat → Prop} {m m' : zf_Me} {x y sp dp n : Nat} (h : zfr P m m') (hc : P y) : zfr P m (zf_cp m' x y sp dp n) := ⟨fun i hi => (zf_cp1 (fun e => hi (by rw [e]; exact hc))).trans (h.1 i hi), h.2⟩
section
variable {w y r w1 y1 r1 : Nat} {m : zf_Me}
theorem zs_43 (hd : zD w y r) (hw : ¬ w1 = w ∧ ¬ w1 = r ∧ ¬ r1 = w ∧ ¬ r1 = r) {Q : zf_Me → Prop} (hq : ∀ m', zv w y r m' = zcopy (zv w y r m) (zv w1 y1 r1 m) → zfw w r m m' → Q m') : wp_43 w y r w1 y1 r1 m Q := by
  intro m1 q1 m3 q3 m5 q5 m7 q7 m9 q9 m11 q11 m13 q13 m15 q15 m17 q17 m19 q19 m21 q21 m23 q23
  have f1 : zfw w r m m1 := by rw [q1]; exact zfr_cp zfr_refl (Or.inr rfl)
  have d1 : m1.1 w1 = m.1 w1 := f1.1 w1 (by omega)
  have f3 : zfw w r m m3 := by rw [q3]; exact zfr_u f1 (Or.inl rfl)
  have d3 : m3.1 w1 = m.1 w1 := f3.1 w1 (by omega)
  have f5 : zfw w r m m5 := by rw [q5]; exact zfr_u f3 (Or.inl rfl)
  have d5 : m5.1 w1 = m.1 w1 := f5.1 w1 (by omega)
  have f7 : zfw w r m m7 := by rw [q7]; exact zfr_u f5 (Or.inl rfl)
  have d7 : m7.1 w1 = m.1 w1 := f7.1 w1 (by omega)
  have f9 : zfw w r m m9 := by rw [q9]; exact zfr_u f7 (Or.inl rfl)
  have d9 : m9.1 w1 = m.1 w1 := f9.1 w1 (by omega)
  have f11 : zfw w r m m11 := by rw [q11]; exact zfr_u f9 (Or.inl rfl)
  have d11 : m11.1 w1 = m.1 w1 := f11.1 w1 (by omega)
  have f13 : zfw w r m m13 := by rw [q13]; exact zfr_u f11 (Or.inl rfl)
  have d13 : m13.1 w1 = m.1 w1 := f13.1 w1 (by omega)
  have f15 : zfw w r m m15 := by rw [q15]; exact zfr_u f13 (Or.inl rfl)
  have d15 : m15.1 w1 = m.1 w1 := f15.1 w1 (by omega)
  have f17 : zfw w r m m17 := by rw [q17]; exact zfr_u f15 (Or.inl rfl)
  have d17 : m17.1 w1 = m.1 w1 := f17.1 w1 (by omega)
  have f19 : zfw w r m m19 := by rw [q19]; exact zfr_u f17 (Or.inl rfl)
  have d19 : m19.1 w1 = m.1 w1 := f19.1 w1 (by omega)
  have f21 : zfw w r m m21 := by rw [q21]; exact zfr_u f19 (Or.inl rfl)
  have d21 : m21.1 w1 = m.1 w1 := f21.1 w1 (by omega)
  have f23 : zfw w r m m23 := by rw [q23]; exact zfr_u f21 (Or.inl rfl)
  have d23 : m23.1 w1 = m.1 w1 := f23.1 w1 (by omega)
  have s2 : m23.1 w 2 = m.1 w1 2 := by rw [q23, zf_u4 (by decide), q21, zf_u4 (by decide), q19, zf_u4 (by decide), q17, zf_u4 (by decide), q15, zf_u4 (by decide), q13, zf_u4 (by decide), q11, zf_u4 (by decide), q9, zf_u4 (by decide), q7, zf_u4 (by decide), q5, zf_u4 (by decide), q3, zf_u3, d1]
  have s3 : m23.1 w 3 = m.1 w1 3 := by rw [q23, zf_u4 (by decide), q21, zf_u4 (by decide), q19, zf_u4 (by decide), q17, zf_u4 (by decide), q15, zf_u4 (by decide), q13, zf_u4 (by decide), q11, zf_u4 (by decide), q9, zf_u4 (by decide), q7, zf_u4 (by decide), q5, zf_u3, d3]
  have s4 : m23.1 w 4 = m.1 w1 4 := by rw [q23, zf_u4 (by decide), q21, zf_u4 (by decide), q19, zf_u4 (by decide), q17, zf_u4 (by decide), q15, zf_u4 (by decide), q13, zf_u4 (by decide), q11, zf_u4 (by decide), q9, zf_u4 (by decide), q7, zf_u3, d5]
  have s5 : m23.1 w 5 = m.1 w1 5 := by rw [q23, zf_u4 (by decide), q21, zf_u4 (by decide), q19, zf_u4 (by decide), q17, zf_u4 (by decide), q15, zf_u4 (by decide), q13, zf_u4 (by decide), q11, zf_u4 (by decide), q9, zf_u3, d7]
  have s6 : m23.1 w 6 = m.1 w1 6 := by rw [q23, zf_u4 (by decide), q21, zf_u4 (by decide), q19, zf_u4 (by decide), q17, zf_u4 (by decide), q15, zf_u4 (by decide), q13, zf_u4 (by decide), q11, zf_u3, d9]
  have s7 : m23.1 w 7 = m.1 w1 7 := by rw [q23, zf_u4 (by decide), q21, zf_u4 (by decide), q19, zf_u4 (by decide), q17, zf_u4 (by decide), q15, zf_u4 (by decide), q13, zf_u3, d11]
  have s8 : m23.1 w 8 = m.1 w1 8 := by rw [q23, zf_u4 (by decide), q21, zf_u4 (by decide), q19, zf_u4 (by decide), q17, zf_u4 (by decide), q15, zf_u3, d13]
  have s9 : m23.1 w 9 = m.1 w1 9 := by rw [q23, zf_u4 (by decide), q21, zf_u4 (by decide), q19, zf_u4 (by decide), q17, zf_u3, d15]
  have s10 : m23.1 w 10 = m.1 w1 10 := by rw [q23, zf_u4 (by decide), q21, zf_u4 (by decide), q19, zf_u3, d17]
  have s11 : m23.1 w 11 = m.1 w1 11 := by rw [q23, zf_u4 (by decide), q21, zf_u3, d19]
  have s12 : m23.1 w 12 = m.1 w1 12 := by rw [q23, zf_u3, d21]
  have sr : ∀ k, k < 6 → m23.1 r k = m.1 r1 k := fun k hk => by rw [q23, zf_u1 (by omega), q21, zf_u1 (by omega), q19, zf_u1 (by omega), q17, zf_u1 (by omega), q15, zf_u1 (by omega), q13, zf_u1 (by omega), q11, zf_u1 (by omega), q9, zf_u1 (by omega), q7, zf_u1 (by omega), q5, zf_u1 (by omega), q3, zf_u1 (by omega), q1, zf_cp2 hk]
  refine hq m23 ?_ f23
  funext c k
  match c with
  | 0 => show zN 24 (m23.1 (y + 1)) k = zN 24 (m.1 (y + 1)) k; rw [f23.1 _ (by omega)]
  | 1 => show zN 24 (m23.1 (y + 2)) k = zN 24 (m.1 (y + 2)) k; rw [f23.1 _ (by omega)]
  | 2 => show zN 6 (m23.1 (y + 3)) k = zN 6 (m.1 (y + 3)) k; rw [f23.1 _ (by omega)]
  | 3 => show zN 6 (m23.1 (y + 4)) k = zN 6 (m.1 (y + 4)) k; rw [f23.1 _ (by omega)]
  | 4 => show zN 6 (m23.1 r) k = zN 6 (m.1 r1) k; exact zN_eq sr
  | 5 =>
    match k with
    | 0 => show (m23.1 w 3).toInt = (m.1 w1 3).toInt; rw [s3]
    | 1 => show (m23.1 w 5).toInt = (m.1 w1 5).toInt; rw [s5]
    | 2 => show (m23.1 w 9).toInt = (m.1 w1 9).toInt; rw [s9]
    | 3 => show (m23.1 w 7).toInt = (m.1 w1 7).toInt; rw [s7]
    | 4 => show (m23.1 w 8).toInt = (m.1 w1 8).toInt; rw [s8]
    | 5 => show (m23.1 y 4).toInt = (m.1 y 4).toInt; rw [f23.1 _ (by omega)]
    | 6 => show (m23.1 y 5).toInt = (m.1 y 5).toInt; rw [f23.1 _ (by omega)]
    | 7 => show (m23.1 w 2).toInt = (m.1 w1 2).toInt; rw [s2]
    | 8 => show (m23.1 w 4).toInt = (m.1 w1 4).toInt; rw [s4]
    | 9 => show (m23.1 w 6).toInt = (m.1 w1 6).toInt; rw [s6]
    | 10 => show (m23.1 w 10).toInt = (m.1 w1 10).toInt; rw [s10]
    | 11 => show (m23.1 w 11).toInt = (m.1 w1 11).toInt; rw [s11]
    | 12 => show (m23.1 w 12).toInt = (m.1 w1 12).toInt; rw [s12]
    | n + 13 => show (0 : Int) = (if n + 13 = 5 ∨ n + 13 = 6 then (0 : Int) else 0); split <;> rfl
  | n + 6 => rfl
theorem zcopy_same {m : zf_Me} : zcopy (zv w y r m) (zv w1 y r1 m) = zv w1 y r1 m := by
  funext c k
  match c with
  | 0 => rfl
  | 1 => rfl
  | 2 => rfl
  | 3 => rfl
  | 4 => rfl
  | 5 =>
    match k with
    | 0 => rfl
    | 1 => rfl
    | 2 => rfl
    | 3 => rfl
    | 4 => rfl
    | 5 => rfl
    | 6 => rfl
    | 7 => rfl
    | 8 => rfl
    | 9 => rfl
    | 10 => rfl
    | 11 => rfl
    | 12 => rfl
    | n + 13 => show (if n + 13 = 5 ∨ n + 13 = 6 then (0 : Int) else 0) = 0; split <;> rfl
  | n + 6 => rfl
/-- a copy on the same way -/
theorem zs_43s (hd : zD w y r) (hw : ¬ w1 = w ∧ ¬ w1 = r ∧ ¬ r1 = w ∧ ¬ r1 = r) {Q : zf_Me → Prop} (hq : ∀ m', zv w y r m' = zv w1 y r1 m → zfw w r m m' → Q m') : wp_43 w y r w1 y r1 m Q :=
  zs_43 hd hw (fun m' z f => hq m' (z.trans zcopy_same) f)
abbrev zfy (y : Nat) (m m' : zf_Me) : Prop := zfr (fun a => y ≤ a ∧ a ≤ y + 4) m m'
theorem zs_63 (hd : zD w y r) (hw : y1 + 4 < y ∨ y + 4 < y1) {Q : zf_Me → Prop} (hq : ∀ m', zv w y r m' = zcopyw (zv w y r m) (zv w1 y1 r1 m) → zfy y m m' → Q m') : wp_63 y y1 m Q := by
  intro m1 q1 m3 q3 m5 q5 m7 q7 m9 q9 m11 q11
  have f1 : zfy y m m1 := by rw [q1]; exact zfr_cp zfr_refl (by omega)
  have f3 : zfy y m m3 := by rw [q3]; exact zfr_cp f1 (by omega)
  have f5 : zfy y m m5 := by rw [q5]; exact zfr_cp f3 (by omega)
  have f7 : zfy y m m7 := by rw [q7]; exact zfr_cp f5 (by omega)
  have f9 : zfy y m m9 := by rw [q9]; exact zfr_u f7 (by omega)
  have f11 : zfy y m m11 := by rw [q11]; exact zfr_u f9 (by omega)
  have s1 : ∀ k, k < 24 → m11.1 (y + 1) k = m.1 (y1 + 1) k := fun k hk => by rw [q11, zf_u1 (by omega), q9, zf_u1 (by omega), q7, zf_cp1 (by omega), q5, zf_cp1 (by omega), q3, zf_cp1 (by omega), q1, zf_cp2 hk]
  have s2 : ∀ k, k < 24 → m11.1 (y + 2) k = m.1 (y1 + 2) k := fun k hk => by rw [q11, zf_u1 (by omega), q9, zf_u1 (by omega), q7, zf_cp1 (by omega), q5, zf_cp1 (by omega), q3, zf_cp2 hk, f1.1 _ (by omega)]
  have s3 : ∀ k, k < 6 → m11.1 (y + 3) k = m.1 (y1 + 3) k := fun k hk => by rw [q11, zf_u1 (by omega), q9, zf_u1 (by omega), q7, zf_cp1 (by omega), q5, zf_cp2 hk, f3.1 _ (by omega)]
  have s4 : ∀ k, k < 6 → m11.1 (y + 4) k = m.1 (y1 + 4) k := fun k hk => by rw [q11, zf_u1 (by omega), q9, zf_u1 (by omega), q7, zf_cp2 hk, f5.1 _ (by omega)]
  have t4 : m11.1 y 4 = m.1 y1 4 := by rw [q11, zf_u4 (by decide), q9, zf_u3, f7.1 _ (by omega)]
  have t5 : m11.1 y 5 = m.1 y1 5 := by rw [q11, zf_u3, f9.1 _ (by omega)]
  refine hq m11 ?_ f11
  funext c k
  match c with
  | 0 => show zN 24 (m11.1 (y + 1)) k = zN 24 (m.1 (y1 + 1)) k; exact zN_eq s1
  | 1 => show zN 24 (m11.1 (y + 2)) k = zN 24 (m.1 (y1 + 2)) k; exact zN_eq s2
  | 2 => show zN 6 (m11.1 (y + 3)) k = zN 6 (m.1 (y1 + 3)) k; exact zN_eq s3
  | 3 => show zN 6 (m11.1 (y + 4)) k = zN 6 (m.1 (y1 + 4)) k; exact zN_eq s4
  | 4 => show zN 6 (m11.1 r) k = zN 6 (m.1 r) k; rw [f11.1 _ (by omega)]
  | 5 =>
    match k with
    | 0 => show (m11.1 w 3).toInt = (m.1 w 3).toInt; rw [f11.1 _ (by omega)]
    | 1 => show (m11.1 w 5).toInt = (m.1 w 5).toInt; rw [f11.1 _ (by omega)]
    | 2 => show (m11.1 w 9).toInt = (m.1 w 9).toInt; rw [f11.1 _ (by omega)]
    | 3 => show (m11.1 w 7).toInt = (m.1 w 7).toInt; rw [f11.1 _ (by omega)]
    | 4 => show (m11.1 w 8).toInt = (m.1 w 8).toInt; rw [f11.1 _ (by omega)]
    | 5 => show (m11.1 y 4).toInt = (m.1 y1 4).toInt; rw [t4]
    | 6 => show (m11.1 y 5).toInt = (m.1 y1 5).toInt; rw [t5]
    | 7 => show (m11.1 w 2).toInt = (m.1 w 2).toInt; rw [f11.1 _ (by omega)]
    | 8 => show (m11.1 w 4).toInt = (m.1 w 4).toInt; rw [f11.1 _ (by omega)]
    | 9 => show (m11.1 w 6).toInt = (m.1 w 6).toInt; rw [f11.1 _ (by omega)]
    | 10 => show (m11.1 w 10).toInt = (m.1 w 10).toInt; rw [f11.1 _ (by omega)]
    | 11 => show (m11.1 w 11).toInt = (m.1 w 11).toInt; rw [f11.1 _ (by omega)]
    | 12 => show (m11.1 w 12).toInt = (m.1 w 12).toInt; rw [f11.1 _ (by omega)]
    | n + 13 => show (0 : Int) = (if 5 ≤ 3 then _ else if 5 = 5 ∧ (n + 13 = 5 ∨ n + 13 = 6) then (0 : Int) else 0); rw [if_neg (by decide)]; split <;> rfl
  | n + 6 => show (0 : Int) = (if n + 6 ≤ 3 then _ else if n + 6 = 5 ∧ _ then _ else 0); rw [if_neg (by omega), if_neg (by omega)]
theorem zcopy_both {f g : zS} (h : ∀ c k, 5 < c → f c k = g c k) : zcopy (zcopyw f g) g = g := by
  funext c k
  unfold zcopy zcopyw
  by_cases e4 : c = 4
  · rw [if_pos e4, e4]
  · rw [if_neg e4]
    by_cases e5 : c = 5
    · rw [if_pos e5]
      subst e5
      by_cases ek : k = 5 ∨ k = 6
      · rw [if_pos ek, if_neg (by decide), if_pos ⟨rfl, ek⟩]
      · rw [if_neg ek]
    · rw [if_neg e5]
      by_cases e3 : c ≤ 3
      · rw [if_pos e3]
      · rw [if_neg e3, if_neg (fun z => e5 z.1)]
        exact h c k (by omega)
theorem zv_6 (a b d : Nat) (m : zf_Me) (n k : Nat) : zv a b d m (n + 6) k = 0 := rfl
theorem zv_hi {m m' : zf_Me} {a b d w y r : Nat} (c k : Nat) (h : 5 < c) : zv a b d m c k = zv w y r m' c k := by
  have e : c = (c - 6) + 6 := by omega
  rw [e, zv_6, zv_6]
/-- way and walk copied -/
theorem zs_63_43 (hd : zD w y r) (hw : y1 + 4 < y ∨ y + 4 < y1) (hx : ¬ w1 = w ∧ ¬ w1 = r ∧ ¬ r1 = w ∧ ¬ r1 = r) (h1 : (w1 < y ∨ y + 4 < w1) ∧ (r1 < y ∨ y + 4 < r1) ∧ (w < y1 ∨ y1 + 4 < w) ∧ (r < y1 ∨ y1 + 4 < r)) {Q : zf_Me → Prop} (hq : ∀ m', zv w y r m' = zv w1 y1 r1 m → zfr (fun a => (a = w ∨ a = r) ∨ (y ≤ a ∧ a ≤ y + 4)) m m' → Q m') : wp_63 y y1 m (fun m2 => wp_43 w y r w1 y1 r1 m2 Q) := by
  refine zs_63 (w := w) (r := r) (w1 := w1) (r1 := r1) hd hw (fun m2 z2 f2 => zs_43 hd hx (fun m3 z3 f3 => hq m3 ?_ ?_))
  · have e : zv w1 y1 r1 m2 = zv w1 y1 r1 m := zv_fr (f2.1 _ (by omega)) (fun a _ _ => f2.1 _ (by omega)) (f2.1 _ (by omega))
    rw [z3, z2, e]
    exact zcopy_both (fun c k h => zv_hi c k h)
  · exact zfr_trans (zfr_mono f2 (fun a ha => Or.inr ha)) (zfr_mono f3 (fun a ha => Or.inl ha))
theorem zs_44 (hd : zD w y r) (hp : 0 ≤ (m.1 y 5).toInt ∧ (m.1 y 5).toInt < 6) {k a : Int32} {Q : Int32 → zf_Me → Prop} (hq : ∀ m', zv w y r m' = zaddP (zv w y r m) k.toInt a.toInt → zfr (fun a => a = r ∨ (y ≤ a ∧ a ≤ y + 4)) m m' → Q (m.1 y 5) m') : wp_44 w y r k a m Q := by
  have e1 : (1 : Int32).toInt = 1 := rfl
  have e0 : (0 : Int32).toInt = 0 := rfl
  refine ⟨hp, fun m1 q1 => ?_⟩
  have f1 : zfr (fun a => a = r ∨ (y ≤ a ∧ a ≤ y + 4)) m m1 := by rw [q1]; exact zfr_u zfr_refl (Or.inr (by omega))
  have c1 : m1.1 y 5 = m.1 y 5 := by rw [q1, zf_u1 (by omega)]
  rw [c1]
  refine ⟨hp, fun m3 q3 => ?_⟩
  have f3 : zfr (fun a => a = r ∨ (y ≤ a ∧ a ≤ y + 4)) m m3 := by rw [q3]; exact zfr_u f1 (Or.inr (by omega))
  have c3 : m3.1 y 5 = m.1 y 5 := by rw [q3, zf_u1 (by omega), c1]
  rw [c3]
  refine ⟨hp, fun m5 q5 m7 q7 => ?_⟩
  have f5 : zfr (fun a => a = r ∨ (y ≤ a ∧ a ≤ y + 4)) m m5 := by rw [q5]; exact zfr_u f3 (Or.inl rfl)
  have c5 : m5.1 y 5 = m.1 y 5 := by rw [q5, zf_u1 (by omega), c3]
  rw [c5]
  refine hq m7 ?_ (by rw [q7]; exact zfr_u f5 (Or.inr (by omega)))
  rw [q7, zv_y5 hd, q5, zv_a4 hd (by omega), q3, zv_a3 hd (by omega), q1, zv_a2 hd (by omega), ← q1, ← q3, ← q5, c5, fb_addI (by omega) (by omega), e0, e1]
  rfl
theorem zs_66 (hd : zD w y r) (hp : 0 ≤ (m.1 y 4).toInt ∧ (m.1 y 4).toInt < 24) {s t : Int32} {Q : Int32 → zf_Me → Prop} (hq : ∀ m', zv w y r m' = zaddF (zv w y r m) s.toInt (if t.toInt = 0 then 0 else 1) → zfy y m m' → Q (m.1 y 4) m') : wp_66 y s t m Q := by
  have e1 : (1 : Int32).toInt = 1 := rfl
  have e0 : (0 : Int32).toInt = 0 := rfl
  refine ⟨hp, fun m1 q1 => ?_⟩
  have f1 : zfy y m m1 := by rw [q1]; exact zfr_u zfr_refl (by omega)
  have c1 : m1.1 y 4 = m.1 y 4 := by rw [q1, zf_u1 (by omega)]
  rw [c1]
  have fin : ∀ u : Int32, u.toInt = (if t.toInt = 0 then 0 else 1) → wq_66_27 y s t u (m.1 y 4) m1 Q := by
    intro u hu
    refine ⟨hp, fun m3 q3 m5 q5 => ?_⟩
    have f3 : zfy y m m3 := by rw [q3]; exact zfr_u f1 (by omega)
    have c3 : m3.1 y 4 = m.1 y 4 := by rw [q3, zf_u1 (by omega), c1]
    rw [c3]
    refine hq m5 ?_ (by rw [q5]; exact zfr_u f3 (by omega))
    rw [q5, zv_y4 hd, q3, zv_a1 hd (by omega), q1, zv_a0 hd (by omega), ← q1, ← q3, c3, fb_addI (by omega) (by omega), e1, hu]
    rfl
  exact ⟨fun g => fin 0 (by rw [if_pos g]; rfl), fun g => fin 1 (by rw [if_neg g]; rfl)⟩
theorem zs_45 {q : Int32} (hq0 : 0 ≤ q.toInt ∧ q.toInt < 5) {Q : Int32 → zf_Me → Prop} (hq : ∀ x : Int32, x.toInt = zv w y r m 5 q.toInt.toNat → Q x m) : wp_45 w y r q m Q := by
  refine ⟨fun g => hq _ ?_, fun g => hq _ ?_, fun g => hq _ ?_, fun g => hq _ ?_, fun g => hq _ ?_⟩
  · rw [show q.toInt.toNat = 4 by omega]; rfl
  · rw [g]; rfl
  · rw [g]; rfl
  · rw [g]; rfl
  · rw [g]; rfl
theorem zs_46 (hd : zD w y r) {q v : Int32} (hq0 : 0 ≤ q.toInt ∧ q.toInt < 5) {Q : zf_Me → Prop} (hq : ∀ m', zv w y r m' = zask (zv w y r m) q.toInt.toNat v.toInt → zfw w r m m' → Q m') : wp_46 w y r q v m Q := by
  refine ⟨fun g m1 q1 => hq _ ?_ ?_, fun g m3 q3 m5 q5 => hq _ ?_ ?_, fun g m1 q1 => hq _ ?_ ?_, fun g m1 q1 => hq _ ?_ ?_, fun g m1 q1 => hq _ ?_ ?_⟩
  · rw [q1, zv_w8 hd, show q.toInt.toNat = 4 by omega]; rfl
  · rw [q1]; exact zfr_u zfr_refl (Or.inl rfl)
  · rw [q5, zv_w4 hd, zi_min, q3, zv_w3 hd, zf_u4 (by decide), g]; rfl
  · rw [q5, q3]; exact zfr_u (zfr_u zfr_refl (Or.inl rfl)) (Or.inl rfl)
  · rw [q1, zv_w5 hd, g]; rfl
  · rw [q1]; exact zfr_u zfr_refl (Or.inl rfl)
  · rw [q1, zv_w9 hd, g]; rfl
  · rw [q1]; exact zfr_u zfr_refl (Or.inl rfl)
  · rw [q1, zv_w7 hd, g]; rfl
  · rw [q1]; exact zfr_u zfr_refl (Or.inl rfl)
end
