/-! part 47: what a store does to a walk as a function: laid by wip/flat/w47.py -/
abbrev zD (w y r : Nat) : Prop := ¬ r = w ∧ (r < y ∨ y + 4 < r) ∧ (w < y ∨ y + 4 < w)
section
variable {m : zf_Me} {c k a : Nat} {x : Int32}
theorem zf_u1 (h : ¬ a = c) : (zf_u m c k x).1 a = m.1 a := if_neg h
theorem zf_u2 : (zf_u m c k x).1 c = fun b => if b = k then x else m.1 c b := if_pos rfl
theorem zf_u3 : (zf_u m c k x).1 c k = x := by rw [zf_u2]; exact if_pos rfl
theorem zf_u4 {b : Nat} (h : ¬ b = k) : (zf_u m c k x).1 c b = m.1 c b := by rw [zf_u2]; exact if_neg h
theorem zN_up {n k : Nat} {a : Nat → Int32} {x : Int32} (hk : k < n) (j : Nat) : zN n (fun b => if b = k then x else a b) j = if j = k then x.toInt else zN n a j := by
  show (if j < n then (if j = k then x else a j).toInt else 0) = if j = k then x.toInt else if j < n then (a j).toInt else 0
  by_cases e : j = k
  · subst e
    rw [if_pos hk, if_pos rfl, if_pos rfl]
  · rw [if_neg e, if_neg e]
theorem zU_s {f : zS} {c k : Nat} {x : Int} : zU f c k x c k = x := if_pos ⟨rfl, rfl⟩
theorem zU_o {f : zS} {c k a b : Nat} {x : Int} (h : ¬ (a = c ∧ b = k)) : zU f c k x a b = f a b := if_neg h
theorem zi_max {x y : Int32} : (if x < y then y else x).toInt = if x.toInt < y.toInt then y.toInt else x.toInt := by
  by_cases h : x < y
  · rw [if_pos h, if_pos (zi_lt.mp h)]
  · rw [if_neg h, if_neg (fun z => h (zi_lt.mpr z))]
theorem zi_min {x y : Int32} : (if y < x then y else x).toInt = if y.toInt < x.toInt then y.toInt else x.toInt := by
  by_cases h : y < x
  · rw [if_pos h, if_pos (zi_lt.mp h)]
  · rw [if_neg h, if_neg (fun z => h (zi_lt.mpr z))]
theorem zi_inj {x y : Int32} (h : x.toInt = y.toInt) : x = y := Int32.toInt_inj.mp h
end
section
variable {w y r : Nat} {m : zf_Me} {x : Int32}
theorem zv_w3 (hd : zD w y r) : zv w y r (zf_u m w 3 x) = zU (zv w y r m) 5 0 x.toInt := by
  funext c k
  match c with
  | 0 =>
    show zN 24 ((zf_u m w 3 x).1 (y + 1)) k = zN 24 (m.1 (y + 1)) k
    rw [zf_u1 (by omega)]
  | 1 =>
    show zN 24 ((zf_u m w 3 x).1 (y + 2)) k = zN 24 (m.1 (y + 2)) k
    rw [zf_u1 (by omega)]
  | 2 =>
    show zN 6 ((zf_u m w 3 x).1 (y + 3)) k = zN 6 (m.1 (y + 3)) k
    rw [zf_u1 (by omega)]
  | 3 =>
    show zN 6 ((zf_u m w 3 x).1 (y + 4)) k = zN 6 (m.1 (y + 4)) k
    rw [zf_u1 (by omega)]
  | 4 =>
    show zN 6 ((zf_u m w 3 x).1 r) k = zN 6 (m.1 r) k
    rw [zf_u1 (by omega)]
  | 5 =>
    match k with
    | 0 => show ((zf_u m w 3 x).1 w 3).toInt = _; rw [zf_u3]; rfl
    | 1 => show ((zf_u m w 3 x).1 w 5).toInt = (m.1 w 5).toInt; rw [zf_u4 (by decide)]
    | 2 => show ((zf_u m w 3 x).1 w 9).toInt = (m.1 w 9).toInt; rw [zf_u4 (by decide)]
    | 3 => show ((zf_u m w 3 x).1 w 7).toInt = (m.1 w 7).toInt; rw [zf_u4 (by decide)]
    | 4 => show ((zf_u m w 3 x).1 w 8).toInt = (m.1 w 8).toInt; rw [zf_u4 (by decide)]
    | 5 => show ((zf_u m w 3 x).1 y 4).toInt = (m.1 y 4).toInt; rw [zf_u1 (by omega)]
    | 6 => show ((zf_u m w 3 x).1 y 5).toInt = (m.1 y 5).toInt; rw [zf_u1 (by omega)]
    | 7 => show ((zf_u m w 3 x).1 w 2).toInt = (m.1 w 2).toInt; rw [zf_u4 (by decide)]
    | 8 => show ((zf_u m w 3 x).1 w 4).toInt = (m.1 w 4).toInt; rw [zf_u4 (by decide)]
    | 9 => show ((zf_u m w 3 x).1 w 6).toInt = (m.1 w 6).toInt; rw [zf_u4 (by decide)]
    | 10 => show ((zf_u m w 3 x).1 w 10).toInt = (m.1 w 10).toInt; rw [zf_u4 (by decide)]
    | 11 => show ((zf_u m w 3 x).1 w 11).toInt = (m.1 w 11).toInt; rw [zf_u4 (by decide)]
    | 12 => show ((zf_u m w 3 x).1 w 12).toInt = (m.1 w 12).toInt; rw [zf_u4 (by decide)]
    | n + 13 => rfl
  | n + 6 => rfl
theorem zv_w5 (hd : zD w y r) : zv w y r (zf_u m w 5 x) = zU (zv w y r m) 5 1 x.toInt := by
  funext c k
  match c with
  | 0 =>
    show zN 24 ((zf_u m w 5 x).1 (y + 1)) k = zN 24 (m.1 (y + 1)) k
    rw [zf_u1 (by omega)]
  | 1 =>
    show zN 24 ((zf_u m w 5 x).1 (y + 2)) k = zN 24 (m.1 (y + 2)) k
    rw [zf_u1 (by omega)]
  | 2 =>
    show zN 6 ((zf_u m w 5 x).1 (y + 3)) k = zN 6 (m.1 (y + 3)) k
    rw [zf_u1 (by omega)]
  | 3 =>
    show zN 6 ((zf_u m w 5 x).1 (y + 4)) k = zN 6 (m.1 (y + 4)) k
    rw [zf_u1 (by omega)]
  | 4 =>
    show zN 6 ((zf_u m w 5 x).1 r) k = zN 6 (m.1 r) k
    rw [zf_u1 (by omega)]
  | 5 =>
    match k with
    | 0 => show ((zf_u m w 5 x).1 w 3).toInt = (m.1 w 3).toInt; rw [zf_u4 (by decide)]
    | 1 => show ((zf_u m w 5 x).1 w 5).toInt = _; rw [zf_u3]; rfl
    | 2 => show ((zf_u m w 5 x).1 w 9).toInt = (m.1 w 9).toInt; rw [zf_u4 (by decide)]
    | 3 => show ((zf_u m w 5 x).1 w 7).toInt = (m.1 w 7).toInt; rw [zf_u4 (by decide)]
    | 4 => show ((zf_u m w 5 x).1 w 8).toInt = (m.1 w 8).toInt; rw [zf_u4 (by decide)]
    | 5 => show ((zf_u m w 5 x).1 y 4).toInt = (m.1 y 4).toInt; rw [zf_u1 (by omega)]
    | 6 => show ((zf_u m w 5 x).1 y 5).toInt = (m.1 y 5).toInt; rw [zf_u1 (by omega)]
    | 7 => show ((zf_u m w 5 x).1 w 2).toInt = (m.1 w 2).toInt; rw [zf_u4 (by decide)]
    | 8 => show ((zf_u m w 5 x).1 w 4).toInt = (m.1 w 4).toInt; rw [zf_u4 (by decide)]
    | 9 => show ((zf_u m w 5 x).1 w 6).toInt = (m.1 w 6).toInt; rw [zf_u4 (by decide)]
    | 10 => show ((zf_u m w 5 x).1 w 10).toInt = (m.1 w 10).toInt; rw [zf_u4 (by decide)]
    | 11 => show ((zf_u m w 5 x).1 w 11).toInt = (m.1 w 11).toInt; rw [zf_u4 (by decide)]
    | 12 => show ((zf_u m w 5 x).1 w 12).toInt = (m.1 w 12).toInt; rw [zf_u4 (by decide)]
    | n + 13 => rfl
  | n + 6 => rfl
theorem zv_w9 (hd : zD w y r) : zv w y r (zf_u m w 9 x) = zU (zv w y r m) 5 2 x.toInt := by
  funext c k
  match c with
  | 0 =>
    show zN 24 ((zf_u m w 9 x).1 (y + 1)) k = zN 24 (m.1 (y + 1)) k
    rw [zf_u1 (by omega)]
  | 1 =>
    show zN 24 ((zf_u m w 9 x).1 (y + 2)) k = zN 24 (m.1 (y + 2)) k
    rw [zf_u1 (by omega)]
  | 2 =>
    show zN 6 ((zf_u m w 9 x).1 (y + 3)) k = zN 6 (m.1 (y + 3)) k
    rw [zf_u1 (by omega)]
  | 3 =>
    show zN 6 ((zf_u m w 9 x).1 (y + 4)) k = zN 6 (m.1 (y + 4)) k
    rw [zf_u1 (by omega)]
  | 4 =>
    show zN 6 ((zf_u m w 9 x).1 r) k = zN 6 (m.1 r) k
    rw [zf_u1 (by omega)]
  | 5 =>
    match k with
    | 0 => show ((zf_u m w 9 x).1 w 3).toInt = (m.1 w 3).toInt; rw [zf_u4 (by decide)]
    | 1 => show ((zf_u m w 9 x).1 w 5).toInt = (m.1 w 5).toInt; rw [zf_u4 (by decide)]
    | 2 => show ((zf_u m w 9 x).1 w 9).toInt = _; rw [zf_u3]; rfl
    | 3 => show ((zf_u m w 9 x).1 w 7).toInt = (m.1 w 7).toInt; rw [zf_u4 (by decide)]
    | 4 => show ((zf_u m w 9 x).1 w 8).toInt = (m.1 w 8).toInt; rw [zf_u4 (by decide)]
    | 5 => show ((zf_u m w 9 x).1 y 4).toInt = (m.1 y 4).toInt; rw [zf_u1 (by omega)]
    | 6 => show ((zf_u m w 9 x).1 y 5).toInt = (m.1 y 5).toInt; rw [zf_u1 (by omega)]
    | 7 => show ((zf_u m w 9 x).1 w 2).toInt = (m.1 w 2).toInt; rw [zf_u4 (by decide)]
    | 8 => show ((zf_u m w 9 x).1 w 4).toInt = (m.1 w 4).toInt; rw [zf_u4 (by decide)]
    | 9 => show ((zf_u m w 9 x).1 w 6).toInt = (m.1 w 6).toInt; rw [zf_u4 (by decide)]
    | 10 => show ((zf_u m w 9 x).1 w 10).toInt = (m.1 w 10).toInt; rw [zf_u4 (by decide)]
    | 11 => show ((zf_u m w 9 x).1 w 11).toInt = (m.1 w 11).toInt; rw [zf_u4 (by decide)]
    | 12 => show ((zf_u m w 9 x).1 w 12).toInt = (m.1 w 12).toInt; rw [zf_u4 (by decide)]
    | n + 13 => rfl
  | n + 6 => rfl
theorem zv_w7 (hd : zD w y r) : zv w y r (zf_u m w 7 x) = zU (zv w y r m) 5 3 x.toInt := by
  funext c k
  match c with
  | 0 =>
    show zN 24 ((zf_u m w 7 x).1 (y + 1)) k = zN 24 (m.1 (y + 1)) k
    rw [zf_u1 (by omega)]
  | 1 =>
    show zN 24 ((zf_u m w 7 x).1 (y + 2)) k = zN 24 (m.1 (y + 2)) k
    rw [zf_u1 (by omega)]
  | 2 =>
    show zN 6 ((zf_u m w 7 x).1 (y + 3)) k = zN 6 (m.1 (y + 3)) k
    rw [zf_u1 (by omega)]
  | 3 =>
    show zN 6 ((zf_u m w 7 x).1 (y + 4)) k = zN 6 (m.1 (y + 4)) k
    rw [zf_u1 (by omega)]
  | 4 =>
    show zN 6 ((zf_u m w 7 x).1 r) k = zN 6 (m.1 r) k
    rw [zf_u1 (by omega)]
  | 5 =>
    match k with
    | 0 => show ((zf_u m w 7 x).1 w 3).toInt = (m.1 w 3).toInt; rw [zf_u4 (by decide)]
    | 1 => show ((zf_u m w 7 x).1 w 5).toInt = (m.1 w 5).toInt; rw [zf_u4 (by decide)]
    | 2 => show ((zf_u m w 7 x).1 w 9).toInt = (m.1 w 9).toInt; rw [zf_u4 (by decide)]
    | 3 => show ((zf_u m w 7 x).1 w 7).toInt = _; rw [zf_u3]; rfl
    | 4 => show ((zf_u m w 7 x).1 w 8).toInt = (m.1 w 8).toInt; rw [zf_u4 (by decide)]
    | 5 => show ((zf_u m w 7 x).1 y 4).toInt = (m.1 y 4).toInt; rw [zf_u1 (by omega)]
    | 6 => show ((zf_u m w 7 x).1 y 5).toInt = (m.1 y 5).toInt; rw [zf_u1 (by omega)]
    | 7 => show ((zf_u m w 7 x).1 w 2).toInt = (m.1 w 2).toInt; rw [zf_u4 (by decide)]
    | 8 => show ((zf_u m w 7 x).1 w 4).toInt = (m.1 w 4).toInt; rw [zf_u4 (by decide)]
    | 9 => show ((zf_u m w 7 x).1 w 6).toInt = (m.1 w 6).toInt; rw [zf_u4 (by decide)]
    | 10 => show ((zf_u m w 7 x).1 w 10).toInt = (m.1 w 10).toInt; rw [zf_u4 (by decide)]
    | 11 => show ((zf_u m w 7 x).1 w 11).toInt = (m.1 w 11).toInt; rw [zf_u4 (by decide)]
    | 12 => show ((zf_u m w 7 x).1 w 12).toInt = (m.1 w 12).toInt; rw [zf_u4 (by decide)]
    | n + 13 => rfl
  | n + 6 => rfl
theorem zv_w8 (hd : zD w y r) : zv w y r (zf_u m w 8 x) = zU (zv w y r m) 5 4 x.toInt := by
  funext c k
  match c with
  | 0 =>
    show zN 24 ((zf_u m w 8 x).1 (y + 1)) k = zN 24 (m.1 (y + 1)) k
    rw [zf_u1 (by omega)]
  | 1 =>
    show zN 24 ((zf_u m w 8 x).1 (y + 2)) k = zN 24 (m.1 (y + 2)) k
    rw [zf_u1 (by omega)]
  | 2 =>
    show zN 6 ((zf_u m w 8 x).1 (y + 3)) k = zN 6 (m.1 (y + 3)) k
    rw [zf_u1 (by omega)]
  | 3 =>
    show zN 6 ((zf_u m w 8 x).1 (y + 4)) k = zN 6 (m.1 (y + 4)) k
    rw [zf_u1 (by omega)]
  | 4 =>
    show zN 6 ((zf_u m w 8 x).1 r) k = zN 6 (m.1 r) k
    rw [zf_u1 (by omega)]
  | 5 =>
    match k with
    | 0 => show ((zf_u m w 8 x).1 w 3).toInt = (m.1 w 3).toInt; rw [zf_u4 (by decide)]
    | 1 => show ((zf_u m w 8 x).1 w 5).toInt = (m.1 w 5).toInt; rw [zf_u4 (by decide)]
    | 2 => show ((zf_u m w 8 x).1 w 9).toInt = (m.1 w 9).toInt; rw [zf_u4 (by decide)]
    | 3 => show ((zf_u m w 8 x).1 w 7).toInt = (m.1 w 7).toInt; rw [zf_u4 (by decide)]
    | 4 => show ((zf_u m w 8 x).1 w 8).toInt = _; rw [zf_u3]; rfl
    | 5 => show ((zf_u m w 8 x).1 y 4).toInt = (m.1 y 4).toInt; rw [zf_u1 (by omega)]
    | 6 => show ((zf_u m w 8 x).1 y 5).toInt = (m.1 y 5).toInt; rw [zf_u1 (by omega)]
    | 7 => show ((zf_u m w 8 x).1 w 2).toInt = (m.1 w 2).toInt; rw [zf_u4 (by decide)]
    | 8 => show ((zf_u m w 8 x).1 w 4).toInt = (m.1 w 4).toInt; rw [zf_u4 (by decide)]
    | 9 => show ((zf_u m w 8 x).1 w 6).toInt = (m.1 w 6).toInt; rw [zf_u4 (by decide)]
    | 10 => show ((zf_u m w 8 x).1 w 10).toInt = (m.1 w 10).toInt; rw [zf_u4 (by decide)]
    | 11 => show ((zf_u m w 8 x).1 w 11).toInt = (m.1 w 11).toInt; rw [zf_u4 (by decide)]
    | 12 => show ((zf_u m w 8 x).1 w 12).toInt = (m.1 w 12).toInt; rw [zf_u4 (by decide)]
    | n + 13 => rfl
  | n + 6 => rfl
theorem zv_w2 (hd : zD w y r) : zv w y r (zf_u m w 2 x) = zU (zv w y r m) 5 7 x.toInt := by
  funext c k
  match c with
  | 0 =>
    show zN 24 ((zf_u m w 2 x).1 (y + 1)) k = zN 24 (m.1 (y + 1)) k
    rw [zf_u1 (by omega)]
  | 1 =>
    show zN 24 ((zf_u m w 2 x).1 (y + 2)) k = zN 24 (m.1 (y + 2)) k
    rw [zf_u1 (by omega)]
  | 2 =>
    show zN 6 ((zf_u m w 2 x).1 (y + 3)) k = zN 6 (m.1 (y + 3)) k
    rw [zf_u1 (by omega)]
  | 3 =>
    show zN 6 ((zf_u m w 2 x).1 (y + 4)) k = zN 6 (m.1 (y + 4)) k
    rw [zf_u1 (by omega)]
  | 4 =>
    show zN 6 ((zf_u m w 2 x).1 r) k = zN 6 (m.1 r) k
    rw [zf_u1 (by omega)]
  | 5 =>
    match k with
    | 0 => show ((zf_u m w 2 x).1 w 3).toInt = (m.1 w 3).toInt; rw [zf_u4 (by decide)]
    | 1 => show ((zf_u m w 2 x).1 w 5).toInt = (m.1 w 5).toInt; rw [zf_u4 (by decide)]
    | 2 => show ((zf_u m w 2 x).1 w 9).toInt = (m.1 w 9).toInt; rw [zf_u4 (by decide)]
    | 3 => show ((zf_u m w 2 x).1 w 7).toInt = (m.1 w 7).toInt; rw [zf_u4 (by decide)]
    | 4 => show ((zf_u m w 2 x).1 w 8).toInt = (m.1 w 8).toInt; rw [zf_u4 (by decide)]
    | 5 => show ((zf_u m w 2 x).1 y 4).toInt = (m.1 y 4).toInt; rw [zf_u1 (by omega)]
    | 6 => show ((zf_u m w 2 x).1 y 5).toInt = (m.1 y 5).toInt; rw [zf_u1 (by omega)]
    | 7 => show ((zf_u m w 2 x).1 w 2).toInt = _; rw [zf_u3]; rfl
    | 8 => show ((zf_u m w 2 x).1 w 4).toInt = (m.1 w 4).toInt; rw [zf_u4 (by decide)]
    | 9 => show ((zf_u m w 2 x).1 w 6).toInt = (m.1 w 6).toInt; rw [zf_u4 (by decide)]
    | 10 => show ((zf_u m w 2 x).1 w 10).toInt = (m.1 w 10).toInt; rw [zf_u4 (by decide)]
    | 11 => show ((zf_u m w 2 x).1 w 11).toInt = (m.1 w 11).toInt; rw [zf_u4 (by decide)]
    | 12 => show ((zf_u m w 2 x).1 w 12).toInt = (m.1 w 12).toInt; rw [zf_u4 (by decide)]
    | n + 13 => rfl
  | n + 6 => rfl
theorem zv_w4 (hd : zD w y r) : zv w y r (zf_u m w 4 x) = zU (zv w y r m) 5 8 x.toInt := by
  funext c k
  match c with
  | 0 =>
    show zN 24 ((zf_u m w 4 x).1 (y + 1)) k = zN 24 (m.1 (y + 1)) k
    rw [zf_u1 (by omega)]
  | 1 =>
    show zN 24 ((zf_u m w 4 x).1 (y + 2)) k = zN 24 (m.1 (y + 2)) k
    rw [zf_u1 (by omega)]
  | 2 =>
    show zN 6 ((zf_u m w 4 x).1 (y + 3)) k = zN 6 (m.1 (y + 3)) k
    rw [zf_u1 (by omega)]
  | 3 =>
    show zN 6 ((zf_u m w 4 x).1 (y + 4)) k = zN 6 (m.1 (y + 4)) k
    rw [zf_u1 (by omega)]
  | 4 =>
    show zN 6 ((zf_u m w 4 x).1 r) k = zN 6 (m.1 r) k
    rw [zf_u1 (by omega)]
  | 5 =>
    match k with
    | 0 => show ((zf_u m w 4 x).1 w 3).toInt = (m.1 w 3).toInt; rw [zf_u4 (by decide)]
    | 1 => show ((zf_u m w 4 x).1 w 5).toInt = (m.1 w 5).toInt; rw [zf_u4 (by decide)]
    | 2 => show ((zf_u m w 4 x).1 w 9).toInt = (m.1 w 9).toInt; rw [zf_u4 (by decide)]
    | 3 => show ((zf_u m w 4 x).1 w 7).toInt = (m.1 w 7).toInt; rw [zf_u4 (by decide)]
    | 4 => show ((zf_u m w 4 x).1 w 8).toInt = (m.1 w 8).toInt; rw [zf_u4 (by decide)]
    | 5 => show ((zf_u m w 4 x).1 y 4).toInt = (m.1 y 4).toInt; rw [zf_u1 (by omega)]
    | 6 => show ((zf_u m w 4 x).1 y 5).toInt = (m.1 y 5).toInt; rw [zf_u1 (by omega)]
    | 7 => show ((zf_u m w 4 x).1 w 2).toInt = (m.1 w 2).toInt; rw [zf_u4 (by decide)]
    | 8 => show ((zf_u m w 4 x).1 w 4).toInt = _; rw [zf_u3]; rfl
    | 9 => show ((zf_u m w 4 x).1 w 6).toInt = (m.1 w 6).toInt; rw [zf_u4 (by decide)]
    | 10 => show ((zf_u m w 4 x).1 w 10).toInt = (m.1 w 10).toInt; rw [zf_u4 (by decide)]
    | 11 => show ((zf_u m w 4 x).1 w 11).toInt = (m.1 w 11).toInt; rw [zf_u4 (by decide)]
    | 12 => show ((zf_u m w 4 x).1 w 12).toInt = (m.1 w 12).toInt; rw [zf_u4 (by decide)]
    | n + 13 => rfl
  | n + 6 => rfl
theorem zv_w6 (hd : zD w y r) : zv w y r (zf_u m w 6 x) = zU (zv w y r m) 5 9 x.toInt := by
  funext c k
  match c with
  | 0 =>
    show zN 24 ((zf_u m w 6 x).1 (y + 1)) k = zN 24 (m.1 (y + 1)) k
    rw [zf_u1 (by omega)]
  | 1 =>
    show zN 24 ((zf_u m w 6 x).1 (y + 2)) k = zN 24 (m.1 (y + 2)) k
    rw [zf_u1 (by omega)]
  | 2 =>
    show zN 6 ((zf_u m w 6 x).1 (y + 3)) k = zN 6 (m.1 (y + 3)) k
    rw [zf_u1 (by omega)]
  | 3 =>
    show zN 6 ((zf_u m w 6 x).1 (y + 4)) k = zN 6 (m.1 (y + 4)) k
    rw [zf_u1 (by omega)]
  | 4 =>
    show zN 6 ((zf_u m w 6 x).1 r) k = zN 6 (m.1 r) k
    rw [zf_u1 (by omega)]
  | 5 =>
    match k with
    | 0 => show ((zf_u m w 6 x).1 w 3).toInt = (m.1 w 3).toInt; rw [zf_u4 (by decide)]
    | 1 => show ((zf_u m w 6 x).1 w 5).toInt = (m.1 w 5).toInt; rw [zf_u4 (by decide)]
    | 2 => show ((zf_u m w 6 x).1 w 9).toInt = (m.1 w 9).toInt; rw [zf_u4 (by decide)]
    | 3 => show ((zf_u m w 6 x).1 w 7).toInt = (m.1 w 7).toInt; rw [zf_u4 (by decide)]
    | 4 => show ((zf_u m w 6 x).1 w 8).toInt = (m.1 w 8).toInt; rw [zf_u4 (by decide)]
    | 5 => show ((zf_u m w 6 x).1 y 4).toInt = (m.1 y 4).toInt; rw [zf_u1 (by omega)]
    | 6 => show ((zf_u m w 6 x).1 y 5).toInt = (m.1 y 5).toInt; rw [zf_u1 (by omega)]
    | 7 => show ((zf_u m w 6 x).1 w 2).toInt = (m.1 w 2).toInt; rw [zf_u4 (by decide)]
    | 8 => show ((zf_u m w 6 x).1 w 4).toInt = (m.1 w 4).toInt; rw [zf_u4 (by decide)]
    | 9 => show ((zf_u m w 6 x).1 w 6).toInt = _; rw [zf_u3]; rfl
    | 10 => show ((zf_u m w 6 x).1 w 10).toInt = (m.1 w 10).toInt; rw [zf_u4 (by decide)]
    | 11 => show ((zf_u m w 6 x).1 w 11).toInt = (m.1 w 11).toInt; rw [zf_u4 (by decide)]
    | 12 => show ((zf_u m w 6 x).1 w 12).toInt = (m.1 w 12).toInt; rw [zf_u4 (by decide)]
    | n + 13 => rfl
  | n + 6 => rfl
theorem zv_w10 (hd : zD w y r) : zv w y r (zf_u m w 10 x) = zU (zv w y r m) 5 10 x.toInt := by
  funext c k
  match c with
  | 0 =>
    show zN 24 ((zf_u m w 10 x).1 (y + 1)) k = zN 24 (m.1 (y + 1)) k
    rw [zf_u1 (by omega)]
  | 1 =>
    show zN 24 ((zf_u m w 10 x).1 (y + 2)) k = zN 24 (m.1 (y + 2)) k
    rw [zf_u1 (by omega)]
  | 2 =>
    show zN 6 ((zf_u m w 10 x).1 (y + 3)) k = zN 6 (m.1 (y + 3)) k
    rw [zf_u1 (by omega)]
  | 3 =>
    show zN 6 ((zf_u m w 10 x).1 (y + 4)) k = zN 6 (m.1 (y + 4)) k
    rw [zf_u1 (by omega)]
  | 4 =>
    show zN 6 ((zf_u m w 10 x).1 r) k = zN 6 (m.1 r) k
    rw [zf_u1 (by omega)]
  | 5 =>
    match k with
    | 0 => show ((zf_u m w 10 x).1 w 3).toInt = (m.1 w 3).toInt; rw [zf_u4 (by decide)]
    | 1 => show ((zf_u m w 10 x).1 w 5).toInt = (m.1 w 5).toInt; rw [zf_u4 (by decide)]
    | 2 => show ((zf_u m w 10 x).1 w 9).toInt = (m.1 w 9).toInt; rw [zf_u4 (by decide)]
    | 3 => show ((zf_u m w 10 x).1 w 7).toInt = (m.1 w 7).toInt; rw [zf_u4 (by decide)]
    | 4 => show ((zf_u m w 10 x).1 w 8).toInt = (m.1 w 8).toInt; rw [zf_u4 (by decide)]
    | 5 => show ((zf_u m w 10 x).1 y 4).toInt = (m.1 y 4).toInt; rw [zf_u1 (by omega)]
    | 6 => show ((zf_u m w 10 x).1 y 5).toInt = (m.1 y 5).toInt; rw [zf_u1 (by omega)]
    | 7 => show ((zf_u m w 10 x).1 w 2).toInt = (m.1 w 2).toInt; rw [zf_u4 (by decide)]
    | 8 => show ((zf_u m w 10 x).1 w 4).toInt = (m.1 w 4).toInt; rw [zf_u4 (by decide)]
    | 9 => show ((zf_u m w 10 x).1 w 6).toInt = (m.1 w 6).toInt; rw [zf_u4 (by decide)]
    | 10 => show ((zf_u m w 10 x).1 w 10).toInt = _; rw [zf_u3]; rfl
    | 11 => show ((zf_u m w 10 x).1 w 11).toInt = (m.1 w 11).toInt; rw [zf_u4 (by decide)]
    | 12 => show ((zf_u m w 10 x).1 w 12).toInt = (m.1 w 12).toInt; rw [zf_u4 (by decide)]
    | n + 13 => rfl
  | n + 6 => rfl
theorem zv_w11 (hd : zD w y r) : zv w y r (zf_u m w 11 x) = zU (zv w y r m) 5 11 x.toInt := by
  funext c k
  match c with
  | 0 =>
    show zN 24 ((zf_u m w 11 x).1 (y + 1)) k = zN 24 (m.1 (y + 1)) k
    rw [zf_u1 (by omega)]
  | 1 =>
    show zN 24 ((zf_u m w 11 x).1 (y + 2)) k = zN 24 (m.1 (y + 2)) k
    rw [zf_u1 (by omega)]
  | 2 =>
    show zN 6 ((zf_u m w 11 x).1 (y + 3)) k = zN 6 (m.1 (y + 3)) k
    rw [zf_u1 (by omega)]
  | 3 =>
    show zN 6 ((zf_u m w 11 x).1 (y + 4)) k = zN 6 (m.1 (y + 4)) k
    rw [zf_u1 (by omega)]
  | 4 =>
    show zN 6 ((zf_u m w 11 x).1 r) k = zN 6 (m.1 r) k
    rw [zf_u1 (by omega)]
  | 5 =>
    match k with
    | 0 => show ((zf_u m w 11 x).1 w 3).toInt = (m.1 w 3).toInt; rw [zf_u4 (by decide)]
    | 1 => show ((zf_u m w 11 x).1 w 5).toInt = (m.1 w 5).toInt; rw [zf_u4 (by decide)]
    | 2 => show ((zf_u m w 11 x).1 w 9).toInt = (m.1 w 9).toInt; rw [zf_u4 (by decide)]
    | 3 => show ((zf_u m w 11 x).1 w 7).toInt = (m.1 w 7).toInt; rw [zf_u4 (by decide)]
    | 4 => show ((zf_u m w 11 x).1 w 8).toInt = (m.1 w 8).toInt; rw [zf_u4 (by decide)]
    | 5 => show ((zf_u m w 11 x).1 y 4).toInt = (m.1 y 4).toInt; rw [zf_u1 (by omega)]
    | 6 => show ((zf_u m w 11 x).1 y 5).toInt = (m.1 y 5).toInt; rw [zf_u1 (by omega)]
    | 7 => show ((zf_u m w 11 x).1 w 2).toInt = (m.1 w 2).toInt; rw [zf_u4 (by decide)]
    | 8 => show ((zf_u m w 11 x).1 w 4).toInt = (m.1 w 4).toInt; rw [zf_u4 (by decide)]
    | 9 => show ((zf_u m w 11 x).1 w 6).toInt = (m.1 w 6).toInt; rw [zf_u4 (by decide)]
    | 10 => show ((zf_u m w 11 x).1 w 10).toInt = (m.1 w 10).toInt; rw [zf_u4 (by decide)]
    | 11 => show ((zf_u m w 11 x).1 w 11).toInt = _; rw [zf_u3]; rfl
    | 12 => show ((zf_u m w 11 x).1 w 12).toInt = (m.1 w 12).toInt; rw [zf_u4 (by decide)]
    | n + 13 => rfl
  | n + 6 => rfl
theorem zv_w12 (hd : zD w y r) : zv w y r (zf_u m w 12 x) = zU (zv w y r m) 5 12 x.toInt := by
  funext c k
  match c with
  | 0 =>
    show zN 24 ((zf_u m w 12 x).1 (y + 1)) k = zN 24 (m.1 (y + 1)) k
    rw [zf_u1 (by omega)]
  | 1 =>
    show zN 24 ((zf_u m w 12 x).1 (y + 2)) k = zN 24 (m.1 (y + 2)) k
    rw [zf_u1 (by omega)]
  | 2 =>
    show zN 6 ((zf_u m w 12 x).1 (y + 3)) k = zN 6 (m.1 (y + 3)) k
    rw [zf_u1 (by omega)]
  | 3 =>
    show zN 6 ((zf_u m w 12 x).1 (y + 4)) k = zN 6 (m.1 (y + 4)) k
    rw [zf_u1 (by omega)]
  | 4 =>
    show zN 6 ((zf_u m w 12 x).1 r) k = zN 6 (m.1 r) k
    rw [zf_u1 (by omega)]
  | 5 =>
    match k with
    | 0 => show ((zf_u m w 12 x).1 w 3).toInt = (m.1 w 3).toInt; rw [zf_u4 (by decide)]
    | 1 => show ((zf_u m w 12 x).1 w 5).toInt = (m.1 w 5).toInt; rw [zf_u4 (by decide)]
    | 2 => show ((zf_u m w 12 x).1 w 9).toInt = (m.1 w 9).toInt; rw [zf_u4 (by decide)]
    | 3 => show ((zf_u m w 12 x).1 w 7).toInt = (m.1 w 7).toInt; rw [zf_u4 (by decide)]
    | 4 => show ((zf_u m w 12 x).1 w 8).toInt = (m.1 w 8).toInt; rw [zf_u4 (by decide)]
    | 5 => show ((zf_u m w 12 x).1 y 4).toInt = (m.1 y 4).toInt; rw [zf_u1 (by omega)]
    | 6 => show ((zf_u m w 12 x).1 y 5).toInt = (m.1 y 5).toInt; rw [zf_u1 (by omega)]
    | 7 => show ((zf_u m w 12 x).1 w 2).toInt = (m.1 w 2).toInt; rw [zf_u4 (by decide)]
    | 8 => show ((zf_u m w 12 x).1 w 4).toInt = (m.1 w 4).toInt; rw [zf_u4 (by decide)]
    | 9 => show ((zf_u m w 12 x).1 w 6).toInt = (m.1 w 6).toInt; rw [zf_u4 (by decide)]
    | 10 => show ((zf_u m w 12 x).1 w 10).toInt = (m.1 w 10).toInt; rw [zf_u4 (by decide)]
    | 11 => show ((zf_u m w 12 x).1 w 11).toInt = (m.1 w 11).toInt; rw [zf_u4 (by decide)]
    | 12 => show ((zf_u m w 12 x).1 w 12).toInt = _; rw [zf_u3]; rfl
    | n + 13 => rfl
  | n + 6 => rfl
theorem zv_y4 (hd : zD w y r) : zv w y r (zf_u m y 4 x) = zU (zv w y r m) 5 5 x.toInt := by
  funext c k
  match c with
  | 0 =>
    show zN 24 ((zf_u m y 4 x).1 (y + 1)) k = zN 24 (m.1 (y + 1)) k
    rw [zf_u1 (by omega)]
  | 1 =>
    show zN 24 ((zf_u m y 4 x).1 (y + 2)) k = zN 24 (m.1 (y + 2)) k
    rw [zf_u1 (by omega)]
  | 2 =>
    show zN 6 ((zf_u m y 4 x).1 (y + 3)) k = zN 6 (m.1 (y + 3)) k
    rw [zf_u1 (by omega)]
  | 3 =>
    show zN 6 ((zf_u m y 4 x).1 (y + 4)) k = zN 6 (m.1 (y + 4)) k
    rw [zf_u1 (by omega)]
  | 4 =>
    show zN 6 ((zf_u m y 4 x).1 r) k = zN 6 (m.1 r) k
    rw [zf_u1 (by omega)]
  | 5 =>
    match k with
    | 0 => show ((zf_u m y 4 x).1 w 3).toInt = (m.1 w 3).toInt; rw [zf_u1 (by omega)]
    | 1 => show ((zf_u m y 4 x).1 w 5).toInt = (m.1 w 5).toInt; rw [zf_u1 (by omega)]
    | 2 => show ((zf_u m y 4 x).1 w 9).toInt = (m.1 w 9).toInt; rw [zf_u1 (by omega)]
    | 3 => show ((zf_u m y 4 x).1 w 7).toInt = (m.1 w 7).toInt; rw [zf_u1 (by omega)]
    | 4 => show ((zf_u m y 4 x).1 w 8).toInt = (m.1 w 8).toInt; rw [zf_u1 (by omega)]
    | 5 => show ((zf_u m y 4 x).1 y 4).toInt = _; rw [zf_u3]; rfl
    | 6 => show ((zf_u m y 4 x).1 y 5).toInt = (m.1 y 5).toInt; rw [zf_u4 (by decide)]
    | 7 => show ((zf_u m y 4 x).1 w 2).toInt = (m.1 w 2).toInt; rw [zf_u1 (by omega)]
    | 8 => show ((zf_u m y 4 x).1 w 4).toInt = (m.1 w 4).toInt; rw [zf_u1 (by omega)]
    | 9 => show ((zf_u m y 4 x).1 w 6).toInt = (m.1 w 6).toInt; rw [zf_u1 (by omega)]
    | 10 => show ((zf_u m y 4 x).1 w 10).toInt = (m.1 w 10).toInt; rw [zf_u1 (by omega)]
    | 11 => show ((zf_u m y 4 x).1 w 11).toInt = (m.1 w 11).toInt; rw [zf_u1 (by omega)]
    | 12 => show ((zf_u m y 4 x).1 w 12).toInt = (m.1 w 12).toInt; rw [zf_u1 (by omega)]
    | n + 13 => rfl
  | n + 6 => rfl
theorem zv_y5 (hd : zD w y r) : zv w y r (zf_u m y 5 x) = zU (zv w y r m) 5 6 x.toInt := by
  funext c k
  match c with
  | 0 =>
    show zN 24 ((zf_u m y 5 x).1 (y + 1)) k = zN 24 (m.1 (y + 1)) k
    rw [zf_u1 (by omega)]
  | 1 =>
    show zN 24 ((zf_u m y 5 x).1 (y + 2)) k = zN 24 (m.1 (y + 2)) k
    rw [zf_u1 (by omega)]
  | 2 =>
    show zN 6 ((zf_u m y 5 x).1 (y + 3)) k = zN 6 (m.1 (y + 3)) k
    rw [zf_u1 (by omega)]
  | 3 =>
    show zN 6 ((zf_u m y 5 x).1 (y + 4)) k = zN 6 (m.1 (y + 4)) k
    rw [zf_u1 (by omega)]
  | 4 =>
    show zN 6 ((zf_u m y 5 x).1 r) k = zN 6 (m.1 r) k
    rw [zf_u1 (by omega)]
  | 5 =>
    match k with
    | 0 => show ((zf_u m y 5 x).1 w 3).toInt = (m.1 w 3).toInt; rw [zf_u1 (by omega)]
    | 1 => show ((zf_u m y 5 x).1 w 5).toInt = (m.1 w 5).toInt; rw [zf_u1 (by omega)]
    | 2 => show ((zf_u m y 5 x).1 w 9).toInt = (m.1 w 9).toInt; rw [zf_u1 (by omega)]
    | 3 => show ((zf_u m y 5 x).1 w 7).toInt = (m.1 w 7).toInt; rw [zf_u1 (by omega)]
    | 4 => show ((zf_u m y 5 x).1 w 8).toInt = (m.1 w 8).toInt; rw [zf_u1 (by omega)]
    | 5 => show ((zf_u m y 5 x).1 y 4).toInt = (m.1 y 4).toInt; rw [zf_u4 (by decide)]
    | 6 => show ((zf_u m y 5 x).1 y 5).toInt = _; rw [zf_u3]; rfl
    | 7 => show ((zf_u m y 5 x).1 w 2).toInt = (m.1 w 2).toInt; rw [zf_u1 (by omega)]
    | 8 => show ((zf_u m y 5 x).1 w 4).toInt = (m.1 w 4).toInt; rw [zf_u1 (by omega)]
    | 9 => show ((zf_u m y 5 x).1 w 6).toInt = (m.1 w 6).toInt; rw [zf_u1 (by omega)]
    | 10 => show ((zf_u m y 5 x).1 w 10).toInt = (m.1 w 10).toInt; rw [zf_u1 (by omega)]
    | 11 => show ((zf_u m y 5 x).1 w 11).toInt = (m.1 w 11).toInt; rw [zf_u1 (by omega)]
    | 12 => show ((zf_u m y 5 x).1 w 12).toInt = (m.1 w 12).toInt; rw [zf_u1 (by omega)]
    | n + 13 => rfl
  | n + 6 => rfl
theorem zr_w4 : zr (zf_u m 63 4 x) = zU (zr m) 5 0 x.toInt := by
  funext c k
  match c with
  | 0 =>
    show zN 24 ((zf_u m 63 4 x).1 65) k = zN 24 (m.1 65) k
    rw [zf_u1 (by decide)]
  | 1 =>
    show zN 24 ((zf_u m 63 4 x).1 66) k = zN 24 (m.1 66) k
    rw [zf_u1 (by decide)]
  | 2 =>
    show zN 6 ((zf_u m 63 4 x).1 67) k = zN 6 (m.1 67) k
    rw [zf_u1 (by decide)]
  | 3 =>
    show zN 6 ((zf_u m 63 4 x).1 68) k = zN 6 (m.1 68) k
    rw [zf_u1 (by decide)]
  | 4 =>
    show zN 6 ((zf_u m 63 4 x).1 69) k = zN 6 (m.1 69) k
    rw [zf_u1 (by decide)]
  | 5 =>
    match k with
    | 0 => show ((zf_u m 63 4 x).1 63 4).toInt = _; rw [zf_u3]; rfl
    | 1 => show ((zf_u m 63 4 x).1 63 5).toInt = (m.1 63 5).toInt; rw [zf_u4 (by decide)]
    | 2 => show ((zf_u m 63 4 x).1 63 9).toInt = (m.1 63 9).toInt; rw [zf_u4 (by decide)]
    | 3 => show ((zf_u m 63 4 x).1 63 7).toInt = (m.1 63 7).toInt; rw [zf_u4 (by decide)]
    | 4 => show ((zf_u m 63 4 x).1 63 8).toInt = (m.1 63 8).toInt; rw [zf_u4 (by decide)]
    | 5 => show ((zf_u m 63 4 x).1 63 0).toInt = (m.1 63 0).toInt; rw [zf_u4 (by decide)]
    | 6 => show ((zf_u m 63 4 x).1 63 1).toInt = (m.1 63 1).toInt; rw [zf_u4 (by decide)]
    | 7 => show ((zf_u m 63 4 x).1 63 2).toInt = (m.1 63 2).toInt; rw [zf_u4 (by decide)]
    | 8 => show ((zf_u m 63 4 x).1 63 3).toInt = (m.1 63 3).toInt; rw [zf_u4 (by decide)]
    | 9 => show ((zf_u m 63 4 x).1 63 6).toInt = (m.1 63 6).toInt; rw [zf_u4 (by decide)]
    | 10 => show ((zf_u m 63 4 x).1 63 10).toInt = (m.1 63 10).toInt; rw [zf_u4 (by decide)]
    | 11 => show ((zf_u m 63 4 x).1 63 11).toInt = (m.1 63 11).toInt; rw [zf_u4 (by decide)]
    | 12 => show ((zf_u m 63 4 x).1 63 12).toInt = (m.1 63 12).toInt; rw [zf_u4 (by decide)]
    | n + 13 => rfl
  | n + 6 => rfl
theorem zr_w5 : zr (zf_u m 63 5 x) = zU (zr m) 5 1 x.toInt := by
  funext c k
  match c with
  | 0 =>
    show zN 24 ((zf_u m 63 5 x).1 65) k = zN 24 (m.1 65) k
    rw [zf_u1 (by decide)]
  | 1 =>
    show zN 24 ((zf_u m 63 5 x).1 66) k = zN 24 (m.1 66) k
    rw [zf_u1 (by decide)]
  | 2 =>
    show zN 6 ((zf_u m 63 5 x).1 67) k = zN 6 (m.1 67) k
    rw [zf_u1 (by decide)]
  | 3 =>
    show zN 6 ((zf_u m 63 5 x).1 68) k = zN 6 (m.1 68) k
    rw [zf_u1 (by decide)]
  | 4 =>
    show zN 6 ((zf_u m 63 5 x).1 69) k = zN 6 (m.1 69) k
    rw [zf_u1 (by decide)]
  | 5 =>
    match k with
    | 0 => show ((zf_u m 63 5 x).1 63 4).toInt = (m.1 63 4).toInt; rw [zf_u4 (by decide)]
    | 1 => show ((zf_u m 63 5 x).1 63 5).toInt = _; rw [zf_u3]; rfl
    | 2 => show ((zf_u m 63 5 x).1 63 9).toInt = (m.1 63 9).toInt; rw [zf_u4 (by decide)]
    | 3 => show ((zf_u m 63 5 x).1 63 7).toInt = (m.1 63 7).toInt; rw [zf_u4 (by decide)]
    | 4 => show ((zf_u m 63 5 x).1 63 8).toInt = (m.1 63 8).toInt; rw [zf_u4 (by decide)]
    | 5 => show ((zf_u m 63 5 x).1 63 0).toInt = (m.1 63 0).toInt; rw [zf_u4 (by decide)]
    | 6 => show ((zf_u m 63 5 x).1 63 1).toInt = (m.1 63 1).toInt; rw [zf_u4 (by decide)]
    | 7 => show ((zf_u m 63 5 x).1 63 2).toInt = (m.1 63 2).toInt; rw [zf_u4 (by decide)]
    | 8 => show ((zf_u m 63 5 x).1 63 3).toInt = (m.1 63 3).toInt; rw [zf_u4 (by decide)]
    | 9 => show ((zf_u m 63 5 x).1 63 6).toInt = (m.1 63 6).toInt; rw [zf_u4 (by decide)]
    | 10 => show ((zf_u m 63 5 x).1 63 10).toInt = (m.1 63 10).toInt; rw [zf_u4 (by decide)]
    | 11 => show ((zf_u m 63 5 x).1 63 11).toInt = (m.1 63 11).toInt; rw [zf_u4 (by decide)]
    | 12 => show ((zf_u m 63 5 x).1 63 12).toInt = (m.1 63 12).toInt; rw [zf_u4 (by decide)]
    | n + 13 => rfl
  | n + 6 => rfl
theorem zr_w9 : zr (zf_u m 63 9 x) = zU (zr m) 5 2 x.toInt := by
  funext c k
  match c with
  | 0 =>
    show zN 24 ((zf_u m 63 9 x).1 65) k = zN 24 (m.1 65) k
    rw [zf_u1 (by decide)]
  | 1 =>
    show zN 24 ((zf_u m 63 9 x).1 66) k = zN 24 (m.1 66) k
    rw [zf_u1 (by decide)]
  | 2 =>
    show zN 6 ((zf_u m 63 9 x).1 67) k = zN 6 (m.1 67) k
    rw [zf_u1 (by decide)]
  | 3 =>
    show zN 6 ((zf_u m 63 9 x).1 68) k = zN 6 (m.1 68) k
    rw [zf_u1 (by decide)]
  | 4 =>
    show zN 6 ((zf_u m 63 9 x).1 69) k = zN 6 (m.1 69) k
    rw [zf_u1 (by decide)]
  | 5 =>
    match k with
    | 0 => show ((zf_u m 63 9 x).1 63 4).toInt = (m.1 63 4).toInt; rw [zf_u4 (by decide)]
    | 1 => show ((zf_u m 63 9 x).1 63 5).toInt = (m.1 63 5).toInt; rw [zf_u4 (by decide)]
    | 2 => show ((zf_u m 63 9 x).1 63 9).toInt = _; rw [zf_u3]; rfl
    | 3 => show ((zf_u m 63 9 x).1 63 7).toInt = (m.1 63 7).toInt; rw [zf_u4 (by decide)]
    | 4 => show ((zf_u m 63 9 x).1 63 8).toInt = (m.1 63 8).toInt; rw [zf_u4 (by decide)]
    | 5 => show ((zf_u m 63 9 x).1 63 0).toInt = (m.1 63 0).toInt; rw [zf_u4 (by decide)]
    | 6 => show ((zf_u m 63 9 x).1 63 1).toInt = (m.1 63 1).toInt; rw [zf_u4 (by decide)]
    | 7 => show ((zf_u m 63 9 x).1 63 2).toInt = (m.1 63 2).toInt; rw [zf_u4 (by decide)]
    | 8 => show ((zf_u m 63 9 x).1 63 3).toInt = (m.1 63 3).toInt; rw [zf_u4 (by decide)]
    | 9 => show ((zf_u m 63 9 x).1 63 6).toInt = (m.1 63 6).toInt; rw [zf_u4 (by decide)]
    | 10 => show ((zf_u m 63 9 x).1 63 10).toInt = (m.1 63 10).toInt; rw [zf_u4 (by decide)]
    | 11 => show ((zf_u m 63 9 x).1 63 11).toInt = (m.1 63 11).toInt; rw [zf_u4 (by decide)]
    | 12 => show ((zf_u m 63 9 x).1 63 12).toInt = (m.1 63 12).toInt; rw [zf_u4 (by decide)]
    | n + 13 => rfl
  | n + 6 => rfl
theorem zr_w7 : zr (zf_u m 63 7 x) = zU (zr m) 5 3 x.toInt := by
  funext c k
  match c with
  | 0 =>
    show zN 24 ((zf_u m 63 7 x).1 65) k = zN 24 (m.1 65) k
    rw [zf_u1 (by decide)]
  | 1 =>
    show zN 24 ((zf_u m 63 7 x).1 66) k = zN 24 (m.1 66) k
    rw [zf_u1 (by decide)]
  | 2 =>
    show zN 6 ((zf_u m 63 7 x).1 67) k = zN 6 (m.1 67) k
    rw [zf_u1 (by decide)]
  | 3 =>
    show zN 6 ((zf_u m 63 7 x).1 68) k = zN 6 (m.1 68) k
    rw [zf_u1 (by decide)]
  | 4 =>
    show zN 6 ((zf_u m 63 7 x).1 69) k = zN 6 (m.1 69) k
    rw [zf_u1 (by decide)]
  | 5 =>
    match k with
    | 0 => show ((zf_u m 63 7 x).1 63 4).toInt = (m.1 63 4).toInt; rw [zf_u4 (by decide)]
    | 1 => show ((zf_u m 63 7 x).1 63 5).toInt = (m.1 63 5).toInt; rw [zf_u4 (by decide)]
    | 2 => show ((zf_u m 63 7 x).1 63 9).toInt = (m.1 63 9).toInt; rw [zf_u4 (by decide)]
    | 3 => show ((zf_u m 63 7 x).1 63 7).toInt = _; rw [zf_u3]; rfl
    | 4 => show ((zf_u m 63 7 x).1 63 8).toInt = (m.1 63 8).toInt; rw [zf_u4 (by decide)]
    | 5 => show ((zf_u m 63 7 x).1 63 0).toInt = (m.1 63 0).toInt; rw [zf_u4 (by decide)]
    | 6 => show ((zf_u m 63 7 x).1 63 1).toInt = (m.1 63 1).toInt; rw [zf_u4 (by decide)]
    | 7 => show ((zf_u m 63 7 x).1 63 2).toInt = (m.1 63 2).toInt; rw [zf_u4 (by decide)]
    | 8 => show ((zf_u m 63 7 x).1 63 3).toInt = (m.1 63 3).toInt; rw [zf_u4 (by decide)]
    | 9 => show ((zf_u m 63 7 x).1 63 6).toInt = (m.1 63 6).toInt; rw [zf_u4 (by decide)]
    | 10 => show ((zf_u m 63 7 x).1 63 10).toInt = (m.1 63 10).toInt; rw [zf_u4 (by decide)]
    | 11 => show ((zf_u m 63 7 x).1 63 11).toInt = (m.1 63 11).toInt; rw [zf_u4 (by decide)]
    | 12 => show ((zf_u m 63 7 x).1 63 12).toInt = (m.1 63 12).toInt; rw [zf_u4 (by decide)]
    | n + 13 => rfl
  | n + 6 => rfl
theorem zr_w8 : zr (zf_u m 63 8 x) = zU (zr m) 5 4 x.toInt := by
  funext c k
  match c with
  | 0 =>
    show zN 24 ((zf_u m 63 8 x).1 65) k = zN 24 (m.1 65) k
    rw [zf_u1 (by decide)]
  | 1 =>
    show zN 24 ((zf_u m 63 8 x).1 66) k = zN 24 (m.1 66) k
    rw [zf_u1 (by decide)]
  | 2 =>
    show zN 6 ((zf_u m 63 8 x).1 67) k = zN 6 (m.1 67) k
    rw [zf_u1 (by decide)]
  | 3 =>
    show zN 6 ((zf_u m 63 8 x).1 68) k = zN 6 (m.1 68) k
    rw [zf_u1 (by decide)]
  | 4 =>
    show zN 6 ((zf_u m 63 8 x).1 69) k = zN 6 (m.1 69) k
    rw [zf_u1 (by decide)]
  | 5 =>
    match k with
    | 0 => show ((zf_u m 63 8 x).1 63 4).toInt = (m.1 63 4).toInt; rw [zf_u4 (by decide)]
    | 1 => show ((zf_u m 63 8 x).1 63 5).toInt = (m.1 63 5).toInt; rw [zf_u4 (by decide)]
    | 2 => show ((zf_u m 63 8 x).1 63 9).toInt = (m.1 63 9).toInt; rw [zf_u4 (by decide)]
    | 3 => show ((zf_u m 63 8 x).1 63 7).toInt = (m.1 63 7).toInt; rw [zf_u4 (by decide)]
    | 4 => show ((zf_u m 63 8 x).1 63 8).toInt = _; rw [zf_u3]; rfl
    | 5 => show ((zf_u m 63 8 x).1 63 0).toInt = (m.1 63 0).toInt; rw [zf_u4 (by decide)]
    | 6 => show ((zf_u m 63 8 x).1 63 1).toInt = (m.1 63 1).toInt; rw [zf_u4 (by decide)]
    | 7 => show ((zf_u m 63 8 x).1 63 2).toInt = (m.1 63 2).toInt; rw [zf_u4 (by decide)]
    | 8 => show ((zf_u m 63 8 x).1 63 3).toInt = (m.1 63 3).toInt; rw [zf_u4 (by decide)]
    | 9 => show ((zf_u m 63 8 x).1 63 6).toInt = (m.1 63 6).toInt; rw [zf_u4 (by decide)]
    | 10 => show ((zf_u m 63 8 x).1 63 10).toInt = (m.1 63 10).toInt; rw [zf_u4 (by decide)]
    | 11 => show ((zf_u m 63 8 x).1 63 11).toInt = (m.1 63 11).toInt; rw [zf_u4 (by decide)]
    | 12 => show ((zf_u m 63 8 x).1 63 12).toInt = (m.1 63 12).toInt; rw [zf_u4 (by decide)]
    | n + 13 => rfl
  | n + 6 => rfl
theorem zr_w0 : zr (zf_u m 63 0 x) = zU (zr m) 5 5 x.toInt := by
  funext c k
  match c with
  | 0 =>
    show zN 24 ((zf_u m 63 0 x).1 65) k = zN 24 (m.1 65) k
    rw [zf_u1 (by decide)]
  | 1 =>
    show zN 24 ((zf_u m 63 0 x).1 66) k = zN 24 (m.1 66) k
    rw [zf_u1 (by decide)]
  | 2 =>
    show zN 6 ((zf_u m 63 0 x).1 67) k = zN 6 (m.1 67) k
    rw [zf_u1 (by decide)]
  | 3 =>
    show zN 6 ((zf_u m 63 0 x).1 68) k = zN 6 (m.1 68) k
    rw [zf_u1 (by decide)]
  | 4 =>
    show zN 6 ((zf_u m 63 0 x).1 69) k = zN 6 (m.1 69) k
    rw [zf_u1 (by decide)]
  | 5 =>
    match k with
    | 0 => show ((zf_u m 63 0 x).1 63 4).toInt = (m.1 63 4).toInt; rw [zf_u4 (by decide)]
    | 1 => show ((zf_u m 63 0 x).1 63 5).toInt = (m.1 63 5).toInt; rw [zf_u4 (by decide)]
    | 2 => show ((zf_u m 63 0 x).1 63 9).toInt = (m.1 63 9).toInt; rw [zf_u4 (by decide)]
    | 3 => show ((zf_u m 63 0 x).1 63 7).toInt = (m.1 63 7).toInt; rw [zf_u4 (by decide)]
    | 4 => show ((zf_u m 63 0 x).1 63 8).toInt = (m.1 63 8).toInt; rw [zf_u4 (by decide)]
    | 5 => show ((zf_u m 63 0 x).1 63 0).toInt = _; rw [zf_u3]; rfl
    | 6 => show ((zf_u m 63 0 x).1 63 1).toInt = (m.1 63 1).toInt; rw [zf_u4 (by decide)]
    | 7 => show ((zf_u m 63 0 x).1 63 2).toInt = (m.1 63 2).toInt; rw [zf_u4 (by decide)]
    | 8 => show ((zf_u m 63 0 x).1 63 3).toInt = (m.1 63 3).toInt; rw [zf_u4 (by decide)]
    | 9 => show ((zf_u m 63 0 x).1 63 6).toInt = (m.1 63 6).toInt; rw [zf_u4 (by decide)]
    | 10 => show ((zf_u m 63 0 x).1 63 10).toInt = (m.1 63 10).toInt; rw [zf_u4 (by decide)]
    | 11 => show ((zf_u m 63 0 x).1 63 11).toInt = (m.1 63 11).toInt; rw [zf_u4 (by decide)]
    | 12 => show ((zf_u m 63 0 x).1 63 12).toInt = (m.1 63 12).toInt; rw [zf_u4 (by decide)]
    | n + 13 => rfl
  | n + 6 => rfl
theorem zr_w1 : zr (zf_u m 63 1 x) = zU (zr m) 5 6 x.toInt := by
  funext c k
  match c with
  | 0 =>
    show zN 24 ((zf_u m 63 1 x).1 65) k = zN 24 (m.1 65) k
    rw [zf_u1 (by decide)]
  | 1 =>
    show zN 24 ((zf_u m 63 1 x).1 66) k = zN 24 (m.1 66) k
    rw [zf_u1 (by decide)]
  | 2 =>
    show zN 6 ((zf_u m 63 1 x).1 67) k = zN 6 (m.1 67) k
    rw [zf_u1 (by decide)]
  | 3 =>
    show zN 6 ((zf_u m 63 1 x).1 68) k = zN 6 (m.1 68) k
    rw [zf_u1 (by decide)]
  | 4 =>
    show zN 6 ((zf_u m 63 1 x).1 69) k = zN 6 (m.1 69) k
    rw [zf_u1 (by decide)]
  | 5 =>
    match k with
    | 0 => show ((zf_u m 63 1 x).1 63 4).toInt = (m.1 63 4).toInt; rw [zf_u4 (by decide)]
    | 1 => show ((zf_u m 63 1 x).1 63 5).toInt = (m.1 63 5).toInt; rw [zf_u4 (by decide)]
    | 2 => show ((zf_u m 63 1 x).1 63 9).toInt = (m.1 63 9).toInt; rw [zf_u4 (by decide)]
    | 3 => show ((zf_u m 63 1 x).1 63 7).toInt = (m.1 63 7).toInt; rw [zf_u4 (by decide)]
    | 4 => show ((zf_u m 63 1 x).1 63 8).toInt = (m.1 63 8).toInt; rw [zf_u4 (by decide)]
    | 5 => show ((zf_u m 63 1 x).1 63 0).toInt = (m.1 63 0).toInt; rw [zf_u4 (by decide)]
    | 6 => show ((zf_u m 63 1 x).1 63 1).toInt = _; rw [zf_u3]; rfl
    | 7 => show ((zf_u m 63 1 x).1 63 2).toInt = (m.1 63 2).toInt; rw [zf_u4 (by decide)]
    | 8 => show ((zf_u m 63 1 x).1 63 3).toInt = (m.1 63 3).toInt; rw [zf_u4 (by decide)]
    | 9 => show ((zf_u m 63 1 x).1 63 6).toInt = (m.1 63 6).toInt; rw [zf_u4 (by decide)]
    | 10 => show ((zf_u m 63 1 x).1 63 10).toInt = (m.1 63 10).toInt; rw [zf_u4 (by decide)]
    | 11 => show ((zf_u m 63 1 x).1 63 11).toInt = (m.1 63 11).toInt; rw [zf_u4 (by decide)]
    | 12 => show ((zf_u m 63 1 x).1 63 12).toInt = (m.1 63 12).toInt; rw [zf_u4 (by decide)]
    | n + 13 => rfl
  | n + 6 => rfl
theorem zr_w2 : zr (zf_u m 63 2 x) = zU (zr m) 5 7 x.toInt := by
  funext c k
  match c with
  | 0 =>
    show zN 24 ((zf_u m 63 2 x).1 65) k = zN 24 (m.1 65) k
    rw [zf_u1 (by decide)]
  | 1 =>
    show zN 24 ((zf_u m 63 2 x).1 66) k = zN 24 (m.1 66) k
    rw [zf_u1 (by decide)]
  | 2 =>
    show zN 6 ((zf_u m 63 2 x).1 67) k = zN 6 (m.1 67) k
    rw [zf_u1 (by decide)]
  | 3 =>
    show zN 6 ((zf_u m 63 2 x).1 68) k = zN 6 (m.1 68) k
    rw [zf_u1 (by decide)]
  | 4 =>
    show zN 6 ((zf_u m 63 2 x).1 69) k = zN 6 (m.1 69) k
    rw [zf_u1 (by decide)]
  | 5 =>
    match k with
    | 0 => show ((zf_u m 63 2 x).1 63 4).toInt = (m.1 63 4).toInt; rw [zf_u4 (by decide)]
    | 1 => show ((zf_u m 63 2 x).1 63 5).toInt = (m.1 63 5).toInt; rw [zf_u4 (by decide)]
    | 2 => show ((zf_u m 63 2 x).1 63 9).toInt = (m.1 63 9).toInt; rw [zf_u4 (by decide)]
    | 3 => show ((zf_u m 63 2 x).1 63 7).toInt = (m.1 63 7).toInt; rw [zf_u4 (by decide)]
    | 4 => show ((zf_u m 63 2 x).1 63 8).toInt = (m.1 63 8).toInt; rw [zf_u4 (by decide)]
    | 5 => show ((zf_u m 63 2 x).1 63 0).toInt = (m.1 63 0).toInt; rw [zf_u4 (by decide)]
    | 6 => show ((zf_u m 63 2 x).1 63 1).toInt = (m.1 63 1).toInt; rw [zf_u4 (by decide)]
    | 7 => show ((zf_u m 63 2 x).1 63 2).toInt = _; rw [zf_u3]; rfl
    | 8 => show ((zf_u m 63 2 x).1 63 3).toInt = (m.1 63 3).toInt; rw [zf_u4 (by decide)]
    | 9 => show ((zf_u m 63 2 x).1 63 6).toInt = (m.1 63 6).toInt; rw [zf_u4 (by decide)]
    | 10 => show ((zf_u m 63 2 x).1 63 10).toInt = (m.1 63 10).toInt; rw [zf_u4 (by decide)]
    | 11 => show ((zf_u m 63 2 x).1 63 11).toInt = (m.1 63 11).toInt; rw [zf_u4 (by decide)]
    | 12 => show ((zf_u m 63 2 x).1 63 12).toInt = (m.1 63 12).toInt; rw [zf_u4 (by decide)]
    | n + 13 => rfl
  | n + 6 => rfl
theorem zr_w3 : zr (zf_u m 63 3 x) = zU (zr m) 5 8 x.toInt := by
  funext c k
  match c with
  | 0 =>
    show zN 24 ((zf_u m 63 3 x).1 65) k = zN 24 (m.1 65) k
    rw [zf_u1 (by decide)]
  | 1 =>
    show zN 24 ((zf_u m 63 3 x).1 66) k = zN 24 (m.1 66) k
    rw [zf_u1 (by decide)]
  | 2 =>
    show zN 6 ((zf_u m 63 3 x).1 67) k = zN 6 (m.1 67) k
    rw [zf_u1 (by decide)]
  | 3 =>
    show zN 6 ((zf_u m 63 3 x).1 68) k = zN 6 (m.1 68) k
    rw [zf_u1 (by decide)]
  | 4 =>
    show zN 6 ((zf_u m 63 3 x).1 69) k = zN 6 (m.1 69) k
    rw [zf_u1 (by decide)]
  | 5 =>
    match k with
    | 0 => show ((zf_u m 63 3 x).1 63 4).toInt = (m.1 63 4).toInt; rw [zf_u4 (by decide)]
    | 1 => show ((zf_u m 63 3 x).1 63 5).toInt = (m.1 63 5).toInt; rw [zf_u4 (by decide)]
    | 2 => show ((zf_u m 63 3 x).1 63 9).toInt = (m.1 63 9).toInt; rw [zf_u4 (by decide)]
    | 3 => show ((zf_u m 63 3 x).1 63 7).toInt = (m.1 63 7).toInt; rw [zf_u4 (by decide)]
    | 4 => show ((zf_u m 63 3 x).1 63 8).toInt = (m.1 63 8).toInt; rw [zf_u4 (by decide)]
    | 5 => show ((zf_u m 63 3 x).1 63 0).toInt = (m.1 63 0).toInt; rw [zf_u4 (by decide)]
    | 6 => show ((zf_u m 63 3 x).1 63 1).toInt = (m.1 63 1).toInt; rw [zf_u4 (by decide)]
    | 7 => show ((zf_u m 63 3 x).1 63 2).toInt = (m.1 63 2).toInt; rw [zf_u4 (by decide)]
    | 8 => show ((zf_u m 63 3 x).1 63 3).toInt = _; rw [zf_u3]; rfl
    | 9 => show ((zf_u m 63 3 x).1 63 6).toInt = (m.1 63 6).toInt; rw [zf_u4 (by decide)]
    | 10 => show ((zf_u m 63 3 x).1 63 10).toInt = (m.1 63 10).toInt; rw [zf_u4 (by decide)]
    | 11 => show ((zf_u m 63 3 x).1 63 11).toInt = (m.1 63 11).toInt; rw [zf_u4 (by decide)]
    | 12 => show ((zf_u m 63 3 x).1 63 12).toInt = (m.1 63 12).toInt; rw [zf_u4 (by decide)]
    | n + 13 => rfl
  | n + 6 => rfl
theorem zr_w6 : zr (zf_u m 63 6 x) = zU (zr m) 5 9 x.toInt := by
  funext c k
  match c with
  | 0 =>
    show zN 24 ((zf_u m 63 6 x).1 65) k = zN 24 (m.1 65) k
    rw [zf_u1 (by decide)]
  | 1 =>
    show zN 24 ((zf_u m 63 6 x).1 66) k = zN 24 (m.1 66) k
    rw [zf_u1 (by decide)]
  | 2 =>
    show zN 6 ((zf_u m 63 6 x).1 67) k = zN 6 (m.1 67) k
    rw [zf_u1 (by decide)]
  | 3 =>
    show zN 6 ((zf_u m 63 6 x).1 68) k = zN 6 (m.1 68) k
    rw [zf_u1 (by decide)]
  | 4 =>
    show zN 6 ((zf_u m 63 6 x).1 69) k = zN 6 (m.1 69) k
    rw [zf_u1 (by decide)]
  | 5 =>
    match k with
    | 0 => show ((zf_u m 63 6 x).1 63 4).toInt = (m.1 63 4).toInt; rw [zf_u4 (by decide)]
    | 1 => show ((zf_u m 63 6 x).1 63 5).toInt = (m.1 63 5).toInt; rw [zf_u4 (by decide)]
    | 2 => show ((zf_u m 63 6 x).1 63 9).toInt = (m.1 63 9).toInt; rw [zf_u4 (by decide)]
    | 3 => show ((zf_u m 63 6 x).1 63 7).toInt = (m.1 63 7).toInt; rw [zf_u4 (by decide)]
    | 4 => show ((zf_u m 63 6 x).1 63 8).toInt = (m.1 63 8).toInt; rw [zf_u4 (by decide)]
    | 5 => show ((zf_u m 63 6 x).1 63 0).toInt = (m.1 63 0).toInt; rw [zf_u4 (by decide)]
    | 6 => show ((zf_u m 63 6 x).1 63 1).toInt = (m.1 63 1).toInt; rw [zf_u4 (by decide)]
    | 7 => show ((zf_u m 63 6 x).1 63 2).toInt = (m.1 63 2).toInt; rw [zf_u4 (by decide)]
    | 8 => show ((zf_u m 63 6 x).1 63 3).toInt = (m.1 63 3).toInt; rw [zf_u4 (by decide)]
    | 9 => show ((zf_u m 63 6 x).1 63 6).toInt = _; rw [zf_u3]; rfl
    | 10 => show ((zf_u m 63 6 x).1 63 10).toInt = (m.1 63 10).toInt; rw [zf_u4 (by decide)]
    | 11 => show ((zf_u m 63 6 x).1 63 11).toInt = (m.1 63 11).toInt; rw [zf_u4 (by decide)]
    | 12 => show ((zf_u m 63 6 x).1 63 12).toInt = (m.1 63 12).toInt; rw [zf_u4 (by decide)]
    | n + 13 => rfl
  | n + 6 => rfl
theorem zr_w10 : zr (zf_u m 63 10 x) = zU (zr m) 5 10 x.toInt := by
  funext c k
  match c with
  | 0 =>
    show zN 24 ((zf_u m 63 10 x).1 65) k = zN 24 (m.1 65) k
    rw [zf_u1 (by decide)]
  | 1 =>
    show zN 24 ((zf_u m 63 10 x).1 66) k = zN 24 (m.1 66) k
    rw [zf_u1 (by decide)]
  | 2 =>
    show zN 6 ((zf_u m 63 10 x).1 67) k = zN 6 (m.1 67) k
    rw [zf_u1 (by decide)]
  | 3 =>
    show zN 6 ((zf_u m 63 10 x).1 68) k = zN 6 (m.1 68) k
    rw [zf_u1 (by decide)]
  | 4 =>
    show zN 6 ((zf_u m 63 10 x).1 69) k = zN 6 (m.1 69) k
    rw [zf_u1 (by decide)]
  | 5 =>
    match k with
    | 0 => show ((zf_u m 63 10 x).1 63 4).toInt = (m.1 63 4).toInt; rw [zf_u4 (by decide)]
    | 1 => show ((zf_u m 63 10 x).1 63 5).toInt = (m.1 63 5).toInt; rw [zf_u4 (by decide)]
    | 2 => show ((zf_u m 63 10 x).1 63 9).toInt = (m.1 63 9).toInt; rw [zf_u4 (by decide)]
    | 3 => show ((zf_u m 63 10 x).1 63 7).toInt = (m.1 63 7).toInt; rw [zf_u4 (by decide)]
    | 4 => show ((zf_u m 63 10 x).1 63 8).toInt = (m.1 63 8).toInt; rw [zf_u4 (by decide)]
    | 5 => show ((zf_u m 63 10 x).1 63 0).toInt = (m.1 63 0).toInt; rw [zf_u4 (by decide)]
    | 6 => show ((zf_u m 63 10 x).1 63 1).toInt = (m.1 63 1).toInt; rw [zf_u4 (by decide)]
    | 7 => show ((zf_u m 63 10 x).1 63 2).toInt = (m.1 63 2).toInt; rw [zf_u4 (by decide)]
    | 8 => show ((zf_u m 63 10 x).1 63 3).toInt = (m.1 63 3).toInt; rw [zf_u4 (by decide)]
    | 9 => show ((zf_u m 63 10 x).1 63 6).toInt = (m.1 63 6).toInt; rw [zf_u4 (by decide)]
    | 10 => show ((zf_u m 63 10 x).1 63 10).toInt = _; rw [zf_u3]; rfl
    | 11 => show ((zf_u m 63 10 x).1 63 11).toInt = (m.1 63 11).toInt; rw [zf_u4 (by decide)]
    | 12 => show ((zf_u m 63 10 x).1 63 12).toInt = (m.1 63 12).toInt; rw [zf_u4 (by decide)]
    | n + 13 => rfl
  | n + 6 => rfl
theorem zr_w11 : zr (zf_u m 63 11 x) = zU (zr m) 5 11 x.toInt := by
  funext c k
  match c with
  | 0 =>
    show zN 24 ((zf_u m 63 11 x).1 65) k = zN 24 (m.1 65) k
    rw [zf_u1 (by decide)]
  | 1 =>
    show zN 24 ((zf_u m 63 11 x).1 66) k = zN 24 (m.1 66) k
    rw [zf_u1 (by decide)]
  | 2 =>
    show zN 6 ((zf_u m 63 11 x).1 67) k = zN 6 (m.1 67) k
    rw [zf_u1 (by decide)]
  | 3 =>
    show zN 6 ((zf_u m 63 11 x).1 68) k = zN 6 (m.1 68) k
    rw [zf_u1 (by decide)]
  | 4 =>
    show zN 6 ((zf_u m 63 11 x).1 69) k = zN 6 (m.1 69) k
    rw [zf_u1 (by decide)]
  | 5 =>
    match k with
    | 0 => show ((zf_u m 63 11 x).1 63 4).toInt = (m.1 63 4).toInt; rw [zf_u4 (by decide)]
    | 1 => show ((zf_u m 63 11 x).1 63 5).toInt = (m.1 63 5).toInt; rw [zf_u4 (by decide)]
    | 2 => show ((zf_u m 63 11 x).1 63 9).toInt = (m.1 63 9).toInt; rw [zf_u4 (by decide)]
    | 3 => show ((zf_u m 63 11 x).1 63 7).toInt = (m.1 63 7).toInt; rw [zf_u4 (by decide)]
    | 4 => show ((zf_u m 63 11 x).1 63 8).toInt = (m.1 63 8).toInt; rw [zf_u4 (by decide)]
    | 5 => show ((zf_u m 63 11 x).1 63 0).toInt = (m.1 63 0).toInt; rw [zf_u4 (by decide)]
    | 6 => show ((zf_u m 63 11 x).1 63 1).toInt = (m.1 63 1).toInt; rw [zf_u4 (by decide)]
    | 7 => show ((zf_u m 63 11 x).1 63 2).toInt = (m.1 63 2).toInt; rw [zf_u4 (by decide)]
    | 8 => show ((zf_u m 63 11 x).1 63 3).toInt = (m.1 63 3).toInt; rw [zf_u4 (by decide)]
    | 9 => show ((zf_u m 63 11 x).1 63 6).toInt = (m.1 63 6).toInt; rw [zf_u4 (by decide)]
    | 10 => show ((zf_u m 63 11 x).1 63 10).toInt = (m.1 63 10).toInt; rw [zf_u4 (by decide)]
    | 11 => show ((zf_u m 63 11 x).1 63 11).toInt = _; rw [zf_u3]; rfl
    | 12 => show ((zf_u m 63 11 x).1 63 12).toInt = (m.1 63 12).toInt; rw [zf_u4 (by decide)]
    | n + 13 => rfl
  | n + 6 => rfl
theorem zr_w12 : zr (zf_u m 63 12 x) = zU (zr m) 5 12 x.toInt := by
  funext c k
  match c with
  | 0 =>
    show zN 24 ((zf_u m 63 12 x).1 65) k = zN 24 (m.1 65) k
    rw [zf_u1 (by decide)]
  | 1 =>
    show zN 24 ((zf_u m 63 12 x).1 66) k = zN 24 (m.1 66) k
    rw [zf_u1 (by decide)]
  | 2 =>
    show zN 6 ((zf_u m 63 12 x).1 67) k = zN 6 (m.1 67) k
    rw [zf_u1 (by decide)]
  | 3 =>
    show zN 6 ((zf_u m 63 12 x).1 68) k = zN 6 (m.1 68) k
    rw [zf_u1 (by decide)]
  | 4 =>
    show zN 6 ((zf_u m 63 12 x).1 69) k = zN 6 (m.1 69) k
    rw [zf_u1 (by decide)]
  | 5 =>
    match k with
    | 0 => show ((zf_u m 63 12 x).1 63 4).toInt = (m.1 63 4).toInt; rw [zf_u4 (by decide)]
    | 1 => show ((zf_u m 63 12 x).1 63 5).toInt = (m.1 63 5).toInt; rw [zf_u4 (by decide)]
    | 2 => show ((zf_u m 63 12 x).1 63 9).toInt = (m.1 63 9).toInt; rw [zf_u4 (by decide)]
    | 3 => show ((zf_u m 63 12 x).1 63 7).toInt = (m.1 63 7).toInt; rw [zf_u4 (by decide)]
    | 4 => show ((zf_u m 63 12 x).1 63 8).toInt = (m.1 63 8).toInt; rw [zf_u4 (by decide)]
    | 5 => show ((zf_u m 63 12 x).1 63 0).toInt = (m.1 63 0).toInt; rw [zf_u4 (by decide)]
    | 6 => show ((zf_u m 63 12 x).1 63 1).toInt = (m.1 63 1).toInt; rw [zf_u4 (by decide)]
    | 7 => show ((zf_u m 63 12 x).1 63 2).toInt = (m.1 63 2).toInt; rw [zf_u4 (by decide)]
    | 8 => show ((zf_u m 63 12 x).1 63 3).toInt = (m.1 63 3).toInt; rw [zf_u4 (by decide)]
    | 9 => show ((zf_u m 63 12 x).1 63 6).toInt = (m.1 63 6).toInt; rw [zf_u4 (by decide)]
    | 10 => show ((zf_u m 63 12 x).1 63 10).toInt = (m.1 63 10).toInt; rw [zf_u4 (by decide)]
    | 11 => show ((zf_u m 63 12 x).1 63 11).toInt = (m.1 63 11).toInt; rw [zf_u4 (by decide)]
    | 12 => show ((zf_u m 63 12 x).1 63 12).toInt = _; rw [zf_u3]; rfl
    | n + 13 => rfl
  | n + 6 => rfl
theorem zv_a0 (hd : zD w y r) {p : Nat} (hp : p < 24) : zv w y r (zf_u m (y + 1) p x) = zU (zv w y r m) 0 p x.toInt := by
  funext c k
  match c with
  | 0 =>
    show zN 24 ((zf_u m (y + 1) p x).1 (y + 1)) k = (if 0 = 0 ∧ k = p then x.toInt else zN 24 (m.1 (y + 1)) k)
    rw [zf_u2, zN_up hp]
    by_cases e : k = p
    · rw [if_pos e, if_pos ⟨rfl, e⟩]
    · rw [if_neg e, if_neg (fun z => e z.2)]
  | 1 =>
    show zN 24 ((zf_u m (y + 1) p x).1 (y + 2)) k = zN 24 (m.1 (y + 2)) k
    rw [zf_u1 (by omega)]
  | 2 =>
    show zN 6 ((zf_u m (y + 1) p x).1 (y + 3)) k = zN 6 (m.1 (y + 3)) k
    rw [zf_u1 (by omega)]
  | 3 =>
    show zN 6 ((zf_u m (y + 1) p x).1 (y + 4)) k = zN 6 (m.1 (y + 4)) k
    rw [zf_u1 (by omega)]
  | 4 =>
    show zN 6 ((zf_u m (y + 1) p x).1 r) k = zN 6 (m.1 r) k
    rw [zf_u1 (by omega)]
  | 5 =>
    match k with
    | 0 => show ((zf_u m (y + 1) p x).1 w 3).toInt = (m.1 w 3).toInt; rw [zf_u1 (by omega)]
    | 1 => show ((zf_u m (y + 1) p x).1 w 5).toInt = (m.1 w 5).toInt; rw [zf_u1 (by omega)]
    | 2 => show ((zf_u m (y + 1) p x).1 w 9).toInt = (m.1 w 9).toInt; rw [zf_u1 (by omega)]
    | 3 => show ((zf_u m (y + 1) p x).1 w 7).toInt = (m.1 w 7).toInt; rw [zf_u1 (by omega)]
    | 4 => show ((zf_u m (y + 1) p x).1 w 8).toInt = (m.1 w 8).toInt; rw [zf_u1 (by omega)]
    | 5 => show ((zf_u m (y + 1) p x).1 y 4).toInt = (m.1 y 4).toInt; rw [zf_u1 (by omega)]
    | 6 => show ((zf_u m (y + 1) p x).1 y 5).toInt = (m.1 y 5).toInt; rw [zf_u1 (by omega)]
    | 7 => show ((zf_u m (y + 1) p x).1 w 2).toInt = (m.1 w 2).toInt; rw [zf_u1 (by omega)]
    | 8 => show ((zf_u m (y + 1) p x).1 w 4).toInt = (m.1 w 4).toInt; rw [zf_u1 (by omega)]
    | 9 => show ((zf_u m (y + 1) p x).1 w 6).toInt = (m.1 w 6).toInt; rw [zf_u1 (by omega)]
    | 10 => show ((zf_u m (y + 1) p x).1 w 10).toInt = (m.1 w 10).toInt; rw [zf_u1 (by omega)]
    | 11 => show ((zf_u m (y + 1) p x).1 w 11).toInt = (m.1 w 11).toInt; rw [zf_u1 (by omega)]
    | 12 => show ((zf_u m (y + 1) p x).1 w 12).toInt = (m.1 w 12).toInt; rw [zf_u1 (by omega)]
    | n + 13 => rfl
  | n + 6 => rfl
theorem zv_a1 (hd : zD w y r) {p : Nat} (hp : p < 24) : zv w y r (zf_u m (y + 2) p x) = zU (zv w y r m) 1 p x.toInt := by
  funext c k
  match c with
  | 0 =>
    show zN 24 ((zf_u m (y + 2) p x).1 (y + 1)) k = zN 24 (m.1 (y + 1)) k
    rw [zf_u1 (by omega)]
  | 1 =>
    show zN 24 ((zf_u m (y + 2) p x).1 (y + 2)) k = (if 1 = 1 ∧ k = p then x.toInt else zN 24 (m.1 (y + 2)) k)
    rw [zf_u2, zN_up hp]
    by_cases e : k = p
    · rw [if_pos e, if_pos ⟨rfl, e⟩]
    · rw [if_neg e, if_neg (fun z => e z.2)]
  | 2 =>
    show zN 6 ((zf_u m (y + 2) p x).1 (y + 3)) k = zN 6 (m.1 (y + 3)) k
    rw [zf_u1 (by omega)]
  | 3 =>
    show zN 6 ((zf_u m (y + 2) p x).1 (y + 4)) k = zN 6 (m.1 (y + 4)) k
    rw [zf_u1 (by omega)]
  | 4 =>
    show zN 6 ((zf_u m (y + 2) p x).1 r) k = zN 6 (m.1 r) k
    rw [zf_u1 (by omega)]
  | 5 =>
    match k with
    | 0 => show ((zf_u m (y + 2) p x).1 w 3).toInt = (m.1 w 3).toInt; rw [zf_u1 (by omega)]
    | 1 => show ((zf_u m (y + 2) p x).1 w 5).toInt = (m.1 w 5).toInt; rw [zf_u1 (by omega)]
    | 2 => show ((zf_u m (y + 2) p x).1 w 9).toInt = (m.1 w 9).toInt; rw [zf_u1 (by omega)]
    | 3 => show ((zf_u m (y + 2) p x).1 w 7).toInt = (m.1 w 7).toInt; rw [zf_u1 (by omega)]
    | 4 => show ((zf_u m (y + 2) p x).1 w 8).toInt = (m.1 w 8).toInt; rw [zf_u1 (by omega)]
    | 5 => show ((zf_u m (y + 2) p x).1 y 4).toInt = (m.1 y 4).toInt; rw [zf_u1 (by omega)]
    | 6 => show ((zf_u m (y + 2) p x).1 y 5).toInt = (m.1 y 5).toInt; rw [zf_u1 (by omega)]
    | 7 => show ((zf_u m (y + 2) p x).1 w 2).toInt = (m.1 w 2).toInt; rw [zf_u1 (by omega)]
    | 8 => show ((zf_u m (y + 2) p x).1 w 4).toInt = (m.1 w 4).toInt; rw [zf_u1 (by omega)]
    | 9 => show ((zf_u m (y + 2) p x).1 w 6).toInt = (m.1 w 6).toInt; rw [zf_u1 (by omega)]
    | 10 => show ((zf_u m (y + 2) p x).1 w 10).toInt = (m.1 w 10).toInt; rw [zf_u1 (by omega)]
    | 11 => show ((zf_u m (y + 2) p x).1 w 11).toInt = (m.1 w 11).toInt; rw [zf_u1 (by omega)]
    | 12 => show ((zf_u m (y + 2) p x).1 w 12).toInt = (m.1 w 12).toInt; rw [zf_u1 (by omega)]
    | n + 13 => rfl
  | n + 6 => rfl
theorem zv_a2 (hd : zD w y r) {p : Nat} (hp : p < 6) : zv w y r (zf_u m (y + 3) p x) = zU (zv w y r m) 2 p x.toInt := by
  funext c k
  match c with
  | 0 =>
    show zN 24 ((zf_u m (y + 3) p x).1 (y + 1)) k = zN 24 (m.1 (y + 1)) k
    rw [zf_u1 (by omega)]
  | 1 =>
    show zN 24 ((zf_u m (y + 3) p x).1 (y + 2)) k = zN 24 (m.1 (y + 2)) k
    rw [zf_u1 (by omega)]
  | 2 =>
    show zN 6 ((zf_u m (y + 3) p x).1 (y + 3)) k = (if 2 = 2 ∧ k = p then x.toInt else zN 6 (m.1 (y + 3)) k)
    rw [zf_u2, zN_up hp]
    by_cases e : k = p
    · rw [if_pos e, if_pos ⟨rfl, e⟩]
    · rw [if_neg e, if_neg (fun z => e z.2)]
  | 3 =>
    show zN 6 ((zf_u m (y + 3) p x).1 (y + 4)) k = zN 6 (m.1 (y + 4)) k
    rw [zf_u1 (by omega)]
  | 4 =>
    show zN 6 ((zf_u m (y + 3) p x).1 r) k = zN 6 (m.1 r) k
    rw [zf_u1 (by omega)]
  | 5 =>
    match k with
    | 0 => show ((zf_u m (y + 3) p x).1 w 3).toInt = (m.1 w 3).toInt; rw [zf_u1 (by omega)]
    | 1 => show ((zf_u m (y + 3) p x).1 w 5).toInt = (m.1 w 5).toInt; rw [zf_u1 (by omega)]
    | 2 => show ((zf_u m (y + 3) p x).1 w 9).toInt = (m.1 w 9).toInt; rw [zf_u1 (by omega)]
    | 3 => show ((zf_u m (y + 3) p x).1 w 7).toInt = (m.1 w 7).toInt; rw [zf_u1 (by omega)]
    | 4 => show ((zf_u m (y + 3) p x).1 w 8).toInt = (m.1 w 8).toInt; rw [zf_u1 (by omega)]
    | 5 => show ((zf_u m (y + 3) p x).1 y 4).toInt = (m.1 y 4).toInt; rw [zf_u1 (by omega)]
    | 6 => show ((zf_u m (y + 3) p x).1 y 5).toInt = (m.1 y 5).toInt; rw [zf_u1 (by omega)]
    | 7 => show ((zf_u m (y + 3) p x).1 w 2).toInt = (m.1 w 2).toInt; rw [zf_u1 (by omega)]
    | 8 => show ((zf_u m (y + 3) p x).1 w 4).toInt = (m.1 w 4).toInt; rw [zf_u1 (by omega)]
    | 9 => show ((zf_u m (y + 3) p x).1 w 6).toInt = (m.1 w 6).toInt; rw [zf_u1 (by omega)]
    | 10 => show ((zf_u m (y + 3) p x).1 w 10).toInt = (m.1 w 10).toInt; rw [zf_u1 (by omega)]
    | 11 => show ((zf_u m (y + 3) p x).1 w 11).toInt = (m.1 w 11).toInt; rw [zf_u1 (by omega)]
    | 12 => show ((zf_u m (y + 3) p x).1 w 12).toInt = (m.1 w 12).toInt; rw [zf_u1 (by omega)]
    | n + 13 => rfl
  | n + 6 => rfl
theorem zv_a3 (hd : zD w y r) {p : Nat} (hp : p < 6) : zv w y r (zf_u m (y + 4) p x) = zU (zv w y r m) 3 p x.toInt := by
  funext c k
  match c with
  | 0 =>
    show zN 24 ((zf_u m (y + 4) p x).1 (y + 1)) k = zN 24 (m.1 (y + 1)) k
    rw [zf_u1 (by omega)]
  | 1 =>
    show zN 24 ((zf_u m (y + 4) p x).1 (y + 2)) k = zN 24 (m.1 (y + 2)) k
    rw [zf_u1 (by omega)]
  | 2 =>
    show zN 6 ((zf_u m (y + 4) p x).1 (y + 3)) k = zN 6 (m.1 (y + 3)) k
    rw [zf_u1 (by omega)]
  | 3 =>
    show zN 6 ((zf_u m (y + 4) p x).1 (y + 4)) k = (if 3 = 3 ∧ k = p then x.toInt else zN 6 (m.1 (y + 4)) k)
    rw [zf_u2, zN_up hp]
    by_cases e : k = p
    · rw [if_pos e, if_pos ⟨rfl, e⟩]
    · rw [if_neg e, if_neg (fun z => e z.2)]
  | 4 =>
    show zN 6 ((zf_u m (y + 4) p x).1 r) k = zN 6 (m.1 r) k
    rw [zf_u1 (by omega)]
  | 5 =>
    match k with
    | 0 => show ((zf_u m (y + 4) p x).1 w 3).toInt = (m.1 w 3).toInt; rw [zf_u1 (by omega)]
    | 1 => show ((zf_u m (y + 4) p x).1 w 5).toInt = (m.1 w 5).toInt; rw [zf_u1 (by omega)]
    | 2 => show ((zf_u m (y + 4) p x).1 w 9).toInt = (m.1 w 9).toInt; rw [zf_u1 (by omega)]
    | 3 => show ((zf_u m (y + 4) p x).1 w 7).toInt = (m.1 w 7).toInt; rw [zf_u1 (by omega)]
    | 4 => show ((zf_u m (y + 4) p x).1 w 8).toInt = (m.1 w 8).toInt; rw [zf_u1 (by omega)]
    | 5 => show ((zf_u m (y + 4) p x).1 y 4).toInt = (m.1 y 4).toInt; rw [zf_u1 (by omega)]
    | 6 => show ((zf_u m (y + 4) p x).1 y 5).toInt = (m.1 y 5).toInt; rw [zf_u1 (by omega)]
    | 7 => show ((zf_u m (y + 4) p x).1 w 2).toInt = (m.1 w 2).toInt; rw [zf_u1 (by omega)]
    | 8 => show ((zf_u m (y + 4) p x).1 w 4).toInt = (m.1 w 4).toInt; rw [zf_u1 (by omega)]
    | 9 => show ((zf_u m (y + 4) p x).1 w 6).toInt = (m.1 w 6).toInt; rw [zf_u1 (by omega)]
    | 10 => show ((zf_u m (y + 4) p x).1 w 10).toInt = (m.1 w 10).toInt; rw [zf_u1 (by omega)]
    | 11 => show ((zf_u m (y + 4) p x).1 w 11).toInt = (m.1 w 11).toInt; rw [zf_u1 (by omega)]
    | 12 => show ((zf_u m (y + 4) p x).1 w 12).toInt = (m.1 w 12).toInt; rw [zf_u1 (by omega)]
    | n + 13 => rfl
  | n + 6 => rfl
theorem zv_a4 (hd : zD w y r) {p : Nat} (hp : p < 6) : zv w y r (zf_u m r p x) = zU (zv w y r m) 4 p x.toInt := by
  funext c k
  match c with
  | 0 =>
    show zN 24 ((zf_u m r p x).1 (y + 1)) k = zN 24 (m.1 (y + 1)) k
    rw [zf_u1 (by omega)]
  | 1 =>
    show zN 24 ((zf_u m r p x).1 (y + 2)) k = zN 24 (m.1 (y + 2)) k
    rw [zf_u1 (by omega)]
  | 2 =>
    show zN 6 ((zf_u m r p x).1 (y + 3)) k = zN 6 (m.1 (y + 3)) k
    rw [zf_u1 (by omega)]
  | 3 =>
    show zN 6 ((zf_u m r p x).1 (y + 4)) k = zN 6 (m.1 (y + 4)) k
    rw [zf_u1 (by omega)]
  | 4 =>
    show zN 6 ((zf_u m r p x).1 r) k = (if 4 = 4 ∧ k = p then x.toInt else zN 6 (m.1 r) k)
    rw [zf_u2, zN_up hp]
    by_cases e : k = p
    · rw [if_pos e, if_pos ⟨rfl, e⟩]
    · rw [if_neg e, if_neg (fun z => e z.2)]
  | 5 =>
    match k with
    | 0 => show ((zf_u m r p x).1 w 3).toInt = (m.1 w 3).toInt; rw [zf_u1 (by omega)]
    | 1 => show ((zf_u m r p x).1 w 5).toInt = (m.1 w 5).toInt; rw [zf_u1 (by omega)]
    | 2 => show ((zf_u m r p x).1 w 9).toInt = (m.1 w 9).toInt; rw [zf_u1 (by omega)]
    | 3 => show ((zf_u m r p x).1 w 7).toInt = (m.1 w 7).toInt; rw [zf_u1 (by omega)]
    | 4 => show ((zf_u m r p x).1 w 8).toInt = (m.1 w 8).toInt; rw [zf_u1 (by omega)]
    | 5 => show ((zf_u m r p x).1 y 4).toInt = (m.1 y 4).toInt; rw [zf_u1 (by omega)]
    | 6 => show ((zf_u m r p x).1 y 5).toInt = (m.1 y 5).toInt; rw [zf_u1 (by omega)]
    | 7 => show ((zf_u m r p x).1 w 2).toInt = (m.1 w 2).toInt; rw [zf_u1 (by omega)]
    | 8 => show ((zf_u m r p x).1 w 4).toInt = (m.1 w 4).toInt; rw [zf_u1 (by omega)]
    | 9 => show ((zf_u m r p x).1 w 6).toInt = (m.1 w 6).toInt; rw [zf_u1 (by omega)]
    | 10 => show ((zf_u m r p x).1 w 10).toInt = (m.1 w 10).toInt; rw [zf_u1 (by omega)]
    | 11 => show ((zf_u m r p x).1 w 11).toInt = (m.1 w 11).toInt; rw [zf_u1 (by omega)]
    | 12 => show ((zf_u m r p x).1 w 12).toInt = (m.1 w 12).toInt; rw [zf_u1 (by omega)]
    | n + 13 => rfl
  | n + 6 => rfl
theorem zr_a0 {p : Nat} (hp : p < 24) : zr (zf_u m 65 p x) = zU (zr m) 0 p x.toInt := by
  funext c k
  match c with
  | 0 =>
    show zN 24 ((zf_u m 65 p x).1 65) k = (if 0 = 0 ∧ k = p then x.toInt else zN 24 (m.1 65) k)
    rw [zf_u2, zN_up hp]
    by_cases e : k = p
    · rw [if_pos e, if_pos ⟨rfl, e⟩]
    · rw [if_neg e, if_neg (fun z => e z.2)]
  | 1 =>
    show zN 24 ((zf_u m 65 p x).1 66) k = zN 24 (m.1 66) k
    rw [zf_u1 (by decide)]
  | 2 =>
    show zN 6 ((zf_u m 65 p x).1 67) k = zN 6 (m.1 67) k
    rw [zf_u1 (by decide)]
  | 3 =>
    show zN 6 ((zf_u m 65 p x).1 68) k = zN 6 (m.1 68) k
    rw [zf_u1 (by decide)]
  | 4 =>
    show zN 6 ((zf_u m 65 p x).1 69) k = zN 6 (m.1 69) k
    rw [zf_u1 (by decide)]
  | 5 =>
    match k with
    | 0 => show ((zf_u m 65 p x).1 63 4).toInt = (m.1 63 4).toInt; rw [zf_u1 (by decide)]
    | 1 => show ((zf_u m 65 p x).1 63 5).toInt = (m.1 63 5).toInt; rw [zf_u1 (by decide)]
    | 2 => show ((zf_u m 65 p x).1 63 9).toInt = (m.1 63 9).toInt; rw [zf_u1 (by decide)]
    | 3 => show ((zf_u m 65 p x).1 63 7).toInt = (m.1 63 7).toInt; rw [zf_u1 (by decide)]
    | 4 => show ((zf_u m 65 p x).1 63 8).toInt = (m.1 63 8).toInt; rw [zf_u1 (by decide)]
    | 5 => show ((zf_u m 65 p x).1 63 0).toInt = (m.1 63 0).toInt; rw [zf_u1 (by decide)]
    | 6 => show ((zf_u m 65 p x).1 63 1).toInt = (m.1 63 1).toInt; rw [zf_u1 (by decide)]
    | 7 => show ((zf_u m 65 p x).1 63 2).toInt = (m.1 63 2).toInt; rw [zf_u1 (by decide)]
    | 8 => show ((zf_u m 65 p x).1 63 3).toInt = (m.1 63 3).toInt; rw [zf_u1 (by decide)]
    | 9 => show ((zf_u m 65 p x).1 63 6).toInt = (m.1 63 6).toInt; rw [zf_u1 (by decide)]
    | 10 => show ((zf_u m 65 p x).1 63 10).toInt = (m.1 63 10).toInt; rw [zf_u1 (by decide)]
    | 11 => show ((zf_u m 65 p x).1 63 11).toInt = (m.1 63 11).toInt; rw [zf_u1 (by decide)]
    | 12 => show ((zf_u m 65 p x).1 63 12).toInt = (m.1 63 12).toInt; rw [zf_u1 (by decide)]
    | n + 13 => rfl
  | n + 6 => rfl
theorem zr_a1 {p : Nat} (hp : p < 24) : zr (zf_u m 66 p x) = zU (zr m) 1 p x.toInt := by
  funext c k
  match c with
  | 0 =>
    show zN 24 ((zf_u m 66 p x).1 65) k = zN 24 (m.1 65) k
    rw [zf_u1 (by decide)]
  | 1 =>
    show zN 24 ((zf_u m 66 p x).1 66) k = (if 1 = 1 ∧ k = p then x.toInt else zN 24 (m.1 66) k)
    rw [zf_u2, zN_up hp]
    by_cases e : k = p
    · rw [if_pos e, if_pos ⟨rfl, e⟩]
    · rw [if_neg e, if_neg (fun z => e z.2)]
  | 2 =>
    show zN 6 ((zf_u m 66 p x).1 67) k = zN 6 (m.1 67) k
    rw [zf_u1 (by decide)]
  | 3 =>
    show zN 6 ((zf_u m 66 p x).1 68) k = zN 6 (m.1 68) k
    rw [zf_u1 (by decide)]
  | 4 =>
    show zN 6 ((zf_u m 66 p x).1 69) k = zN 6 (m.1 69) k
    rw [zf_u1 (by decide)]
  | 5 =>
    match k with
    | 0 => show ((zf_u m 66 p x).1 63 4).toInt = (m.1 63 4).toInt; rw [zf_u1 (by decide)]
    | 1 => show ((zf_u m 66 p x).1 63 5).toInt = (m.1 63 5).toInt; rw [zf_u1 (by decide)]
    | 2 => show ((zf_u m 66 p x).1 63 9).toInt = (m.1 63 9).toInt; rw [zf_u1 (by decide)]
    | 3 => show ((zf_u m 66 p x).1 63 7).toInt = (m.1 63 7).toInt; rw [zf_u1 (by decide)]
    | 4 => show ((zf_u m 66 p x).1 63 8).toInt = (m.1 63 8).toInt; rw [zf_u1 (by decide)]
    | 5 => show ((zf_u m 66 p x).1 63 0).toInt = (m.1 63 0).toInt; rw [zf_u1 (by decide)]
    | 6 => show ((zf_u m 66 p x).1 63 1).toInt = (m.1 63 1).toInt; rw [zf_u1 (by decide)]
    | 7 => show ((zf_u m 66 p x).1 63 2).toInt = (m.1 63 2).toInt; rw [zf_u1 (by decide)]
    | 8 => show ((zf_u m 66 p x).1 63 3).toInt = (m.1 63 3).toInt; rw [zf_u1 (by decide)]
    | 9 => show ((zf_u m 66 p x).1 63 6).toInt = (m.1 63 6).toInt; rw [zf_u1 (by decide)]
    | 10 => show ((zf_u m 66 p x).1 63 10).toInt = (m.1 63 10).toInt; rw [zf_u1 (by decide)]
    | 11 => show ((zf_u m 66 p x).1 63 11).toInt = (m.1 63 11).toInt; rw [zf_u1 (by decide)]
    | 12 => show ((zf_u m 66 p x).1 63 12).toInt = (m.1 63 12).toInt; rw [zf_u1 (by decide)]
    | n + 13 => rfl
  | n + 6 => rfl
theorem zr_a2 {p : Nat} (hp : p < 6) : zr (zf_u m 67 p x) = zU (zr m) 2 p x.toInt := by
  funext c k
  match c with
  | 0 =>
    show zN 24 ((zf_u m 67 p x).1 65) k = zN 24 (m.1 65) k
    rw [zf_u1 (by decide)]
  | 1 =>
    show zN 24 ((zf_u m 67 p x).1 66) k = zN 24 (m.1 66) k
    rw [zf_u1 (by decide)]
  | 2 =>
    show zN 6 ((zf_u m 67 p x).1 67) k = (if 2 = 2 ∧ k = p then x.toInt else zN 6 (m.1 67) k)
    rw [zf_u2, zN_up hp]
    by_cases e : k = p
    · rw [if_pos e, if_pos ⟨rfl, e⟩]
    · rw [if_neg e, if_neg (fun z => e z.2)]
  | 3 =>
    show zN 6 ((zf_u m 67 p x).1 68) k = zN 6 (m.1 68) k
    rw [zf_u1 (by decide)]
  | 4 =>
    show zN 6 ((zf_u m 67 p x).1 69) k = zN 6 (m.1 69) k
    rw [zf_u1 (by decide)]
  | 5 =>
    match k with
    | 0 => show ((zf_u m 67 p x).1 63 4).toInt = (m.1 63 4).toInt; rw [zf_u1 (by decide)]
    | 1 => show ((zf_u m 67 p x).1 63 5).toInt = (m.1 63 5).toInt; rw [zf_u1 (by decide)]
    | 2 => show ((zf_u m 67 p x).1 63 9).toInt = (m.1 63 9).toInt; rw [zf_u1 (by decide)]
    | 3 => show ((zf_u m 67 p x).1 63 7).toInt = (m.1 63 7).toInt; rw [zf_u1 (by decide)]
    | 4 => show ((zf_u m 67 p x).1 63 8).toInt = (m.1 63 8).toInt; rw [zf_u1 (by decide)]
    | 5 => show ((zf_u m 67 p x).1 63 0).toInt = (m.1 63 0).toInt; rw [zf_u1 (by decide)]
    | 6 => show ((zf_u m 67 p x).1 63 1).toInt = (m.1 63 1).toInt; rw [zf_u1 (by decide)]
    | 7 => show ((zf_u m 67 p x).1 63 2).toInt = (m.1 63 2).toInt; rw [zf_u1 (by decide)]
    | 8 => show ((zf_u m 67 p x).1 63 3).toInt = (m.1 63 3).toInt; rw [zf_u1 (by decide)]
    | 9 => show ((zf_u m 67 p x).1 63 6).toInt = (m.1 63 6).toInt; rw [zf_u1 (by decide)]
    | 10 => show ((zf_u m 67 p x).1 63 10).toInt = (m.1 63 10).toInt; rw [zf_u1 (by decide)]
    | 11 => show ((zf_u m 67 p x).1 63 11).toInt = (m.1 63 11).toInt; rw [zf_u1 (by decide)]
    | 12 => show ((zf_u m 67 p x).1 63 12).toInt = (m.1 63 12).toInt; rw [zf_u1 (by decide)]
    | n + 13 => rfl
  | n + 6 => rfl
theorem zr_a3 {p : Nat} (hp : p < 6) : zr (zf_u m 68 p x) = zU (zr m) 3 p x.toInt := by
  funext c k
  match c with
  | 0 =>
    show zN 24 ((zf_u m 68 p x).1 65) k = zN 24 (m.1 65) k
    rw [zf_u1 (by decide)]
  | 1 =>
    show zN 24 ((zf_u m 68 p x).1 66) k = zN 24 (m.1 66) k
    rw [zf_u1 (by decide)]
  | 2 =>
    show zN 6 ((zf_u m 68 p x).1 67) k = zN 6 (m.1 67) k
    rw [zf_u1 (by decide)]
  | 3 =>
    show zN 6 ((zf_u m 68 p x).1 68) k = (if 3 = 3 ∧ k = p then x.toInt else zN 6 (m.1 68) k)
    rw [zf_u2, zN_up hp]
    by_cases e : k = p
    · rw [if_pos e, if_pos ⟨rfl, e⟩]
    · rw [if_neg e, if_neg (fun z => e z.2)]
  | 4 =>
    show zN 6 ((zf_u m 68 p x).1 69) k = zN 6 (m.1 69) k
    rw [zf_u1 (by decide)]
  | 5 =>
    match k with
    | 0 => show ((zf_u m 68 p x).1 63 4).toInt = (m.1 63 4).toInt; rw [zf_u1 (by decide)]
    | 1 => show ((zf_u m 68 p x).1 63 5).toInt = (m.1 63 5).toInt; rw [zf_u1 (by decide)]
    | 2 => show ((zf_u m 68 p x).1 63 9).toInt = (m.1 63 9).toInt; rw [zf_u1 (by decide)]
    | 3 => show ((zf_u m 68 p x).1 63 7).toInt = (m.1 63 7).toInt; rw [zf_u1 (by decide)]
    | 4 => show ((zf_u m 68 p x).1 63 8).toInt = (m.1 63 8).toInt; rw [zf_u1 (by decide)]
    | 5 => show ((zf_u m 68 p x).1 63 0).toInt = (m.1 63 0).toInt; rw [zf_u1 (by decide)]
    | 6 => show ((zf_u m 68 p x).1 63 1).toInt = (m.1 63 1).toInt; rw [zf_u1 (by decide)]
    | 7 => show ((zf_u m 68 p x).1 63 2).toInt = (m.1 63 2).toInt; rw [zf_u1 (by decide)]
    | 8 => show ((zf_u m 68 p x).1 63 3).toInt = (m.1 63 3).toInt; rw [zf_u1 (by decide)]
    | 9 => show ((zf_u m 68 p x).1 63 6).toInt = (m.1 63 6).toInt; rw [zf_u1 (by decide)]
    | 10 => show ((zf_u m 68 p x).1 63 10).toInt = (m.1 63 10).toInt; rw [zf_u1 (by decide)]
    | 11 => show ((zf_u m 68 p x).1 63 11).toInt = (m.1 63 11).toInt; rw [zf_u1 (by decide)]
    | 12 => show ((zf_u m 68 p x).1 63 12).toInt = (m.1 63 12).toInt; rw [zf_u1 (by decide)]
    | n + 13 => rfl
  | n + 6 => rfl
theorem zr_a4 {p : Nat} (hp : p < 6) : zr (zf_u m 69 p x) = zU (zr m) 4 p x.toInt := by
  funext c k
  match c with
  | 0 =>
    show zN 24 ((zf_u m 69 p x).1 65) k = zN 24 (m.1 65) k
    rw [zf_u1 (by decide)]
  | 1 =>
    show zN 24 ((zf_u m 69 p x).1 66) k = zN 24 (m.1 66) k
    rw [zf_u1 (by decide)]
  | 2 =>
    show zN 6 ((zf_u m 69 p x).1 67) k = zN 6 (m.1 67) k
    rw [zf_u1 (by decide)]
  | 3 =>
    show zN 6 ((zf_u m 69 p x).1 68) k = zN 6 (m.1 68) k
    rw [zf_u1 (by decide)]
  | 4 =>
    show zN 6 ((zf_u m 69 p x).1 69) k = (if 4 = 4 ∧ k = p then x.toInt else zN 6 (m.1 69) k)
    rw [zf_u2, zN_up hp]
    by_cases e : k = p
    · rw [if_pos e, if_pos ⟨rfl, e⟩]
    · rw [if_neg e, if_neg (fun z => e z.2)]
  | 5 =>
    match k with
    | 0 => show ((zf_u m 69 p x).1 63 4).toInt = (m.1 63 4).toInt; rw [zf_u1 (by decide)]
    | 1 => show ((zf_u m 69 p x).1 63 5).toInt = (m.1 63 5).toInt; rw [zf_u1 (by decide)]
    | 2 => show ((zf_u m 69 p x).1 63 9).toInt = (m.1 63 9).toInt; rw [zf_u1 (by decide)]
    | 3 => show ((zf_u m 69 p x).1 63 7).toInt = (m.1 63 7).toInt; rw [zf_u1 (by decide)]
    | 4 => show ((zf_u m 69 p x).1 63 8).toInt = (m.1 63 8).toInt; rw [zf_u1 (by decide)]
    | 5 => show ((zf_u m 69 p x).1 63 0).toInt = (m.1 63 0).toInt; rw [zf_u1 (by decide)]
    | 6 => show ((zf_u m 69 p x).1 63 1).toInt = (m.1 63 1).toInt; rw [zf_u1 (by decide)]
    | 7 => show ((zf_u m 69 p x).1 63 2).toInt = (m.1 63 2).toInt; rw [zf_u1 (by decide)]
    | 8 => show ((zf_u m 69 p x).1 63 3).toInt = (m.1 63 3).toInt; rw [zf_u1 (by decide)]
    | 9 => show ((zf_u m 69 p x).1 63 6).toInt = (m.1 63 6).toInt; rw [zf_u1 (by decide)]
    | 10 => show ((zf_u m 69 p x).1 63 10).toInt = (m.1 63 10).toInt; rw [zf_u1 (by decide)]
    | 11 => show ((zf_u m 69 p x).1 63 11).toInt = (m.1 63 11).toInt; rw [zf_u1 (by decide)]
    | 12 => show ((zf_u m 69 p x).1 63 12).toInt = (m.1 63 12).toInt; rw [zf_u1 (by decide)]
    | n + 13 => rfl
  | n + 6 => rfl
/-- stores elsewhere -/
theorem zv_fr {m' : zf_Me} (h1 : m'.1 w = m.1 w) (h2 : ∀ a, y ≤ a → a ≤ y + 4 → m'.1 a = m.1 a) (h3 : m'.1 r = m.1 r) : zv w y r m' = zv w y r m := by
  unfold zv
  rw [h1, h2 y (by omega) (by omega), h2 (y + 1) (by omega) (by omega), h2 (y + 2) (by omega) (by omega), h2 (y + 3) (by omega) (by omega), h2 (y + 4) (by omega) (by omega), h3]
theorem zr_fr {m' : zf_Me} (h1 : ∀ k, k < 13 → m'.1 63 k = m.1 63 k) (h2 : ∀ a, 65 ≤ a → a ≤ 69 → m'.1 a = m.1 a) : zr m' = zr m := by
  unfold zr
  rw [h1 0 (by decide), h1 1 (by decide), h1 2 (by decide), h1 3 (by decide), h1 4 (by decide), h1 5 (by decide), h1 6 (by decide), h1 7 (by decide), h1 8 (by decide), h1 9 (by decide), h1 10 (by decide), h1 11 (by decide), h1 12 (by decide), h2 65 (by decide) (by decide), h2 66 (by decide) (by decide), h2 67 (by decide) (by decide), h2 68 (by decide) (by decide), h2 69 (by decide) (by decide)]
end
