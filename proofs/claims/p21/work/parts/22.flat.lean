/-! part 22: the cells as one flat memory; part 20's rules over it: laid by wip/flat/flat.py -/
abbrev zf_Me : Type := (Nat → Nat → Int32) × (Nat → Nat → Int64)
abbrev zf_Sh : Type := (Nat × List (Option Nat)) ⊕ (Nat × Nat) ⊕ (Nat × List Nat)
def zf_shl : List zf_Sh := [.inl (7, [some 1, some 2, some 9, some 16, some 18, some 21, some 35, some 44, some 46, none, none]),
  .inr (.inr (2, [47, 49, 51, 53, 55, 57, 59, 61])),
  .inl (5, [some 3, some 8, none, none, none, none, none, none, none, none, none, none, none]),
  .inl (6, [some 4, some 5, some 6, some 7, none, none]),
  .inr (.inl (0, 24)),
  .inr (.inl (0, 24)),
  .inr (.inl (0, 6)),
  .inr (.inl (0, 6)),
  .inr (.inl (0, 6)),
  .inl (5, [some 10, some 15, none, none, none, none, none, none, none, none, none, none, none]),
  .inl (6, [some 11, some 12, some 13, some 14, none, none]),
  .inr (.inl (0, 24)),
  .inr (.inl (0, 24)),
  .inr (.inl (0, 6)),
  .inr (.inl (0, 6)),
  .inr (.inl (0, 6)),
  .inl (5, [some 3, some 17, none, none, none, none, none, none, none, none, none, none, none]),
  .inr (.inl (0, 6)),
  .inl (1, [some 19, none, none, none]),
  .inl (5, [some 3, some 20, none, none, none, none, none, none, none, none, none, none, none]),
  .inr (.inl (0, 6)),
  .inl (2, [some 22, some 23, some 24, none, none, none, none, none]),
  .inr (.inr (3, [25, 27, 29, 31, 33])),
  .inr (.inl (0, 4)),
  .inr (.inl (0, 4)),
  .inl (5, [some 3, some 26, none, none, none, none, none, none, none, none, none, none, none]),
  .inr (.inl (0, 6)),
  .inl (5, [some 3, some 28, none, none, none, none, none, none, none, none, none, none, none]),
  .inr (.inl (0, 6)),
  .inl (5, [some 3, some 30, none, none, none, none, none, none, none, none, none, none, none]),
  .inr (.inl (0, 6)),
  .inl (5, [some 3, some 32, none, none, none, none, none, none, none, none, none, none, none]),
  .inr (.inl (0, 6)),
  .inl (5, [some 3, some 34, none, none, none, none, none, none, none, none, none, none, none]),
  .inr (.inl (0, 6)),
  .inl (4, [some 36, some 43, none, none, none, none, none]),
  .inl (5, [some 37, some 42, none, none, none, none, none, none, none, none, none, none, none]),
  .inl (6, [some 38, some 39, some 40, some 41, none, none]),
  .inr (.inl (0, 24)),
  .inr (.inl (0, 24)),
  .inr (.inl (0, 6)),
  .inr (.inl (0, 6)),
  .inr (.inl (0, 6)),
  .inr (.inl (0, 160)),
  .inl (0, [some 45, none, none, none, none]),
  .inr (.inl (0, 20)),
  .inr (.inl (0, 8)),
  .inl (3, [some 48, none, none]),
  .inr (.inl (1, 160)),
  .inl (3, [some 50, none, none]),
  .inr (.inl (1, 160)),
  .inl (3, [some 52, none, none]),
  .inr (.inl (1, 160)),
  .inl (3, [some 54, none, none]),
  .inr (.inl (1, 160)),
  .inl (3, [some 56, none, none]),
  .inr (.inl (1, 160)),
  .inl (3, [some 58, none, none]),
  .inr (.inl (1, 160)),
  .inl (3, [some 60, none, none]),
  .inr (.inl (1, 160)),
  .inl (3, [some 62, none, none]),
  .inr (.inl (1, 160)),
  .inl (8, [none, none, none, none, none, none, none, none, none, none, none, none, none, none, some 64, some 65, some 66, some 67, some 68, some 69, some 70, some 71, some 72, some 73, some 74, some 75, some 76, some 77, some 78, none, none, none, none, none, some 79, some 80, some 81, some 82, some 83, some 84, none, none, none, none, none, none, none, none, none, none, some 85, none, none]),
  .inr (.inl (0, 8)),
  .inr (.inl (0, 24)),
  .inr (.inl (0, 24)),
  .inr (.inl (0, 6)),
  .inr (.inl (0, 6)),
  .inr (.inl (0, 6)),
  .inr (.inl (0, 8)),
  .inr (.inl (0, 8)),
  .inr (.inl (0, 8)),
  .inr (.inl (0, 8)),
  .inr (.inl (1, 1280)),
  .inr (.inl (1, 160)),
  .inr (.inl (0, 75)),
  .inr (.inl (0, 12)),
  .inr (.inl (0, 2)),
  .inr (.inl (0, 90)),
  .inr (.inl (0, 90)),
  .inr (.inl (0, 90)),
  .inr (.inl (0, 450)),
  .inr (.inl (0, 4)),
  .inr (.inl (0, 4)),
  .inr (.inl (0, 20))]
def zf_sh (c : Nat) : zf_Sh := (zf_shl[c]?).getD (.inr (.inl (9, 0)))
def zf_fs (f : Nat → Int32) : Nat → List (Option Nat) → List zx_V
  | _, [] => []
  | k, some r :: t => .inr (.inr (1, r)) :: zf_fs f (k + 1) t
  | k, none :: t => .inl (f k) :: zf_fs f (k + 1) t
def zf_c (f : Nat → Int32) (g : Nat → Int64) : zf_Sh → zx_C
  | .inl (ci, fs) => .inl (ci, zf_fs f 0 fs)
  | .inr (.inl (0, n)) => .inr (0, .inl ((List.range n).map f))
  | .inr (.inl (_ + 1, n)) => .inr (1, .inr (.inl ((List.range n).map g)))
  | .inr (.inr (t, l)) => .inr (t, .inr (.inr (l.map some)))
def zf_E (m : zf_Me) : List zx_C := (List.range 86).map (fun c => zf_c (m.1 c) (m.2 c) (zf_sh c))
theorem zf_len (m : zf_Me) : (zf_E m).length = 86 := by simp [zf_E]
theorem zf_get {m : zf_Me} {c : Nat} (h : c < 86) : (zf_E m)[c]? = some (zf_c (m.1 c) (m.2 c) (zf_sh c)) := by
  unfold zf_E
  rw [List.getElem?_map, List.getElem?_range h]
  rfl
theorem zf_fs_len (f : Nat → Int32) : ∀ (fs : List (Option Nat)) (k : Nat), (zf_fs f k fs).length = fs.length
  | [], _ => rfl
  | some r :: t, k => by show (zf_fs f (k + 1) t).length + 1 = t.length + 1; rw [zf_fs_len f t]
  | none :: t, k => by show (zf_fs f (k + 1) t).length + 1 = t.length + 1; rw [zf_fs_len f t]
theorem zf_fs_int (f : Nat → Int32) : ∀ (fs : List (Option Nat)) (k j : Nat), fs[j]? = some none → (zf_fs f k fs)[j]? = some (.inl (f (k + j)))
  | [], _, _, h => by cases h
  | some r :: t, k, 0, h => by cases h
  | none :: t, k, 0, h => rfl
  | some r :: t, k, j + 1, h => by
    show (zf_fs f (k + 1) t)[j]? = _
    rw [zf_fs_int f t (k + 1) j h, show k + 1 + j = k + (j + 1) by omega]
  | none :: t, k, j + 1, h => by
    show (zf_fs f (k + 1) t)[j]? = _
    rw [zf_fs_int f t (k + 1) j h, show k + 1 + j = k + (j + 1) by omega]
theorem zf_fs_ref (f : Nat → Int32) : ∀ (fs : List (Option Nat)) (k j r : Nat), fs[j]? = some (some r) → (zf_fs f k fs)[j]? = some (.inr (.inr (1, r)))
  | [], _, _, _, h => by cases h
  | some r :: t, k, 0, r2, h => by cases h; rfl
  | none :: t, k, 0, r2, h => by cases h
  | some r :: t, k, j + 1, r2, h => zf_fs_ref f t (k + 1) j r2 h
  | none :: t, k, j + 1, r2, h => zf_fs_ref f t (k + 1) j r2 h
theorem zf_fs_up (f : Nat → Int32) (v : Int32) (i : Nat) : ∀ (fs : List (Option Nat)) (k : Nat), i < k → zf_fs (fun b => if b = i then v else f b) k fs = zf_fs f k fs
  | [], _, _ => rfl
  | some r :: t, k, h => by
    show _ :: zf_fs _ (k + 1) t = _ :: zf_fs _ (k + 1) t
    rw [zf_fs_up f v i t (k + 1) (by omega)]
  | none :: t, k, h => by
    show (.inl (if k = i then v else f k)) :: zf_fs _ (k + 1) t = .inl (f k) :: zf_fs _ (k + 1) t
    rw [zf_fs_up f v i t (k + 1) (by omega), if_neg (by omega)]
theorem zf_fs_set (f : Nat → Int32) (v : Int32) : ∀ (fs : List (Option Nat)) (k j : Nat), fs[j]? = some none → (zf_fs f k fs).set j (.inl v) = zf_fs (fun b => if b = k + j then v else f b) k fs
  | [], _, _, h => by cases h
  | some r :: t, k, 0, h => by cases h
  | none :: t, k, 0, h => by
    show .inl v :: zf_fs f (k + 1) t = .inl (if k = k then v else f k) :: zf_fs (fun b => if b = k then v else f b) (k + 1) t
    rw [if_pos rfl, zf_fs_up f v k t (k + 1) (by omega)]
  | some r :: t, k, j + 1, h => by
    show _ :: (zf_fs f (k + 1) t).set j (.inl v) = _ :: zf_fs _ (k + 1) t
    rw [zf_fs_set f v t (k + 1) j h, show k + 1 + j = k + (j + 1) by omega]
  | none :: t, k, j + 1, h => by
    show .inl (f k) :: (zf_fs f (k + 1) t).set j (.inl v) = .inl (if k = k + (j + 1) then v else f k) :: zf_fs _ (k + 1) t
    rw [zf_fs_set f v t (k + 1) j h, show k + 1 + j = k + (j + 1) by omega, if_neg (by omega)]
def zf_u (m : zf_Me) (c k : Nat) (v : Int32) : zf_Me := (fun a => if a = c then (fun b => if b = k then v else m.1 c b) else m.1 a, m.2)
def zf_ul (m : zf_Me) (c k : Nat) (v : Int64) : zf_Me := (m.1, fun a => if a = c then (fun b => if b = k then v else m.2 c b) else m.2 a)
def zf_cp (m : zf_Me) (x y sp dp n : Nat) : zf_Me := (fun a => if a = y then (fun b => if dp ≤ b ∧ b < dp + n then m.1 x (sp + (b - dp)) else m.1 y b) else m.1 a, m.2)
def zf_cpl (m : zf_Me) (x y sp dp n : Nat) : zf_Me := (m.1, fun a => if a = y then (fun b => if dp ≤ b ∧ b < dp + n then m.2 x (sp + (b - dp)) else m.2 y b) else m.2 a)
theorem zf_E_set {m m' : zf_Me} {c : Nat} {x : zx_C} (hc : c < 86) (hx : x = zf_c (m'.1 c) (m'.2 c) (zf_sh c)) (ho : ∀ a, a ≠ c → m'.1 a = m.1 a ∧ m'.2 a = m.2 a) : (zf_E m).set c x = zf_E m' := by
  apply List.ext_getElem?
  intro i
  by_cases hi : i < 86
  · by_cases e : c = i
    · subst e
      rw [List.getElem?_set_self (by rw [zf_len]; exact hi), zf_get hi, hx]
    · rw [List.getElem?_set_ne e, zf_get hi, zf_get hi, (ho i (Ne.symm e)).1, (ho i (Ne.symm e)).2]
  · rw [List.getElem?_eq_none (by rw [List.length_set, zf_len]; omega), List.getElem?_eq_none (by rw [zf_len]; omega)]
theorem zf_put {m : zf_Me} {c ci k : Nat} {fs : List (Option Nat)} {v : Int32} (hc : c < 86) (hs : zf_sh c = .inl (ci, fs)) (hk : fs[k]? = some none) : (zf_E m).set c (.inl (ci, (zf_fs (m.1 c) 0 fs).set k (.inl v))) = zf_E (zf_u m c k v) := by
  refine zf_E_set hc ?_ (fun a ha => ⟨if_neg ha, rfl⟩)
  rw [hs, zf_fs_set _ _ _ _ _ hk]
  show _ = Sum.inl (ci, zf_fs (if c = c then (fun b => if b = k then v else m.1 c b) else m.1 c) 0 fs)
  rw [if_pos rfl, Nat.zero_add]
theorem zf_rs {α : Type} {n i : Nat} {f : Nat → α} {v : α} : ((List.range n).map f).set i v = (List.range n).map (fun b => if b = i then v else f b) := by
  apply List.ext_getElem?
  intro j
  rw [List.getElem?_set, List.getElem?_map, List.getElem?_map, List.length_map, List.length_range]
  by_cases hj : j < n
  · rw [List.getElem?_range hj]
    by_cases e : i = j
    · subst e
      rw [if_pos rfl, if_pos hj]
      simp
    · rw [if_neg e]
      simp [Ne.symm e]
  · rw [List.getElem?_eq_none (by rw [List.length_range]; omega)]
    split
    · rw [if_neg (by omega)]
      rfl
    · rfl
theorem zf_gr {α : Type} {n i : Nat} {f : Nat → α} {d0 : α} (h : i < n) : ((List.range n).map f).getD i d0 = f i := by
  rw [List.getD_eq_getElem?_getD, List.getElem?_map, List.getElem?_range h]
  rfl
theorem zf_lr {α : Type} {n : Nat} {f : Nat → α} : ((List.range n).map f).length = n := by simp
theorem zf_set {m : zf_Me} {c n i : Nat} {v : Int32} (hc : c < 86) (hs : zf_sh c = .inr (.inl (0, n))) : (zf_E m).set c (.inr (0, .inl (((List.range n).map (m.1 c)).set i v))) = zf_E (zf_u m c i v) := by
  refine zf_E_set hc ?_ (fun a ha => ⟨if_neg ha, rfl⟩)
  rw [hs, zf_rs]
  show _ = Sum.inr (0, Sum.inl ((List.range n).map (if c = c then (fun b => if b = i then v else m.1 c b) else m.1 c)))
  rw [if_pos rfl]
theorem zf_setl {m : zf_Me} {c n i : Nat} {v : Int64} (hc : c < 86) (hs : zf_sh c = .inr (.inl (1, n))) : (zf_E m).set c (.inr (1, .inr (.inl (((List.range n).map (m.2 c)).set i v)))) = zf_E (zf_ul m c i v) := by
  refine zf_E_set hc ?_ (fun a ha => ⟨rfl, if_neg ha⟩)
  rw [hs, zf_rs]
  show _ = Sum.inr (1, Sum.inr (Sum.inl ((List.range n).map (if c = c then (fun b => if b = i then v else m.2 c b) else m.2 c))))
  rw [if_pos rfl]
theorem zf_cpr {α : Type} {f g : Nat → α} {n k sp dp z : Nat} (h1 : sp + z ≤ n) (h2 : dp + z ≤ k) : zx_cpy ((List.range n).map f) ((List.range k).map g) sp dp z = (List.range k).map (fun b => if dp ≤ b ∧ b < dp + z then f (sp + (b - dp)) else g b) := by
  unfold zx_cpy
  apply List.ext_getElem?
  intro j
  rw [List.getElem?_append, List.length_take, zf_lr, Nat.min_eq_left (by omega)]
  split
  · rename_i hj
    rw [List.getElem?_take_of_lt hj, List.getElem?_map, List.getElem?_map, List.getElem?_range (by omega)]
    show some (g j) = some (if _ then _ else _)
    rw [if_neg (by omega)]
  · rename_i hj
    rw [List.getElem?_append, List.length_take, List.length_drop, zf_lr, Nat.min_eq_left (by omega)]
    split
    · rename_i hz
      rw [List.getElem?_take_of_lt hz, List.getElem?_drop, List.getElem?_map, List.getElem?_map, List.getElem?_range (by omega), List.getElem?_range (by omega)]
      show some (f (sp + (j - dp))) = some (if _ then _ else _)
      rw [if_pos (by omega)]
    · rename_i hz
      rw [List.getElem?_drop, List.getElem?_map, List.getElem?_map, show dp + z + (j - dp - z) = j by omega]
      by_cases hk : j < k
      · rw [List.getElem?_range hk]
        show some (g j) = some (if _ then _ else _)
        rw [if_neg (by omega)]
      · rw [List.getElem?_eq_none (by rw [List.length_range]; omega)]
        rfl
theorem zf_cpi {m : zf_Me} {x y n k sp dp z : Nat} (hy : y < 86) (hs : zf_sh y = .inr (.inl (0, k))) (h1 : sp + z ≤ n) (h2 : dp + z ≤ k) : (zf_E m).set y (.inr (0, .inl (zx_cpy ((List.range n).map (m.1 x)) ((List.range k).map (m.1 y)) sp dp z))) = zf_E (zf_cp m x y sp dp z) := by
  refine zf_E_set hy ?_ (fun a ha => ⟨if_neg ha, rfl⟩)
  rw [hs, zf_cpr h1 h2]
  show _ = Sum.inr (0, Sum.inl ((List.range k).map (if y = y then (fun b => if dp ≤ b ∧ b < dp + z then m.1 x (sp + (b - dp)) else m.1 y b) else m.1 y)))
  rw [if_pos rfl]
theorem zf_cpj {m : zf_Me} {x y n k sp dp z : Nat} (hy : y < 86) (hs : zf_sh y = .inr (.inl (1, k))) (h1 : sp + z ≤ n) (h2 : dp + z ≤ k) : (zf_E m).set y (.inr (1, .inr (.inl (zx_cpy ((List.range n).map (m.2 x)) ((List.range k).map (m.2 y)) sp dp z)))) = zf_E (zf_cpl m x y sp dp z) := by
  refine zf_E_set hy ?_ (fun a ha => ⟨rfl, if_neg ha⟩)
  rw [hs, zf_cpr h1 h2]
  show _ = Sum.inr (1, Sum.inr (Sum.inl ((List.range k).map (if y = y then (fun b => if dp ≤ b ∧ b < dp + z then m.2 x (sp + (b - dp)) else m.2 y b) else m.2 y))))
  rw [if_pos rfl]
-- what of the variables is known
def zf_le (L L' : List (Option zx_V)) : Prop := L.length = L'.length ∧ (∀ (i : Nat) (v : zx_V), L[i]? = some (some v) → L'[i]? = some (some v)) ∧ (∀ (i : Nat) (x : Int64), L'[i]? = some (some (Sum.inr (Sum.inl x))) → L[i]? = some (some (Sum.inr (Sum.inl x))))
theorem zf_le_refl (L : List (Option zx_V)) : zf_le L L := ⟨rfl, fun _ _ h => h, fun _ _ h => h⟩
theorem zf_le_trans {A B D : List (Option zx_V)} (h : zf_le A B) (k : zf_le B D) : zf_le A D := ⟨h.1.trans k.1, fun i v q => k.2.1 i v (h.2.1 i v q), fun i x q => h.2.2 i x (k.2.2 i x q)⟩
theorem zf_le_set {A B : List (Option zx_V)} (h : zf_le A B) (i : Nat) (v : zx_V) : zf_le (A.set i (some v)) (B.set i (some v)) := by
  refine ⟨by rw [List.length_set, List.length_set]; exact h.1, fun j w q => ?_, fun j x q => ?_⟩
  · rw [List.getElem?_set] at q ⊢
    by_cases e : i = j
    · rw [if_pos e] at q ⊢
      split at q
      · rename_i g
        rw [if_pos (by rw [← h.1]; exact g)]
        exact q
      · cases q
    · rw [if_neg e] at q ⊢
      exact h.2.1 j w q
  · rw [List.getElem?_set] at q ⊢
    by_cases e : i = j
    · rw [if_pos e] at q ⊢
      split at q
      · rename_i g
        rw [if_pos (by rw [h.1]; exact g)]
        exact q
      · cases q
    · rw [if_neg e] at q ⊢
      exact h.2.2 j x q
def zf_nl (L : List (Option zx_V)) : Nat → Bool
  | 0 => true
  | i + 1 => match L[i]? with
    | some (some (.inr (.inl _))) => false
    | _ => true
theorem zf_cl1 {A B : List (Option zx_V)} (h : zf_le A B) : ∀ i, zf_nl A i = true → zx_cl1 B i = B
  | 0, _ => rfl
  | i + 1, hn => by
    show (match B[i]? with | some (some (.inr (.inl _))) => B.set i none | _ => B) = B
    split
    · rename_i x e
      replace hn : (match A[i]? with | some (some (.inr (.inl _))) => false | _ => true) = true := hn
      rw [h.2.2 i x e] at hn
      cases hn
    · rfl
/-- a less known list of variables -/
def zf_lb : List (Option zx_V) → List (Option zx_V) → Prop
  | [], [] => True
  | none :: a, some (.inr (.inl _)) :: b => False
  | none :: a, _ :: b => zf_lb a b
  | some v :: a, some w :: b => v = w ∧ zf_lb a b
  | _, _ => False
theorem zf_lb_le : ∀ {A B : List (Option zx_V)}, zf_lb A B → zf_le A B
  | [], [], _ => zf_le_refl []
  | none :: a, none :: b, h => by
    have k := zf_lb_le (A := a) (B := b) h
    exact ⟨congrArg (· + 1) k.1, fun i v q => by cases i with
      | zero => cases q
      | succ i => exact k.2.1 i v q, fun i x q => by cases i with
      | zero => cases q
      | succ i => exact k.2.2 i x q⟩
  | none :: a, some (.inl y) :: b, h => by
    have k := zf_lb_le (A := a) (B := b) h
    exact ⟨congrArg (· + 1) k.1, fun i v q => by cases i with
      | zero => cases q
      | succ i => exact k.2.1 i v q, fun i x q => by cases i with
      | zero => cases q
      | succ i => exact k.2.2 i x q⟩
  | none :: a, some (.inr (.inr y)) :: b, h => by
    have k := zf_lb_le (A := a) (B := b) h
    exact ⟨congrArg (· + 1) k.1, fun i v q => by cases i with
      | zero => cases q
      | succ i => exact k.2.1 i v q, fun i x q => by cases i with
      | zero => cases q
      | succ i => exact k.2.2 i x q⟩
  | some v :: a, some w :: b, h => by
    obtain ⟨rfl, h2⟩ : v = w ∧ zf_lb a b := h
    have k := zf_lb_le (A := a) (B := b) h2
    exact ⟨congrArg (· + 1) k.1, fun i v q => by cases i with
      | zero => exact q
      | succ i => exact k.2.1 i v q, fun i x q => by cases i with
      | zero => exact q
      | succ i => exact k.2.2 i x q⟩
  | none :: a, some (.inr (.inl y)) :: b, h => h.elim
  | [], _ :: _, h => h.elim
  | none :: a, [], h => h.elim
  | some v :: a, [], h => h.elim
  | some v :: a, none :: b, h => h.elim
/-- a state's run ends, in a flat memory again, with Q of its answer and its memory -/
def zf_W (sc : zx_Sc) (nc ns d : Nat) (t : zx_MT) (pc : Nat) (L : List (Option zx_V)) (S : List zx_V) (m : zf_Me) (Q : Option zx_V → zf_Me → Prop) : Prop := ∀ L', zf_le L L' → zx_W sc nc ns d t pc L' S (zf_E m) (fun v h' => ∃ m', h' = zf_E m' ∧ Q v m')
def zf_M (d k : Nat) (as : List zx_V) (m : zf_Me) (Q : Option zx_V → zf_Me → Prop) : Prop := zx_M d k as (zf_E m) (fun v h' => ∃ m', h' = zf_E m' ∧ Q v m')
theorem zf_M_of {d k : Nat} {as : List zx_V} {m : zf_Me} {Q : Option zx_V → zf_Me → Prop} (hc : zx_cs as ≤ zx_mn (zx_m k)) {t : zx_MT} (ht : zx_m k = t) {L : List (Option zx_V)} (hL : zx_L0 (zx_mn t) as = L) (h1 : zf_W none 0 0 d t 0 L [] m Q) : zf_M d k as m Q :=
  zx_M_of hc ht hL (h1 L (zf_le_refl L))
def zb : Bool → Int32
  | true => 1
  | false => 0
def zf_I (Q : Int32 → zf_Me → Prop) (v : Option zx_V) (m : zf_Me) : Prop := ∃ x, v = some (.inl x) ∧ Q x m
def zf_B (Q : Bool → zf_Me → Prop) (v : Option zx_V) (m : zf_Me) : Prop := ∃ b, v = some (.inl (zb b)) ∧ Q b m
def zf_O (Q : zf_Me → Prop) (v : Option zx_V) (m : zf_Me) : Prop := v = none ∧ Q m
def zf_J (Q : Int64 → zf_Me → Prop) (v : Option zx_V) (m : zf_Me) : Prop := ∃ x, v = some (.inr (.inl x)) ∧ Q x m
def zf_T (Q : Nat → zf_Me → Prop) (v : Option zx_V) (m : zf_Me) : Prop := ∃ a, v = some (.inr (.inr (2, a))) ∧ a < 12 ∧ Q a m
section
variable {sc : zx_Sc} {d nc ns : Nat} {t : zx_MT} {pc : Nat} {L L2 : List (Option zx_V)} {S S' r : List zx_V} {m : zf_Me} {Q : Option zx_V → zf_Me → Prop}
theorem zf_lo (h : zf_W sc nc ns d t pc L S m Q) (hl : zf_lb L L2) : zf_W sc nc ns d t pc L2 S m Q := fun L' hL => h L' (zf_le_trans (zf_lb_le hl) hL)
/-- a step that neither calls nor looks at variables or cells -/
theorem zf_in {ins : Instr} {len pc' : Nat} (hdg : decode (zx_mb t) pc = .ok (ins, len)) (hlen : zx_lok ins len = true) (h1 : ∀ run L' h, zx_ins sc run t ins pc L' S h nc ns = zx_N pc' L' S' h nc ns) (k : zf_W sc nc ns d t pc' L S' m Q) : zf_W sc nc ns d t pc L S m Q :=
  fun L' hL => zx_W_ins hdg hlen (fun run => h1 run L' _) rfl (k L' hL)
theorem zf_ld {ins : Instr} {len pc' ty i n : Nat} {v : zx_V} (hdg : decode (zx_mb t) pc = .ok (ins, len)) (hlen : zx_lok ins len = true) (h1 : ∀ run L' h, zx_ins sc run t ins pc L' S h nc ns = zx_ld ty i n pc L' S h nc ns) (hL : L[i]? = some (some v)) (hv : zx_kd v = ty) (hp : pc + n = pc') (k : zf_W sc nc ns d t pc' L (v :: S) m Q) : zf_W sc nc ns d t pc L S m Q := by
  subst hp
  intro L' hl
  refine zx_W_ins hdg hlen (fun run => (h1 run L' _).trans ?_) rfl (k L' hl)
  unfold zx_ld
  rw [hl.2.1 i v hL]
  simp only
  rw [if_pos hv]
  rfl
theorem zf_st {ins : Instr} {len pc' ty i n : Nat} {v : zx_V} (hdg : decode (zx_mb t) pc = .ok (ins, len)) (hlen : zx_lok ins len = true) (h1 : ∀ run L' h, zx_ins sc run t ins pc L' (v :: r) h nc ns = zx_sto ty i n pc L' (v :: r) h nc ns) (hv : zx_kd v = ty) (hc : zx_c1 v = true) (hi : Nat.blt i L.length = true) (hn : zf_nl L i = true) (hL : L.set i (some v) = L2) (hp : pc + n = pc') (k : zf_W sc nc ns d t pc' L2 r m Q) : zf_W sc nc ns d t pc L (v :: r) m Q := by
  subst hp hL
  intro L' hl
  refine zx_W_ins hdg hlen (fun run => (h1 run L' _).trans ?_) rfl (k (L'.set i (some v)) (zf_le_set hl i v))
  unfold zx_sto
  simp only
  rw [if_pos ⟨hv, hc, by rw [← hl.1]; exact Nat.blt_eq.mp hi⟩, zf_cl1 hl i hn]
  rfl
theorem zf_ii {i : Nat} {z : Int} {x : Int32} {pc' : Nat} {y : Int32} (hdg : decode (zx_mb t) pc = .ok (.iinc i z, 3)) (hL : L[i]? = some (some (.inl x))) (hn : zf_nl L i = true) (hy : x + Int32.ofInt z = y) (hL2 : L.set i (some (.inl y)) = L2) (hp : pc + 3 = pc') (k : zf_W sc nc ns d t pc' L2 S m Q) : zf_W sc nc ns d t pc L S m Q := by
  subst hp hL2 hy
  intro L' hl
  refine zx_W_ins hdg rfl (fun run => ?_) rfl (k (L'.set i (some (.inl (x + Int32.ofInt z)))) (zf_le_set hl i _))
  show zx_iinc i z pc L' S _ nc ns = _
  unfold zx_iinc
  rw [hl.2.1 i _ hL]
  simp only
  rw [zf_cl1 hl i hn]
  rfl
theorem zf_icmp_eq {x y : Int32} {off : Int} {tgt pc' : Nat} (hdg : decode (zx_mb t) pc = .ok (.if_icmp .eq off, 3)) (ht : (pc : Int) + off = (tgt : Int)) (hp : pc + 3 = pc') (kt : x.toInt = y.toInt → zf_W sc nc ns d t tgt L r m Q) (kf : ¬ x.toInt = y.toInt → zf_W sc nc ns d t pc' L r m Q) : zf_W sc nc ns d t pc L (.inl y :: .inl x :: r) m Q :=
  fun L' hL => zw_icmp_eq hdg ht hp (fun g => kt (congrArg Int32.toInt g) L' hL) (fun g => kf (fun z => g (Int32.toInt_inj.mp z)) L' hL)
theorem zf_if_eq {x : Int32} {off : Int} {tgt pc' : Nat} (hdg : decode (zx_mb t) pc = .ok (.ifCond .eq off, 3)) (ht : (pc : Int) + off = (tgt : Int)) (hp : pc + 3 = pc') (kt : x.toInt = 0 → zf_W sc nc ns d t tgt L r m Q) (kf : ¬ x.toInt = 0 → zf_W sc nc ns d t pc' L r m Q) : zf_W sc nc ns d t pc L (.inl x :: r) m Q :=
  fun L' hL => zw_if_eq hdg ht hp (fun g => kt (congrArg Int32.toInt g) L' hL) (fun g => kf (fun z => g (Int32.toInt_inj.mp z)) L' hL)
theorem zf_icmp_ne {x y : Int32} {off : Int} {tgt pc' : Nat} (hdg : decode (zx_mb t) pc = .ok (.if_icmp .ne off, 3)) (ht : (pc : Int) + off = (tgt : Int)) (hp : pc + 3 = pc') (kt : ¬ x.toInt = y.toInt → zf_W sc nc ns d t tgt L r m Q) (kf : x.toInt = y.toInt → zf_W sc nc ns d t pc' L r m Q) : zf_W sc nc ns d t pc L (.inl y :: .inl x :: r) m Q :=
  fun L' hL => zw_icmp_ne hdg ht hp (fun g => kt (fun z => g (Int32.toInt_inj.mp z)) L' hL) (fun g => kf (congrArg Int32.toInt g) L' hL)
theorem zf_if_ne {x : Int32} {off : Int} {tgt pc' : Nat} (hdg : decode (zx_mb t) pc = .ok (.ifCond .ne off, 3)) (ht : (pc : Int) + off = (tgt : Int)) (hp : pc + 3 = pc') (kt : ¬ x.toInt = 0 → zf_W sc nc ns d t tgt L r m Q) (kf : x.toInt = 0 → zf_W sc nc ns d t pc' L r m Q) : zf_W sc nc ns d t pc L (.inl x :: r) m Q :=
  fun L' hL => zw_if_ne hdg ht hp (fun g => kt (fun z => g (Int32.toInt_inj.mp z)) L' hL) (fun g => kf (congrArg Int32.toInt g) L' hL)
theorem zf_icmp_lt {x y : Int32} {off : Int} {tgt pc' : Nat} (hdg : decode (zx_mb t) pc = .ok (.if_icmp .lt off, 3)) (ht : (pc : Int) + off = (tgt : Int)) (hp : pc + 3 = pc') (kt : x.toInt < y.toInt → zf_W sc nc ns d t tgt L r m Q) (kf : y.toInt ≤ x.toInt → zf_W sc nc ns d t pc' L r m Q) : zf_W sc nc ns d t pc L (.inl y :: .inl x :: r) m Q :=
  fun L' hL => zw_icmp_lt hdg ht hp (fun g => kt g L' hL) (fun g => kf g L' hL)
theorem zf_if_lt {x : Int32} {off : Int} {tgt pc' : Nat} (hdg : decode (zx_mb t) pc = .ok (.ifCond .lt off, 3)) (ht : (pc : Int) + off = (tgt : Int)) (hp : pc + 3 = pc') (kt : x.toInt < 0 → zf_W sc nc ns d t tgt L r m Q) (kf : 0 ≤ x.toInt → zf_W sc nc ns d t pc' L r m Q) : zf_W sc nc ns d t pc L (.inl x :: r) m Q :=
  fun L' hL => zw_if_lt hdg ht hp (fun g => kt g L' hL) (fun g => kf g L' hL)
theorem zf_icmp_ge {x y : Int32} {off : Int} {tgt pc' : Nat} (hdg : decode (zx_mb t) pc = .ok (.if_icmp .ge off, 3)) (ht : (pc : Int) + off = (tgt : Int)) (hp : pc + 3 = pc') (kt : y.toInt ≤ x.toInt → zf_W sc nc ns d t tgt L r m Q) (kf : x.toInt < y.toInt → zf_W sc nc ns d t pc' L r m Q) : zf_W sc nc ns d t pc L (.inl y :: .inl x :: r) m Q :=
  fun L' hL => zw_icmp_ge hdg ht hp (fun g => kt g L' hL) (fun g => kf g L' hL)
theorem zf_if_ge {x : Int32} {off : Int} {tgt pc' : Nat} (hdg : decode (zx_mb t) pc = .ok (.ifCond .ge off, 3)) (ht : (pc : Int) + off = (tgt : Int)) (hp : pc + 3 = pc') (kt : 0 ≤ x.toInt → zf_W sc nc ns d t tgt L r m Q) (kf : x.toInt < 0 → zf_W sc nc ns d t pc' L r m Q) : zf_W sc nc ns d t pc L (.inl x :: r) m Q :=
  fun L' hL => zw_if_ge hdg ht hp (fun g => kt g L' hL) (fun g => kf g L' hL)
theorem zf_icmp_gt {x y : Int32} {off : Int} {tgt pc' : Nat} (hdg : decode (zx_mb t) pc = .ok (.if_icmp .gt off, 3)) (ht : (pc : Int) + off = (tgt : Int)) (hp : pc + 3 = pc') (kt : y.toInt < x.toInt → zf_W sc nc ns d t tgt L r m Q) (kf : x.toInt ≤ y.toInt → zf_W sc nc ns d t pc' L r m Q) : zf_W sc nc ns d t pc L (.inl y :: .inl x :: r) m Q :=
  fun L' hL => zw_icmp_gt hdg ht hp (fun g => kt g L' hL) (fun g => kf g L' hL)
theorem zf_icmp_le {x y : Int32} {off : Int} {tgt pc' : Nat} (hdg : decode (zx_mb t) pc = .ok (.if_icmp .le off, 3)) (ht : (pc : Int) + off = (tgt : Int)) (hp : pc + 3 = pc') (kt : x.toInt ≤ y.toInt → zf_W sc nc ns d t tgt L r m Q) (kf : y.toInt < x.toInt → zf_W sc nc ns d t pc' L r m Q) : zf_W sc nc ns d t pc L (.inl y :: .inl x :: r) m Q :=
  fun L' hL => zw_icmp_le hdg ht hp (fun g => kt g L' hL) (fun g => kf g L' hL)
theorem zf_if_le {x : Int32} {off : Int} {tgt pc' : Nat} (hdg : decode (zx_mb t) pc = .ok (.ifCond .le off, 3)) (ht : (pc : Int) + off = (tgt : Int)) (hp : pc + 3 = pc') (kt : x.toInt ≤ 0 → zf_W sc nc ns d t tgt L r m Q) (kf : 0 < x.toInt → zf_W sc nc ns d t pc' L r m Q) : zf_W sc nc ns d t pc L (.inl x :: r) m Q :=
  fun L' hL => zw_if_le hdg ht hp (fun g => kt g L' hL) (fun g => kf g L' hL)
theorem zf_ib_eq {b : Bool} {off : Int} {tgt pc' : Nat} (hdg : decode (zx_mb t) pc = .ok (.ifCond .eq off, 3)) (ht : (pc : Int) + off = (tgt : Int)) (hp : pc + 3 = pc') (kt : b = false → zf_W sc nc ns d t tgt L r m Q) (kf : b = true → zf_W sc nc ns d t pc' L r m Q) : zf_W sc nc ns d t pc L (.inl (zb b) :: r) m Q :=
  zf_if_eq hdg ht hp (fun g => kt (by cases b with
    | true => exact absurd g (by decide)
    | false => rfl)) (fun g => kf (by cases b with
    | true => rfl
    | false => exact absurd (by decide) g))
theorem zf_ib_ne {b : Bool} {off : Int} {tgt pc' : Nat} (hdg : decode (zx_mb t) pc = .ok (.ifCond .ne off, 3)) (ht : (pc : Int) + off = (tgt : Int)) (hp : pc + 3 = pc') (kt : b = true → zf_W sc nc ns d t tgt L r m Q) (kf : b = false → zf_W sc nc ns d t pc' L r m Q) : zf_W sc nc ns d t pc L (.inl (zb b) :: r) m Q :=
  zf_if_ne hdg ht hp (fun g => kt (by cases b with
    | true => rfl
    | false => exact absurd (by decide) g)) (fun g => kf (by cases b with
    | true => exact absurd g (by decide)
    | false => rfl))
theorem zf_goto {off : Int} {tgt : Nat} (hdg : decode (zx_mb t) pc = .ok (.goto off, 3)) (ht : (pc : Int) + off = (tgt : Int)) (k : zf_W sc nc ns d t tgt L S m Q) : zf_W sc nc ns d t pc L S m Q :=
  fun L' hL => zw_goto hdg ht (k L' hL)
theorem zf_bi {n : Int} {v : Int32} {pc' : Nat} (hdg : decode (zx_mb t) pc = .ok (.bipush n, 2)) (hp : pc + 2 = pc') (hv : (Int8.ofInt n).toInt32 = v) (k : zf_W sc nc ns d t pc' L (.inl v :: S) m Q) : zf_W sc nc ns d t pc L S m Q :=
  fun L' hL => zw_bi hdg hp hv (k L' hL)
theorem zf_si {n : Int} {v : Int32} {pc' : Nat} (hdg : decode (zx_mb t) pc = .ok (.sipush n, 3)) (hp : pc + 3 = pc') (hv : (Int16.ofInt n).toInt32 = v) (k : zf_W sc nc ns d t pc' L (.inl v :: S) m Q) : zf_W sc nc ns d t pc L S m Q :=
  fun L' hL => zw_si hdg hp hv (k L' hL)
theorem zf_ic {n : Int} {v : Int32} {pc' : Nat} (hdg : decode (zx_mb t) pc = .ok (.iconst n, 1)) (hp : pc + 1 = pc') (hv : Int32.ofInt n = v) (k : zf_W sc nc ns d t pc' L (.inl v :: S) m Q) : zf_W sc nc ns d t pc L S m Q :=
  fun L' hL => zw_ic hdg hp hv (k L' hL)
theorem zf_gfi {a ix ci k pc' : Nat} {np : Nat × Nat} {fs : List (Option Nat)} (hdg : decode (zx_mb t) pc = .ok (.getfield ix, 3)) (hp : pc + 3 = pc') (hk : zx_lk zx_lF (zx_mo t) ix = some (ci, k, np)) (ha : a < 86) (hs : zf_sh a = .inl (ci, fs)) (hf : fs[k]? = some none) (kk : zf_W sc nc ns d t pc' L (.inl (m.1 a k) :: r) m Q) : zf_W sc nc ns d t pc L (.inr (.inr (1, a)) :: r) m Q :=
  fun L' hL => zw_gf (fs := zf_fs (m.1 a) 0 fs) (v := .inl (m.1 a k)) hdg hp hk ((zf_get ha).trans (by rw [hs]; rfl)) ((zf_fs_int _ _ _ _ hf).trans (by rw [Nat.zero_add])) (kk L' hL)
theorem zf_gfr {a ix ci k pc' b : Nat} {np : Nat × Nat} {fs : List (Option Nat)} (hdg : decode (zx_mb t) pc = .ok (.getfield ix, 3)) (hp : pc + 3 = pc') (hk : zx_lk zx_lF (zx_mo t) ix = some (ci, k, np)) (ha : a < 86) (hs : zf_sh a = .inl (ci, fs)) (hf : fs[k]? = some (some b)) (kk : zf_W sc nc ns d t pc' L (.inr (.inr (1, b)) :: r) m Q) : zf_W sc nc ns d t pc L (.inr (.inr (1, a)) :: r) m Q :=
  fun L' hL => zw_gf (fs := zf_fs (m.1 a) 0 fs) (v := .inr (.inr (1, b))) hdg hp hk ((zf_get ha).trans (by rw [hs]; rfl)) (zf_fs_ref _ _ _ _ _ hf) (kk L' hL)
theorem zf_pf {a ix ci k np pp pc' : Nat} {fs : List (Option Nat)} {x : Int32} (hdg : decode (zx_mb t) pc = .ok (.putfield ix, 3)) (hp : pc + 3 = pc') (hk : zx_lk zx_lF (zx_mo t) ix = some (ci, k, np, pp)) (ha : a < 86) (hs : zf_sh a = .inl (ci, fs)) (hf : fs[k]? = some none) (h2 : (Nat.blt k fs.length && (zx_fit (zx_ft ci k) (.inl x) && decide ((zx_T8 ci k).2.2.2 = false))) = true) (kk : ∀ m', m' = zf_u m a k x → zf_W sc nc ns d t pc' L r m' Q) : zf_W sc nc ns d t pc L (.inl x :: .inr (.inr (1, a)) :: r) m Q := by
  intro L' hL
  simp only [Bool.and_eq_true, Nat.blt_eq] at h2
  refine zw_pf hdg hp hk ((zf_get ha).trans (by rw [hs]; rfl)) (fs := zf_fs (m.1 a) 0 fs) ?_ rfl ?_
  · simp only [Bool.and_eq_true, decide_eq_true_eq, zf_fs_len]
    exact ⟨h2.1, h2.2.1, by simpa using h2.2.2⟩
  · rw [zf_put ha hs hf]
    exact kk _ rfl L' hL
theorem zf_ial {a n pc' : Nat} {i : Int32} {j : Nat} (hdg : decode (zx_mb t) pc = .ok (.iaload, 1)) (hp : pc + 1 = pc') (ha : a < 86) (hs : zf_sh a = .inr (.inl (0, n))) (hi : 0 ≤ i.toInt ∧ i.toInt < n) (hj : i.toInt.toNat = j) (kk : zf_W sc nc ns d t pc' L (.inl (m.1 a j) :: r) m Q) : zf_W sc nc ns d t pc L (.inl i :: .inr (.inr (1, a)) :: r) m Q := by
  subst hj
  intro L' hL
  have e := zi_in hi
  refine zw_ial (f := (List.range n).map (m.1 a)) hdg hp ((zf_get ha).trans (by rw [hs]; rfl)) (by rw [zf_lr]; exact e) ?_
  rw [zf_gr e.2]
  exact kk L' hL
theorem zf_ials {a pc' : Nat} {i : Int32} (hdg : decode (zx_mb t) pc = .ok (.iaload, 1)) (hp : pc + 1 = pc') (ha : a < 5) {n : Nat} (hn : (zx_sa.getD a []).length = n) (hi : 0 ≤ i.toInt ∧ i.toInt < n) (kk : zf_W sc nc ns d t pc' L (.inl ((zx_sa.getD a []).getD i.toInt.toNat 0) :: r) m Q) : zf_W sc nc ns d t pc L (.inl i :: .inr (.inr (4, a)) :: r) m Q :=
  fun L' hL => zw_ials hdg hp ⟨ha, by rw [hn]; exact zi_in hi⟩ (kk L' hL)
theorem zf_ias {a n pc' : Nat} {i x : Int32} {j : Nat} (hdg : decode (zx_mb t) pc = .ok (.iastore, 1)) (hp : pc + 1 = pc') (ha : a < 86) (hs : zf_sh a = .inr (.inl (0, n))) (hi : 0 ≤ i.toInt ∧ i.toInt < n) (hj : i.toInt.toNat = j) (kk : ∀ m', m' = zf_u m a j x → zf_W sc nc ns d t pc' L r m' Q) : zf_W sc nc ns d t pc L (.inl x :: .inl i :: .inr (.inr (1, a)) :: r) m Q := by
  subst hj
  intro L' hL
  have e := zi_in hi
  refine zw_ias (f := (List.range n).map (m.1 a)) hdg hp ((zf_get ha).trans (by rw [hs]; rfl)) (by rw [zf_lr]; exact e) ?_
  rw [zf_set ha hs]
  exact kk _ rfl L' hL
theorem zf_lal {a n pc' : Nat} {i : Int32} {j : Nat} (hdg : decode (zx_mb t) pc = .ok (.laload, 1)) (hp : pc + 1 = pc') (ha : a < 86) (hs : zf_sh a = .inr (.inl (1, n))) (hi : 0 ≤ i.toInt ∧ i.toInt < n) (hj : i.toInt.toNat = j) (kk : zf_W sc nc ns d t pc' L (.inr (.inl (m.2 a j)) :: r) m Q) : zf_W sc nc ns d t pc L (.inl i :: .inr (.inr (1, a)) :: r) m Q := by
  subst hj
  intro L' hL
  have e := zi_in hi
  refine zw_lal (f := (List.range n).map (m.2 a)) hdg hp ((zf_get ha).trans (by rw [hs]; rfl)) (by rw [zf_lr]; exact e) ?_
  rw [zf_gr e.2]
  exact kk L' hL
theorem zf_las {a n pc' : Nat} {i : Int32} {x : Int64} {j : Nat} (hdg : decode (zx_mb t) pc = .ok (.lastore, 1)) (hp : pc + 1 = pc') (ha : a < 86) (hs : zf_sh a = .inr (.inl (1, n))) (hi : 0 ≤ i.toInt ∧ i.toInt < n) (hj : i.toInt.toNat = j) (kk : ∀ m', m' = zf_ul m a j x → zf_W sc nc ns d t pc' L r m' Q) : zf_W sc nc ns d t pc L (.inr (.inl x) :: .inl i :: .inr (.inr (1, a)) :: r) m Q := by
  subst hj
  intro L' hL
  have e := zi_in hi
  refine zw_las (f := (List.range n).map (m.2 a)) hdg hp ((zf_get ha).trans (by rw [hs]; rfl)) (by rw [zf_lr]; exact e) ?_
  rw [zf_setl ha hs]
  exact kk _ rfl L' hL
theorem zf_aal {a t0 n pc' : Nat} {l : List Nat} {i : Int32} {b : Nat} (hdg : decode (zx_mb t) pc = .ok (.aaload, 1)) (hp : pc + 1 = pc') (ha : a < 86) (hs : zf_sh a = .inr (.inr (t0, l))) (ht : t0 = 2 ∨ t0 = 3) (hn : l.length = n) (hi : 0 ≤ i.toInt ∧ i.toInt < n) (hb : ∀ j, j < n → l[j]? = some (b + 2 * j)) (kk : zf_W sc nc ns d t pc' L (.inr (.inr (1, b + 2 * i.toInt.toNat)) :: r) m Q) : zf_W sc nc ns d t pc L (.inl i :: .inr (.inr (1, a)) :: r) m Q := by
  intro L' hL
  have e := zi_in hi
  refine zw_aal (f := l.map some) (b := b + 2 * i.toInt.toNat) hdg hp ((zf_get ha).trans (by rw [hs]; rfl)) ht (by rw [List.length_map, hn]; exact e) ?_ (kk L' hL)
  rw [List.getElem?_map, hb _ e.2]
  rfl
theorem zf_div {x y : Int32} {pc' : Nat} (hdg : decode (zx_mb t) pc = .ok (.idiv, 1)) (hp : pc + 1 = pc') (hy : ¬ y = 0) (kk : zf_W sc nc ns d t pc' L (.inl (x / y) :: r) m Q) : zf_W sc nc ns d t pc L (.inl y :: .inl x :: r) m Q :=
  fun L' hL => zw_div hdg hp hy (kk L' hL)
theorem zf_rem {x y : Int32} {pc' : Nat} (hdg : decode (zx_mb t) pc = .ok (.irem, 1)) (hp : pc + 1 = pc') (hy : ¬ y = 0) (kk : zf_W sc nc ns d t pc' L (.inl (x - x / y * y) :: r) m Q) : zf_W sc nc ns d t pc L (.inl y :: .inl x :: r) m Q :=
  fun L' hL => zw_rem hdg hp hy (kk L' hL)
theorem zf_gs {ix g pc' : Nat} {np : Nat × Nat} (hdg : decode (zx_mb t) pc = .ok (.getstatic ix, 3)) (hp : pc + 3 = pc') (hk : zx_lk zx_lG (zx_mo t) ix = some (g, np)) (hg : Nat.blt g 5 = true) (kk : zf_W sc nc ns d t pc' L (.inr (.inr (4, g)) :: S) m Q) : zf_W sc nc ns d t pc L S m Q :=
  fun L' hL => zw_gs hdg hp hk (Nat.blt_eq.mp hg) (kk L' hL)
theorem zf_max {ix k pc' : Nat} {np : Nat × Nat} {x y : Int32} (hdg : decode (zx_mb t) pc = .ok (.invokestatic ix, 3)) (hp : pc + 3 = pc') (hk : zx_lk zx_lM (zx_mo t) ix = some (k, np)) (hkk : (decide (zx_mk (zx_m k) = 3) && (decide (k < 221) && decide (zx_cs r ≤ 8))) = true) (kk : zf_W sc nc ns d t pc' L (.inl (if x < y then y else x) :: r) m Q) : zf_W sc nc ns d t pc L (.inl y :: .inl x :: r) m Q :=
  fun L' hL => zw_max hdg hp hk hkk (kk L' hL)
theorem zf_min {ix k pc' : Nat} {np : Nat × Nat} {x y : Int32} (hdg : decode (zx_mb t) pc = .ok (.invokestatic ix, 3)) (hp : pc + 3 = pc') (hk : zx_lk zx_lM (zx_mo t) ix = some (k, np)) (hkk : (decide (zx_mk (zx_m k) = 4) && (decide (k < 221) && decide (zx_cs r ≤ 8))) = true) (kk : zf_W sc nc ns d t pc' L (.inl (if y < x then y else x) :: r) m Q) : zf_W sc nc ns d t pc L (.inl y :: .inl x :: r) m Q :=
  fun L' hL => zw_min hdg hp hk hkk (kk L' hL)
theorem zf_tsc {dflt lo hi : Int} {offs : Array Int} {len : Nat} {x : Int32} {tgd : Nat} (hdg : decode (zx_mb t) pc = .ok (.tableswitch dflt lo hi offs, len)) (hd : (pc : Int) + dflt = (tgd : Int)) (tgts : List Nat) (ht : offs.toList.map (fun o => (pc : Int) + o) = tgts.map (fun n : Nat => (n : Int))) (hsz : hi - lo + 1 = (offs.size : Int))
    (kd : (x.toInt < lo ∨ hi < x.toInt) → zf_W sc nc ns d t tgd L r m Q) (kin : zl_all (fun i tg => x.toInt = lo + (i : Int) → zf_W sc nc ns d t tg L r m Q) 0 tgts) : zf_W sc nc ns d t pc L (.inl x :: r) m Q :=
  fun L' hL => zw_tsc hdg hd tgts ht hsz (fun g => kd g L' hL) (fun j tg hj g => kin j tg hj g L' hL)
theorem zf_ri {v : Int32} {Q : Int32 → zf_Me → Prop} (hdg : decode (zx_mb t) pc = .ok (.ireturn, 1)) (hr : zx_mr t = some .int) (q : Q v m) : zf_W sc nc ns d t pc L [.inl v] m (zf_I Q) :=
  fun _ _ => zw_iret hdg hr rfl ⟨m, rfl, v, rfl, q⟩
theorem zf_rb {b : Bool} {Q : Bool → zf_Me → Prop} (hdg : decode (zx_mb t) pc = .ok (.ireturn, 1)) (hr : zx_mr t = some .boolean) (q : Q b m) : zf_W sc nc ns d t pc L [.inl (zb b)] m (zf_B Q) :=
  fun _ _ => zw_iret hdg hr (by cases b <;> decide) ⟨m, rfl, b, rfl, q⟩
theorem zf_rv {Q : zf_Me → Prop} (hdg : decode (zx_mb t) pc = .ok (.return_, 1)) (hr : zx_mr t = none) (q : Q m) : zf_W sc nc ns d t pc L [] m (zf_O Q) :=
  fun _ _ => zw_vret hdg hr ⟨m, rfl, rfl, q⟩
theorem zf_rl {v : Int64} {Q : Int64 → zf_Me → Prop} (hdg : decode (zx_mb t) pc = .ok (.lreturn, 1)) (hr : zx_mr t = some .long) (q : Q v m) : zf_W sc nc ns d t pc L [.inr (.inl v)] m (zf_J Q) :=
  fun _ _ => zw_lret hdg hr ⟨m, rfl, v, rfl, q⟩
theorem zf_iv {a ix k ci pc' : Nat} {np : Nat × Nat} {fs : List (Option Nat)} {as : List zx_V} {Q' : Option zx_V → zf_Me → Prop} (hdg : decode (zx_mb t) pc = .ok (.invokevirtual ix, 3)) (hp : pc + 3 = pc') (hk : zx_lk zx_lM (zx_mo t) ix = some (k, np)) (hkk : (decide (zx_mk (zx_m k) = 0) && decide (k < 221)) = true) (hd : S.drop (zx_mp (zx_m k)) = .inr (.inr (1, a)) :: r) (ha : a < 86) (hs : zf_sh a = .inl (ci, fs)) (hc : (decide (ci = zx_mo (zx_m k)) && (decide (ci < 9) && (decide (zx_cs r ≤ 8) && decide (zx_mp (zx_m k) ≤ S.length)))) = true) (has : (S.take (zx_mp (zx_m k))).reverse = as)
    (hM : zf_M d k (.inr (.inr (1, a)) :: as) m Q') (kk : ∀ v m', Q' v m' → zf_W sc nc ns (d + 1) t pc' L (v.toList ++ r) m' Q) : zf_W sc nc ns (d + 1) t pc L S m Q := by
  intro L' hL
  refine zw_iv (fs := zf_fs (m.1 a) 0 fs) hdg hp hk hkk hd ((zf_get ha).trans (by rw [hs]; rfl)) hc has ?_
  exact zx_M_cons hM (fun v h' _ ⟨m', e, q⟩ _ => by subst e; exact kk v m' q L' hL)
theorem zf_is {ix k pc' : Nat} {np : Nat × Nat} {as : List zx_V} {Q' : Option zx_V → zf_Me → Prop} (hdg : decode (zx_mb t) pc = .ok (.invokestatic ix, 3)) (hp : pc + 3 = pc') (hk : zx_lk zx_lM (zx_mo t) ix = some (k, np)) (hkk : (decide (zx_mk (zx_m k) = 1) && (decide (k < 221) && (decide (zx_cs (S.drop (zx_mp (zx_m k))) ≤ 8) && decide (zx_mp (zx_m k) ≤ S.length)))) = true) (has : (S.take (zx_mp (zx_m k))).reverse = as) (hd : S.drop (zx_mp (zx_m k)) = r)
    (hM : zf_M d k as m Q') (kk : ∀ v m', Q' v m' → zf_W sc nc ns (d + 1) t pc' L (v.toList ++ r) m' Q) : zf_W sc nc ns (d + 1) t pc L S m Q := by
  intro L' hL
  refine zw_is hdg hp hk hkk has hd ?_
  exact zx_M_cons hM (fun v h' _ ⟨m', e, q⟩ _ => by subst e; exact kk v m' q L' hL)
theorem zf_kI {pc' : Nat} {Q' : Int32 → zf_Me → Prop} (kk : ∀ x m', Q' x m' → zf_W sc nc ns d t pc' L (.inl x :: r) m' Q) : ∀ v m', zf_I Q' v m' → zf_W sc nc ns d t pc' L (v.toList ++ r) m' Q := by
  rintro v m' ⟨x, rfl, q⟩
  exact kk x m' q
theorem zf_kB {pc' : Nat} {Q' : Bool → zf_Me → Prop} (kk : ∀ b m', Q' b m' → zf_W sc nc ns d t pc' L (.inl (zb b) :: r) m' Q) : ∀ v m', zf_B Q' v m' → zf_W sc nc ns d t pc' L (v.toList ++ r) m' Q := by
  rintro v m' ⟨x, rfl, q⟩
  exact kk x m' q
theorem zf_kO {pc' : Nat} {Q' : zf_Me → Prop} (kk : ∀ m', Q' m' → zf_W sc nc ns d t pc' L r m' Q) : ∀ v m', zf_O Q' v m' → zf_W sc nc ns d t pc' L (v.toList ++ r) m' Q := by
  rintro v m' ⟨rfl, q⟩
  exact kk m' q
theorem zf_kJ {pc' : Nat} {Q' : Int64 → zf_Me → Prop} (kk : ∀ x m', Q' x m' → zf_W sc nc ns d t pc' L (.inr (.inl x) :: r) m' Q) : ∀ v m', zf_J Q' v m' → zf_W sc nc ns d t pc' L (v.toList ++ r) m' Q := by
  rintro v m' ⟨x, rfl, q⟩
  exact kk x m' q
theorem zf_kT {pc' : Nat} {Q' : Nat → zf_Me → Prop} (kk : ∀ a m', a < 12 → Q' a m' → zf_W sc nc ns d t pc' L (.inr (.inr (2, a)) :: r) m' Q) : ∀ v m', zf_T Q' v m' → zf_W sc nc ns d t pc' L (v.toList ++ r) m' Q := by
  rintro v m' ⟨x, rfl, h, q⟩
  exact kk x m' h q
theorem zf_iv2 {a ix k pc' : Nat} {np : Nat × Nat} {as : List zx_V} {Q' : Option zx_V → zf_Me → Prop} (hdg : decode (zx_mb t) pc = .ok (.invokevirtual ix, 3)) (hp : pc + 3 = pc') (hk : zx_lk zx_lM (zx_mo t) ix = some (k, np)) (hkk : (decide (zx_mk (zx_m k) = 0) && decide (k < 221)) = true) (hd : S.drop (zx_mp (zx_m k)) = .inr (.inr (2, a)) :: r) (ha : a < 12) (hc : (decide (zx_mo (zx_m k) = 11) && (decide (zx_cs r ≤ 8) && decide (zx_mp (zx_m k) ≤ S.length))) = true) (has : (S.take (zx_mp (zx_m k))).reverse = as)
    (hM : zf_M d k (.inr (.inr (2, a)) :: as) m Q') (kk : ∀ v m', Q' v m' → zf_W sc nc ns (d + 1) t pc' L (v.toList ++ r) m' Q) : zf_W sc nc ns (d + 1) t pc L S m Q := by
  intro L' hL
  subst hp has
  simp only [Bool.and_eq_true, decide_eq_true_eq] at hkk hc
  refine zx_W_call (k := k) (as := .inr (.inr (2, a)) :: (S.take (zx_mp (zx_m k))).reverse) (r := r) hdg rfl (fun run => ?_) (zx_M_cons hM (fun v h' _ ⟨m', e, q⟩ _ => by subst e; exact kk v m' q L' hL))
  show zx_iv run (zx_mo t) ix pc L' S _ nc ns = _
  unfold zx_iv
  simp only [hk]
  rw [if_pos hkk]
  simp only [hd]
  rw [if_pos ⟨ha, hc⟩]
theorem zf_rt {a : Nat} {Q : Nat → zf_Me → Prop} (hdg : decode (zx_mb t) pc = .ok (.areturn, 1)) {cn : String} (hr : zx_mr t = some (.object cn)) (ha : a < 12) (q : Q a m) : zf_W sc nc ns d t pc L [.inr (.inr (2, a))] m (zf_T Q) := by
  intro L' hL
  refine zx_W_end (v := some (.inr (.inr (2, a)))) hdg rfl (fun run => ?_) ⟨m, rfl, a, rfl, ha, q⟩
  show zx_ar (zx_mr t) _ _ nc ns = _
  unfold zx_ar
  rw [hr]
  rfl
theorem zf_ac {ix pc' : Nat} {a b z k : Nat} {n dp sp : Int32} (hdg : decode (zx_mb t) pc = .ok (.invokestatic ix, 3)) (hp : pc + 3 = pc') (hk : zx_lk zx_lM (zx_mo t) ix = none) {q0 : Nat} (hk2 : zx_lk zx_lA (zx_mo t) ix = some q0) (ha : a < 86) (hb : b < 86) (hsa : zf_sh a = .inr (.inl (0, z))) (hsb : zf_sh b = .inr (.inl (0, k))) (hr : Nat.ble (zx_cs r) 8 = true) (hi : 0 ≤ sp.toInt ∧ 0 ≤ dp.toInt ∧ 0 ≤ n.toInt ∧ sp.toInt + n.toInt ≤ z ∧ dp.toInt + n.toInt ≤ k) (kk : ∀ m', m' = zf_cp m a b sp.toInt.toNat dp.toInt.toNat n.toInt.toNat → zf_W sc nc ns d t pc' L r m' Q) : zf_W sc nc ns d t pc L (.inl n :: .inl dp :: .inr (.inr (1, b)) :: .inl sp :: .inr (.inr (1, a)) :: r) m Q := by
  subst hp
  intro L' hL
  have e0 : (0 : Int32).toInt = 0 := rfl
  have h1 : ¬ sp < 0 := fun q => by have := zi_lt.mp q; omega
  have h2 : ¬ dp < 0 := fun q => by have := zi_lt.mp q; omega
  have h3 : ¬ n < 0 := fun q => by have := zi_lt.mp q; omega
  have ga := (zf_get (m := m) ha).trans (by rw [hsa]; rfl : _ = some (Sum.inr (0, Sum.inl ((List.range z).map (m.1 a)))))
  have gb := (zf_get (m := m) hb).trans (by rw [hsb]; rfl : _ = some (Sum.inr (0, Sum.inl ((List.range k).map (m.1 b)))))
  have l1 : sp.toInt.toNat + n.toInt.toNat ≤ z := by omega
  have l2 : dp.toInt.toNat + n.toInt.toNat ≤ k := by omega
  refine zx_W_ins (pc' := pc + 3) (L' := L') (S' := r) (h' := zf_E (zf_cp m a b sp.toInt.toNat dp.toInt.toNat n.toInt.toNat)) hdg rfl (fun run => ?_) (by rw [zf_len, zf_len]) (kk _ rfl L' hL)
  show zx_is run (zx_mo t) ix pc L' _ _ nc ns = _
  unfold zx_is
  simp only [hk, hk2]
  unfold zx_ac
  simp only
  rw [if_pos ⟨Nat.ble_eq.mp hr, h1, h2, h3⟩, ga, gb]
  simp only
  rw [if_pos (by rw [zf_lr, zf_lr]; exact ⟨l1, l2⟩)]
  show zx_N _ _ _ ((zf_E m).set b (.inr (0, .inl (zx_cpy _ _ sp.toInt.toNat dp.toInt.toNat n.toInt.toNat)))) _ _ = _
  rw [zf_cpi hb hsb l1 l2]
  rfl
theorem zf_acl {ix pc' : Nat} {a b z k : Nat} {n dp sp : Int32} (hdg : decode (zx_mb t) pc = .ok (.invokestatic ix, 3)) (hp : pc + 3 = pc') (hk : zx_lk zx_lM (zx_mo t) ix = none) {q0 : Nat} (hk2 : zx_lk zx_lA (zx_mo t) ix = some q0) (ha : a < 86) (hb : b < 86) (hsa : zf_sh a = .inr (.inl (1, z))) (hsb : zf_sh b = .inr (.inl (1, k))) (hr : Nat.ble (zx_cs r) 8 = true) (hi : 0 ≤ sp.toInt ∧ 0 ≤ dp.toInt ∧ 0 ≤ n.toInt ∧ sp.toInt + n.toInt ≤ z ∧ dp.toInt + n.toInt ≤ k) (kk : ∀ m', m' = zf_cpl m a b sp.toInt.toNat dp.toInt.toNat n.toInt.toNat → zf_W sc nc ns d t pc' L r m' Q) : zf_W sc nc ns d t pc L (.inl n :: .inl dp :: .inr (.inr (1, b)) :: .inl sp :: .inr (.inr (1, a)) :: r) m Q := by
  subst hp
  intro L' hL
  have e0 : (0 : Int32).toInt = 0 := rfl
  have h1 : ¬ sp < 0 := fun q => by have := zi_lt.mp q; omega
  have h2 : ¬ dp < 0 := fun q => by have := zi_lt.mp q; omega
  have h3 : ¬ n < 0 := fun q => by have := zi_lt.mp q; omega
  have ga := (zf_get (m := m) ha).trans (by rw [hsa]; rfl : _ = some (Sum.inr (1, Sum.inr (Sum.inl ((List.range z).map (m.2 a))))))
  have gb := (zf_get (m := m) hb).trans (by rw [hsb]; rfl : _ = some (Sum.inr (1, Sum.inr (Sum.inl ((List.range k).map (m.2 b))))))
  have l1 : sp.toInt.toNat + n.toInt.toNat ≤ z := by omega
  have l2 : dp.toInt.toNat + n.toInt.toNat ≤ k := by omega
  refine zx_W_ins (pc' := pc + 3) (L' := L') (S' := r) (h' := zf_E (zf_cpl m a b sp.toInt.toNat dp.toInt.toNat n.toInt.toNat)) hdg rfl (fun run => ?_) (by rw [zf_len, zf_len]) (kk _ rfl L' hL)
  show zx_is run (zx_mo t) ix pc L' _ _ nc ns = _
  unfold zx_is
  simp only [hk, hk2]
  unfold zx_ac
  simp only
  rw [if_pos ⟨Nat.ble_eq.mp hr, h1, h2, h3⟩, ga, gb]
  simp only
  rw [if_pos (by rw [zf_lr, zf_lr]; exact ⟨l1, l2⟩)]
  show zx_N _ _ _ ((zf_E m).set b (.inr (1, .inr (.inl (zx_cpy _ _ sp.toInt.toNat dp.toInt.toNat n.toInt.toNat))))) _ _ = _
  rw [zf_cpj hb hsb l1 l2]
  rfl
theorem zf_ar {a t0 n pc' : Nat} {l : List Nat} {v : Int32} (hdg : decode (zx_mb t) pc = .ok (.arraylength, 1)) (hp : pc + 1 = pc') (ha : a < 86) (hs : zf_sh a = .inr (.inr (t0, l))) (ht : t0 < 4) (hv : Int32.ofNat l.length = v) (kk : zf_W sc nc ns d t pc' L (.inl v :: r) m Q) : zf_W sc nc ns d t pc L (.inr (.inr (1, a)) :: r) m Q := by
  subst hp hv
  intro L' hL
  refine zx_W_ins hdg rfl (fun run => ?_) rfl (kk L' hL)
  show zx_al sc pc L' (.inr (.inr (1, a)) :: r) (zf_E m) nc ns = _
  unfold zx_al
  simp only [(zf_get (m := m) ha).trans (by rw [hs]; rfl : _ = some (Sum.inr (t0, Sum.inr (Sum.inr (l.map some)))))]
  rw [if_pos ht]
  show zx_N _ _ (.inl (Int32.ofNat (l.map some).length) :: r) _ _ _ = _
  rw [List.length_map]
  rfl
theorem zf_lsw {dflt : Int} {ps : Array (Int × Int)} {len : Nat} {x : Int32} {tg : Nat} (hdg : decode (zx_mb t) pc = .ok (.lookupswitch dflt ps, len)) (hs : (ps.toList.zip (ps.toList.drop 1)).all (fun (a, next) => a.1 < next.1) = true) {o : Int} (ho : Op.lookupswitch.offset ps.toList dflt x.toInt = o) (ht : (pc : Int) + o = (tg : Int)) (kk : zf_W sc nc ns d t tg L r m Q) : zf_W sc nc ns d t pc L (.inl x :: r) m Q := by
  subst ho
  intro L' hL
  refine zx_W_ins hdg rfl (fun run => ?_) rfl (kk L' hL)
  show zx_lsw dflt ps pc L' (.inl x :: r) (zf_E m) nc ns = _
  unfold zx_lsw
  simp only
  rw [if_pos hs]
  unfold zx_J
  rw [if_pos (by omega), show ((pc : Int) + Op.lookupswitch.offset ps.toList dflt x.toInt).toNat = tg by omega]
  rfl
theorem zf_ldc {ix n pc' : Nat} {v : Int32} {np : Nat} {ins : Instr} (hdg : decode (zx_mb t) pc = .ok (ins, n)) (hlen : zx_lok ins n = true) (h1 : ∀ run L' h, zx_ins sc run t ins pc L' S h nc ns = zx_lc (zx_mo t) ix n pc L' S h nc ns) (hp : pc + n = pc') (hk : zx_lk zx_lI (zx_mo t) ix = some (v, np)) (kk : zf_W sc nc ns d t pc' L (.inl v :: S) m Q) : zf_W sc nc ns d t pc L S m Q := by
  subst hp
  intro L' hL
  refine zx_W_ins hdg hlen (fun run => (h1 run L' _).trans ?_) rfl (kk L' hL)
  unfold zx_lc
  simp only [hk]
  rfl
theorem zf_lds {ix i pc' : Nat} (hdg : decode (zx_mb t) pc = .ok (.ldc ix, 2)) (hp : pc + 2 = pc') (hk : zx_lk zx_lI (zx_mo t) ix = none) (hk2 : zx_lk zx_lS (zx_mo t) ix = some i) (ho : zx_mo t = 4) (hi : i < 12) (kk : zf_W sc nc ns d t pc' L (.inr (.inr (2, i)) :: S) m Q) : zf_W sc nc ns d t pc L S m Q := by
  subst hp
  intro L' hL
  refine zx_W_ins hdg rfl (fun run => ?_) rfl (kk L' hL)
  show zx_lc (zx_mo t) ix 2 pc L' S _ nc ns = _
  unfold zx_lc
  simp only [hk, hk2]
  rw [if_pos trivial, if_pos ⟨ho, hi⟩]
  rfl
end
def zf_arr (a n : Nat) : Prop := a < 86 ∧ zf_sh a = .inr (.inl (0, n))
def zf_larr (a n : Nat) : Prop := a < 86 ∧ zf_sh a = .inr (.inl (1, n))
def zf_way (y : Nat) : Prop := y < 86 ∧ zf_sh y = .inl (6, [some (y + 1), some (y + 2), some (y + 3), some (y + 4), none, none]) ∧ zf_arr (y + 1) 24 ∧ zf_arr (y + 2) 24 ∧ zf_arr (y + 3) 6 ∧ zf_arr (y + 4) 6
def zf_walk (w y r : Nat) : Prop := w < 86 ∧ zf_sh w = .inl (5, [some y, some r, none, none, none, none, none, none, none, none, none, none, none]) ∧ zf_way y ∧ zf_arr r 6
def zf_shelf (c r : Nat) : Prop := c < 86 ∧ zf_sh c = .inl (3, [some r, none, none]) ∧ zf_larr r 160
theorem zf_way3 : zf_way 3 := ⟨by decide, rfl, ⟨by decide, rfl⟩, ⟨by decide, rfl⟩, ⟨by decide, rfl⟩, ⟨by decide, rfl⟩⟩
theorem zf_way10 : zf_way 10 := ⟨by decide, rfl, ⟨by decide, rfl⟩, ⟨by decide, rfl⟩, ⟨by decide, rfl⟩, ⟨by decide, rfl⟩⟩
theorem zf_way37 : zf_way 37 := ⟨by decide, rfl, ⟨by decide, rfl⟩, ⟨by decide, rfl⟩, ⟨by decide, rfl⟩, ⟨by decide, rfl⟩⟩
theorem zf_walk2 : zf_walk 2 3 8 := ⟨by decide, rfl, zf_way3, by decide, rfl⟩
theorem zf_walk9 : zf_walk 9 10 15 := ⟨by decide, rfl, zf_way10, by decide, rfl⟩
theorem zf_walk16 : zf_walk 16 3 17 := ⟨by decide, rfl, zf_way3, by decide, rfl⟩
theorem zf_walk19 : zf_walk 19 3 20 := ⟨by decide, rfl, zf_way3, by decide, rfl⟩
theorem zf_walk36 : zf_walk 36 37 42 := ⟨by decide, rfl, zf_way37, by decide, rfl⟩
theorem zf_walks {j : Nat} (h : j < 5) : zf_walk (25 + 2 * j) 3 (26 + 2 * j) := by
  match j, h with
  | 0, _ => exact ⟨by decide, rfl, zf_way3, by decide, rfl⟩
  | 1, _ => exact ⟨by decide, rfl, zf_way3, by decide, rfl⟩
  | 2, _ => exact ⟨by decide, rfl, zf_way3, by decide, rfl⟩
  | 3, _ => exact ⟨by decide, rfl, zf_way3, by decide, rfl⟩
  | 4, _ => exact ⟨by decide, rfl, zf_way3, by decide, rfl⟩
theorem zf_shelves {j : Nat} (h : j < 8) : zf_shelf (47 + 2 * j) (48 + 2 * j) := by
  match j, h with
  | 0, _ => exact ⟨by decide, rfl, by decide, rfl⟩
  | 1, _ => exact ⟨by decide, rfl, by decide, rfl⟩
  | 2, _ => exact ⟨by decide, rfl, by decide, rfl⟩
  | 3, _ => exact ⟨by decide, rfl, by decide, rfl⟩
  | 4, _ => exact ⟨by decide, rfl, by decide, rfl⟩
  | 5, _ => exact ⟨by decide, rfl, by decide, rfl⟩
  | 6, _ => exact ⟨by decide, rfl, by decide, rfl⟩
  | 7, _ => exact ⟨by decide, rfl, by decide, rfl⟩
theorem zf_row1 : ∀ j, j < 8 → [47, 49, 51, 53, 55, 57, 59, 61][j]? = some (47 + 2 * j) := by decide
theorem zf_row22 : ∀ j, j < 5 → [25, 27, 29, 31, 33][j]? = some (25 + 2 * j) := by decide
