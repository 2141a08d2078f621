/-! part 8e: what walks keep: bounds, nobody tired beyond PEOPLE, PEOPLE never fewer -/
theorem zTz_of {f g : zS} (h : zTz f) (hp : f 5 6 ≤ g 5 6) (ht : ∀ k : Nat, k < 6 → g 5 6 ≤ k → g 4 k = f 4 k) : zTz g := fun k k6 hk => by
  rw [ht k k6 hk]
  exact h k k6 (by omega)
def zGo (f g : zS) : Prop := zB g ∧ zTz g ∧ f 5 6 ≤ g 5 6
theorem zGo_refl {f : zS} (hB : zB f) (hT : zTz f) : zGo f f := ⟨hB, hT, Int.le_refl _⟩
theorem zGo_t {f g h : zS} (a : zGo f g) (b : zGo g h) : zGo f h := ⟨b.1, b.2.1, Int.le_trans a.2.2 b.2.2⟩
theorem zGo_u5 {f : zS} {k : Nat} {x : Int} (hT : zTz f) (hk : ¬ k = 6) (hB : zB (zU f 5 k x)) : zGo f (zU f 5 k x) := by
  have p : zU f 5 k x 5 6 = f 5 6 := zU_o (by omega)
  exact ⟨hB, zTz_of hT (by rw [p]; exact Int.le_refl _) (fun j _ _ => zU_o (by omega)), by rw [p]; exact Int.le_refl _⟩
theorem zGo_addF {f : zS} {s t : Int} (hT : zTz f) (hB : zB (zaddF f s t)) : zGo f (zaddF f s t) := by
  have p : zaddF f s t 5 6 = f 5 6 := by
    unfold zaddF
    rw [zU_o (by omega), zU_o (by omega), zU_o (by omega)]
  refine ⟨hB, zTz_of hT (by rw [p]; exact Int.le_refl _) (fun j _ _ => ?_), by rw [p]; exact Int.le_refl _⟩
  unfold zaddF
  rw [zU_o (by omega), zU_o (by omega), zU_o (by omega)]
theorem zGo_addP {f : zS} {s t : Int} (hT : zTz f) (hp : 0 ≤ f 5 6) (hB : zB (zaddP f s t)) : zGo f (zaddP f s t) := by
  have p : zaddP f s t 5 6 = f 5 6 + 1 := zU_s
  refine ⟨hB, zTz_of hT (by rw [p]; omega) (fun j _ hj => ?_), by rw [p]; omega⟩
  rw [p] at hj
  unfold zaddP
  rw [zU_o (by omega), zU_o (by omega), zU_o (by omega), zU_o (by omega)]
theorem zGo_act {f : zS} {a : Int} (hB : zB f) (hT : zTz f) (ha : zmay f a) : zGo f (zact f a) := by
  have b := hB.1
  have p : zact f a 5 6 = f 5 6 := zact_people
  have ge : ∀ (g : zS) (c : Int) (k : Nat), f 5 6 ≤ k → zrestO g c (f 5 6).toNat 4 k = g 4 k := fun g c k hk => zrestO_ge (by omega)
  refine ⟨zB_act hB ha, zTz_of hT (by rw [p]; exact Int.le_refl _) (fun k _ hk => ?_), by rw [p]; exact Int.le_refl _⟩
  rw [p] at hk
  have wd : ∀ g : zS, g 5 6 = f 5 6 → zwalkd g 4 k = g 4 k := fun g hg => by
    unfold zwalkd
    rw [zU_o (by omega), hg, ge _ _ _ hk, zU_o (by omega), zU_o (by omega), zU_o (by omega)]
  unfold zact
  split
  · exact wd f rfl
  · split
    · rw [wd _ (by rw [zU_o (by omega), zU_o (by omega)]), zU_o (by omega), zU_o (by omega)]
    · split
      · rw [wd _ (by rw [zU_o (by omega), zU_o (by omega)]), zU_o (by omega), zU_o (by omega)]
      · split
        · unfold zresta zrestA
          rw [if_neg (by omega), zU_o (by omega), zU_o (by omega), zU_o (by omega)]
        · rename_i n6 n7 n8 n9
          have c : zcarryOk f a := by
            rcases ha with z | z | z | z | z
            · exact absurd z.1 n6
            · exact absurd z.1 n7
            · exact absurd z.1 n8
            · exact absurd z.1 n9
            · exact z.2.2.2.2
          have c1 := c.1
          unfold zcarry
          rw [zU_o (by omega), ge _ _ _ hk]
          unfold zcar3
          rw [zU_o (by omega), zcar2_o (by omega)]
          unfold zcar1
          rw [zU_o (by omega), zU_o (by omega)]
theorem zGo_tire {f : zS} {p : Nat} {x : Int} (hT : zTz f) (hp : (p : Int) < f 5 6) (hB : zB (zU f 4 p x)) : zGo f (zU f 4 p x) := by
  have q : zU f 4 p x 5 6 = f 5 6 := zU_o (by omega)
  refine ⟨hB, zTz_of hT (by rw [q]; exact Int.le_refl _) (fun k _ hk => ?_), by rw [q]; exact Int.le_refl _⟩
  rw [q] at hk
  exact zU_o (by omega)
theorem zGo_stile {f : zS} {p : Nat} {x : Int} (hT : zTz f) (hB : zB (zU f 1 p x)) : zGo f (zU f 1 p x) := by
  have q : zU f 1 p x 5 6 = f 5 6 := zU_o (by omega)
  exact ⟨hB, zTz_of hT (by rw [q]; exact Int.le_refl _) (fun k _ hk => zU_o (by omega)), by rw [q]; exact Int.le_refl _⟩
theorem zGo_ask {f : zS} {w : Nat} {v : Int} (hT : zTz f) (hw : w < 5) (hB : zB (zask f w v)) : zGo f (zask f w v) := by
  have q : zask f w v 5 6 = f 5 6 := by
    unfold zask
    split
    · rw [zU_o (by omega), zU_o (by omega)]
    · rw [zU_o (by omega)]
  refine ⟨hB, zTz_of hT (by rw [q]; exact Int.le_refl _) (fun k _ hk => ?_), by rw [q]; exact Int.le_refl _⟩
  unfold zask
  split
  · rw [zU_o (by omega), zU_o (by omega)]
  · rw [zU_o (by omega)]
-- the calls
theorem zGo_75 {f : zS} {s t : Int} (hB : zB f) (hT : zTz f) : zGo f (zN75 f s t).2 := by
  unfold zN75
  split
  · exact zGo_refl hB hT
  · split
    · exact zGo_addF hT (zB_addF hB (by omega) (by omega) (by split <;> decide))
    · exact zGo_refl hB hT
theorem zGo_76 {f : zS} {s t : Int} (hB : zB f) (hT : zTz f) : zGo f (zN76 f s t).2 := by
  have b := hB.1
  unfold zN76
  split
  · exact zGo_refl hB hT
  · split
    · exact zGo_refl hB hT
    · split
      · exact zGo_addP hT (by omega) (zB_addP hB (by omega) (by omega) (by omega))
      · exact zGo_refl hB hT
theorem zGo_79 {f : zS} {w v : Int} (hB : zB f) (hT : zTz f) : zGo f (zN79 f w v).2 := by
  unfold zN79
  split
  · exact zGo_refl hB hT
  · split
    · rename_i g1 g2
      exact zGo_ask hT (by omega) (zB_ask hB (by omega) g2)
    · exact zGo_refl hB hT
theorem zGo_80 {f : zS} {p v : Int} (hB : zB f) (hT : zTz f) : zGo f (zN80 f p v).2 := by
  unfold zN80
  split
  · exact zGo_refl hB hT
  · split
    · exact zGo_refl hB hT
    · exact zGo_tire hT (by omega) (zB_tire hB (by omega))
theorem zGo_81 {f : zS} {p : Int} (hB : zB f) (hT : zTz f) : zGo f (zN81 f p).2 := by
  have b := hB.1
  unfold zN81
  split
  · exact zGo_u5 hT (by decide) (zB_bag hB (by omega))
  · exact zGo_refl hB hT
theorem zGo_100 {f : zS} {a : Int} (hB : zB f) (hT : zTz f) : zGo f (zN100 f a).2 := by
  unfold zN100
  split
  · rename_i g
    exact zGo_act hB hT g
  · exact zGo_refl hB hT
theorem zGo_sum1 {f : zS} (hB : zB f) (hT : zTz f) : zGo f (zsum1 f) := by
  unfold zsum1
  split
  · exact zGo_refl hB hT
  · rename_i g
    have c := zbc_ok (zbits f 10) (zbits_lt f 10)
    have p := c.2.1 g
    rw [zpcr_cnt f 10 0 (by decide)] at p
    have m1 := Int.emod_nonneg (zup (znexts (f 5 12))) (show (zcnt f 10 0 : Int) ≠ 0 by omega)
    have m2 := Int.emod_lt_of_pos (zup (znexts (f 5 12))) (show (0 : Int) < zcnt f 10 0 by omega)
    have a := zGo_u5 (k := 12) (x := znexts (f 5 12)) hT (by decide) (zB_seed (s := Int32.ofInt (f 5 12) * 1103515245 + 12345) hB)
    exact zGo_t a (zGo_act a.1 a.2.1 (zmay_seed.mpr (zpick_ok f 10 0 _ m1 m2)))
theorem zGo_summ : ∀ (n : Nat) {f : zS}, zB f → zTz f → zGo f (zsumm f n)
  | 0, _, hB, hT => zGo_refl hB hT
  | n + 1, _, hB, hT => by
    have a := zGo_sum1 hB hT
    exact zGo_t a (zGo_summ n a.1 a.2.1)
theorem zGo_101 {f : zS} {n : Int} (hB : zB f) (hT : zTz f) : zGo f (zN101 f n).2 := by
  unfold zN101
  split
  · exact zGo_summ _ hB hT
  · exact zGo_refl hB hT
theorem zGo_try {x : zHe} : ∀ (n i : Nat) {f : zS}, zB f → zTz f → zGo f (ztry x f n i).2
  | 0, _, _, hB, hT => zGo_refl hB hT
  | n + 1, i, f, hB, hT => by
    unfold ztry
    split
    · rename_i g
      have a := zGo_act hB hT g
      exact zGo_t a (zGo_try n (i + 1) a.1 a.2.1)
    · exact zGo_refl hB hT
theorem zGo_96 {h : zH} {f : zS} {s n : Int} (hB : zB f) (hT : zTz f) : zGo f (zN96 h f s n).2 := by
  unfold zN96
  split
  · exact zGo_refl hB hT
  · split
    · exact zGo_try _ _ hB hT
    · exact zGo_refl hB hT
theorem zGo_dayT {f : zS} : ∀ n, n ≤ 6 → zB f → zTz f → zGo f (zdayT f n)
  | 0, _, hB, hT => zGo_refl hB hT
  | n + 1, h, hB, hT => by
    have a := zGo_dayT n (by omega) hB hT
    refine zGo_t a ?_
    show zGo (zdayT f n) (zU (zdayT f n) 4 n 0)
    by_cases g : (n : Int) < zdayT f n 5 6
    · exact zGo_tire a.2.1 g (zB_tire a.1 (by decide))
    · have z := a.2.1 n (by omega) (by omega)
      have i := zU_id (f := zdayT f n) (c := 4) (k := n)
      rw [z] at i
      rw [i]
      exact zGo_refl a.1 a.2.1
theorem zB_day0 {f : zS} (h : zB f) : zB (zday0 f) := by
  have h1 := h.1
  refine ⟨?_, zB2_u5 (zB2_u5 (zB2_u5 (zB2_u5 h.2.1))), zB3_u5 (zB3_u5 (zB3_u5 (zB3_u5 h.2.2)))⟩
  show zB1 (f 5 0) (f 5 1) (f 5 2) (f 5 3) (f 5 4) (f 5 5) (f 5 6) (f 5 7) (f 5 0) 0 0 0 (f 5 12)
  omega
theorem zGo_102 {f : zS} (hB : zB f) (hT : zTz f) : zGo f (zN102 f).2 := by
  have q : zday0 f 5 6 = f 5 6 := by
    unfold zday0
    rw [zU_o (by omega), zU_o (by omega), zU_o (by omega), zU_o (by omega)]
  have a : zGo f (zday0 f) := ⟨zB_day0 hB, zTz_of hT (by rw [q]; exact Int.le_refl _) (fun k _ _ => by
    unfold zday0
    rw [zU_o (by omega), zU_o (by omega), zU_o (by omega), zU_o (by omega)]), by rw [q]; exact Int.le_refl _⟩
  exact zGo_t a (zGo_dayT 6 (Nat.le_refl _) a.1 a.2.1)
theorem zGo_103 {f : zS} {v : Int32} (hB : zB f) (hT : zTz f) : zGo f (zN103 f v.toInt).2 := zGo_u5 hT (by decide) (zB_seed hB)
theorem zone_go {T : zT} {q lo hi : Int} {f : zS} {g : Int → zS} (e : (zone (znum T q lo hi) g f).1 = -1) (q0 : 0 ≤ q) (hg : ∀ v, 0 ≤ v → lo ≤ v → v ≤ hi → v ≤ 99 → zGo f (g v)) : zGo f (zone (znum T q lo hi) g f).2.2 := by
  unfold zone at e ⊢
  by_cases n : (znum T q lo hi).1 = -1
  · rw [if_pos n] at e
    have := znum_f q0 n
    exact absurd (show (znum T q lo hi).2 = -1 from e) (by omega)
  · rw [if_neg n]
    have b := znum_b n
    exact hg _ b.2.1.1 b.2.1.2.1 b.2.1.2.2.1 b.2.1.2.2.2
theorem ztwo_go {T : zT} {q lo hi : Int} {f : zS} {g : Int → Int → zIt} (e : (ztwo (znum T q lo hi) g f).1 = -1) (q0 : 0 ≤ q) (hg : ∀ v q2, (g v q2).1 = -1 → 0 ≤ v → lo ≤ v → v ≤ hi → v ≤ 99 → q + 1 < q2 → zGo f (g v q2).2.2) : zGo f (ztwo (znum T q lo hi) g f).2.2 := by
  unfold ztwo at e ⊢
  by_cases n : (znum T q lo hi).1 = -1
  · rw [if_pos n] at e
    have := znum_f q0 n
    exact absurd (show (znum T q lo hi).2 = -1 from e) (by omega)
  · rw [if_neg n] at e ⊢
    have b := znum_b n
    exact hg _ _ e b.2.1.1 b.2.1.2.1 b.2.1.2.2.1 b.2.1.2.2.2 b.2.2.1
theorem zGo_arg {T : zT} {f : zS} {w : Nat} {q : Int} (hB : zB f) (hT : zTz f) (hr0 : zroomB f w = true) (hw : w < 12) (q0 : 0 ≤ q) (e : (zarg T f w q).1 = -1) : zGo f (zarg T f w q).2.2 := by
  have hr := zroom_i.mp hr0
  have b := hB.1
  unfold zarg at e ⊢
  by_cases e0 : w = 0
  · rw [if_pos e0] at e ⊢
    exact zone_go e q0 (fun v a1 a2 a3 a4 => zGo_addF hT (zB_addF hB (hr.1 (Or.inl e0)) (by omega) (by decide)))
  rw [if_neg e0] at e ⊢
  by_cases e1 : w = 1
  · rw [if_pos e1] at e ⊢
    exact zone_go e q0 (fun v a1 a2 a3 a4 => zGo_addF hT (zB_addF hB (hr.1 (Or.inr e1)) (by omega) (by decide)))
  rw [if_neg e1] at e ⊢
  by_cases e2 : w = 2
  · rw [if_pos e2]
    exact zGo_stile hT (zB_til hB)
  rw [if_neg e2] at e ⊢
  by_cases e3 : w = 3
  · rw [if_pos e3] at e ⊢
    have r3 := hr.2.2 e3
    clear hr
    exact ztwo_go e q0 (fun a q2 er a1 a2 a3 a4 a5 => zone_go er (by omega) (fun v c1 c2 c3 c4 => zGo_addP hT (by omega) (zB_addP hB r3 (by omega) (by omega))))
  rw [if_neg e3] at e ⊢
  by_cases e4 : w = 4
  · rw [if_pos e4] at e ⊢
    clear hr
    exact ztwo_go e q0 (fun a q2 er a1 a2 a3 a4 a5 => zone_go er (by omega) (fun v c1 c2 c3 c4 => zGo_tire hT (by omega) (zB_tire hB (by omega))))
  rw [if_neg e4] at e ⊢
  by_cases e5 : w = 5
  · rw [if_pos e5] at e ⊢
    clear hr
    exact zone_go e q0 (fun v a1 a2 a3 a4 => zGo_u5 hT (by decide) (zB_bag hB (by omega)))
  rw [if_neg e5] at e ⊢
  by_cases e6 : w = 6
  · rw [if_pos e6] at e ⊢
    clear hr
    refine ztwo_go e q0 (fun a q2 er a1 a2 a3 a4 a5 => ?_)
    by_cases m : zmay f a
    · rw [if_pos m]
      exact zGo_act hB hT m
    · rw [if_neg m]
      exact zGo_refl hB hT
  rw [if_neg e6] at e ⊢
  clear hr
  exact zone_go e q0 (fun v a1 a2 a3 a4 => zGo_ask hT (by omega) (zB_ask hB (by omega) ⟨a2, a3⟩))
theorem zGo_item {T : zT} {f : zS} {s : Int} (hB : zB f) (hT : zTz f) (s0 : 0 ≤ s) (e : (zitem T f s).1 = -1) : zGo f (zitem T f s).2.2 := by
  unfold zitem at e ⊢
  by_cases n : zfind T s 12 = 12
  · rw [if_pos n]
    exact zGo_refl hB hT
  rw [if_neg n] at e ⊢
  have l := zfind_l n
  by_cases r : zroomB f (zfind T s 12) = true
  · rw [if_neg (fun z => z r)] at e ⊢
    exact zGo_arg hB hT r l.1 (by omega) e
  · rw [if_pos r]
    exact zGo_refl hB hT
theorem zGo_way {T : zT} : ∀ (k : Nat) {f : zS} {s n : Int}, zB f → zTz f → 0 ≤ s → zGo f (zway T k f s n).2.2
  | 0, _, _, _, hB, hT, _ => zGo_refl hB hT
  | k + 1, f, s, n, hB, hT, s0 => by
    unfold zway
    by_cases e : (zitem T f s).1 = -1
    · rw [if_neg (fun z => z e)]
      have a := zGo_item hB hT s0 e
      have g := (zitem_g (T := T) hB s0).2 e
      split
      · exact a
      · split
        · exact zGo_refl hB hT
        · exact zGo_t a (zGo_way k a.1 a.2.1 (by omega))
    · rw [if_pos e]
      exact zGo_refl hB hT
theorem zGo_82 {h : zH} {f : zS} {s : Int} (hB : zB f) (hT : zTz f) : zGo f (zN82 h f s).2.1 := by
  unfold zN82
  split
  · exact zGo_refl hB hT
  · split
    · exact zGo_way 170 hB hT (Int.le_refl _)
    · exact zGo_refl hB hT
-- shelves that show people who are there
theorem zsh_le {h : zH} {a b : Int} (k : zsh h a) (l : a ≤ b) : zsh h b := fun j hj => (k j hj).elim Or.inl (fun z => Or.inr ⟨z.1, by omega⟩)
theorem zsh_put {h : zH} {a : Int} {s : Nat} {x : zHe} (k : zsh h a) (hx : x.1 < 100 → x.1 = -1 ∨ (0 ≤ x.1 ∧ x.1 < a)) : zsh (zput h s x) a := fun j => by
  unfold zput
  by_cases e : j = s
  · rw [if_pos e]
    exact hx
  · rw [if_neg e]
    exact k j
theorem zsh_68 {h : zH} {a s o n : Int} (k : zsh h a) : zsh (zN68 h s o n).2 a := by
  unfold zN68
  by_cases e : zrowA s o n = 1
  · show zsh (if zrowA s o n = 1 then _ else _) a
    rw [if_pos e]
    refine zsh_put k (fun z => ?_)
    unfold zrowA at e
    split at e
    · exact absurd e (by decide)
    · split at e
      · exact absurd e (by decide)
      · split at e
        · exact absurd e (by decide)
        · rename_i g
          replace z : 100 + o < 100 := z
          omega
  · show zsh (if zrowA s o n = 1 then _ else _) a
    rw [if_neg e]
    exact k
theorem zsh_69 {h : zH} {a s i : Int} {x : Int64} (k : zsh h a) : zsh (zN69 h s i x).2 a := by
  unfold zN69
  split
  · exact k
  · split
    · exact k
    · split
      · exact k
      · exact zsh_put k (k s.toNat)
theorem zsh_70 {h : zH} {a p q i j n : Int} (k : zsh h a) : zsh (zN70 h p q i j n).2 a := by
  unfold zN70
  split
  · exact k
  · split
    · exact k
    · split
      · exact k
      · exact zsh_put k (k q.toNat)
theorem zsh_72 {h : zH} {a s p : Int} (k : zsh h a) : zsh (zN72 h a s p).2 a := by
  unfold zN72
  split
  · exact k
  · split
    · exact zsh_put k (fun _ => Or.inl rfl)
    · split
      · rename_i g
        exact zsh_put k (fun _ => Or.inr g)
      · exact k
theorem zsh_clr {h : zH} {a : Int} : zsh (zclr h a) a := fun j => by
  unfold zclr
  by_cases e : (h j).1 < 100 ∧ ¬ (0 ≤ (h j).1 ∧ (h j).1 < a)
  · rw [if_pos e]
    exact fun _ => Or.inl rfl
  · rw [if_neg e]
    intro z
    exact Or.inr (Decidable.byContradiction fun n => e ⟨z, n⟩)
