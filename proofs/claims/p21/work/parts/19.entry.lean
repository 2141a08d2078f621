/-! part 19: from the law's entry to its loop's head: laid by wip/p2/law0.py -/
def zx_obj (ci : Nat) : zx_C := .inl (ci, (List.range (zx_fn ci)).map (fun k => zx_df (zx_ft ci k)))
theorem zx_bx_d : decode (zx_mb (zx_m 67)) 170 = .ok (.return_, 1) := by decide +kernel
set_option maxRecDepth 100000 in
theorem zx_bx_e : zx_Rn none 21 (zx_m 67) zx_bx21 (none, zx_hX, 62, 1925) := zx_Rn_end (N := 0) ((zx_stp_ins (st := zx_bx21) zx_bx_d rfl).trans rfl)
theorem zx_bx_r : zx_Rn none 21 (zx_m 67) zx_bx0 (none, zx_hX, 62, 1925) := zx_it_seq zx_bx3_ok (zx_it_seq zx_bx6_ok (zx_it_seq zx_bx9_ok (zx_it_seq zx_bx12_ok (zx_it_seq zx_bx15_ok (zx_it_seq zx_bx18_ok (zx_it_seq zx_bx21_ok (zx_bx_e)))))))
set_option maxRecDepth 100000 in
theorem zx_bx_run : ∃ N, zx_rr N 200 67 [.inr (.inr (1, 0))] [zx_obj 7] = some (none, zx_hX, 62, 1925) := by
  obtain ⟨n, hn⟩ := zx_bx_r
  refine ⟨n, ?_⟩
  have h1 := zx_ex_mono n n 21 199 none _ _ _ (Nat.le_refl _) (by decide) hn
  have h2 : zx_bx0 = (0, zx_L0 (zx_mn (zx_m 67)) [.inr (.inr (1, 0))], [], [zx_obj 7], 0, 0) := rfl
  rw [h2] at h1
  show (if zx_cs [.inr (.inr (1, 0))] ≤ zx_mn (zx_m 67) then _ else none) = _
  rw [if_pos (by decide)]
  exact h1
theorem zx_bm_d : decode (zx_mb (zx_m 124)) 712 = .ok (.return_, 1) := by decide +kernel
set_option maxRecDepth 100000 in
theorem zx_bm_e : zx_Rn none 21 (zx_m 124) zx_bm39 (none, zx_hM, 22, 2383) := zx_Rn_end (N := 0) ((zx_stp_ins (st := zx_bm39) zx_bm_d rfl).trans rfl)
theorem zx_bm_r : zx_Rn none 21 (zx_m 124) zx_bm0 (none, zx_hM, 22, 2383) := zx_it_seq zx_bm6_ok (zx_it_seq zx_bm12_ok (zx_it_seq zx_bm18_ok (zx_it_seq zx_bm24_ok (zx_it_seq zx_bm30_ok (zx_it_seq zx_bm36_ok (zx_it_seq zx_bm39_ok (zx_bm_e)))))))
set_option maxRecDepth 100000 in
theorem zx_bm_run : ∃ N, zx_rr N 200 124 [.inr (.inr (1, 63))] (zx_hX ++ [zx_obj 8]) = some (none, zx_hM, 22, 2383) := by
  obtain ⟨n, hn⟩ := zx_bm_r
  refine ⟨n, ?_⟩
  have h1 := zx_ex_mono n n 21 199 none _ _ _ (Nat.le_refl _) (by decide) hn
  have h2 : zx_bm0 = (0, zx_L0 (zx_mn (zx_m 124)) [.inr (.inr (1, 63))], [], (zx_hX ++ [zx_obj 8]), 0, 0) := rfl
  rw [h2] at h1
  show (if zx_cs [.inr (.inr (1, 63))] ≤ zx_mn (zx_m 124) then _ else none) = _
  rw [if_pos (by decide)]
  exact h1
theorem zx_dl_0 : decode (zx_mb zx_tl) 0 = .ok (.new 7, 3) := by decide +kernel
theorem zx_dl_3 : decode (zx_mb zx_tl) 3 = .ok (.dup, 1) := by decide +kernel
theorem zx_dl_4 : decode (zx_mb zx_tl) 4 = .ok (.invokespecial 9, 3) := by decide +kernel
theorem zx_dl_7 : decode (zx_mb zx_tl) 7 = .ok (.astore_n 1, 1) := by decide +kernel
theorem zx_dl_8 : decode (zx_mb zx_tl) 8 = .ok (.new 10, 3) := by decide +kernel
theorem zx_dl_11 : decode (zx_mb zx_tl) 11 = .ok (.dup, 1) := by decide +kernel
theorem zx_dl_12 : decode (zx_mb zx_tl) 12 = .ok (.invokespecial 12, 3) := by decide +kernel
theorem zx_dl_15 : decode (zx_mb zx_tl) 15 = .ok (.astore_n 2, 1) := by decide +kernel
theorem zx_dl_16 : decode (zx_mb zx_tl) 16 = .ok (.iconst 0, 1) := by decide +kernel
theorem zx_dl_17 : decode (zx_mb zx_tl) 17 = .ok (.istore_n 3, 1) := by decide +kernel
def zx_nc : Nat := 86
def zx_ns : Nat := 4372
/-- behind the constructors: the law's loop at its head -/
def zx_hd (i : Int32) (h : List zx_C) : zx_S := (18, [some (.inr (.inr (5, 0))), some (.inr (.inr (1, 0))), some (.inr (.inr (1, 63))), some (.inl i)], [], h, zx_nc, zx_ns)
set_option maxRecDepth 100000 in
theorem zx_law0 {q : Nat × (Nat → Int32)} {r : zx_R} (hk : zx_Rn (some q) 200 zx_tl (zx_hd 0 zx_hM) r) : zx_Rn (some q) 200 zx_tl zx_sl0 r := by
  obtain ⟨N1, e1⟩ := zx_bx_run
  obtain ⟨N2, e2⟩ := zx_bm_run
  refine zx_Rn_step (N := 0) (st := (0, [some (.inr (.inr (5, 0))), none, none, none], [], [], 0, 0)) (st' := (3, [some (.inr (.inr (5, 0))), none, none, none], [.inr (.inr (1, 0))], [zx_obj 7], 1, 11)) ((zx_stp_ins (st := (0, [some (.inr (.inr (5, 0))), none, none, none], [], [], 0, 0)) zx_dl_0 rfl).trans rfl) ?_
  refine zx_Rn_step (N := 0) (st := (3, [some (.inr (.inr (5, 0))), none, none, none], [.inr (.inr (1, 0))], [zx_obj 7], 1, 11)) (st' := (4, [some (.inr (.inr (5, 0))), none, none, none], [.inr (.inr (1, 0)), .inr (.inr (1, 0))], [zx_obj 7], 1, 11)) ((zx_stp_ins (st := (3, [some (.inr (.inr (5, 0))), none, none, none], [.inr (.inr (1, 0))], [zx_obj 7], 1, 11)) zx_dl_3 rfl).trans rfl) ?_
  refine zx_Rn_step (N := N1) (st := (4, [some (.inr (.inr (5, 0))), none, none, none], [.inr (.inr (1, 0)), .inr (.inr (1, 0))], [zx_obj 7], 1, 11)) (st' := (7, [some (.inr (.inr (5, 0))), none, none, none], [.inr (.inr (1, 0))], zx_hX, 63, 1936)) ((zx_stp_ins (st := (4, [some (.inr (.inr (5, 0))), none, none, none], [.inr (.inr (1, 0)), .inr (.inr (1, 0))], [zx_obj 7], 1, 11)) zx_dl_4 rfl).trans ?_) ?_
  · show zx_ret 4 [some (.inr (.inr (5, 0))), none, none, none] [.inr (.inr (1, 0))] [zx_obj 7] 1 11 (zx_rr N1 200 67 [.inr (.inr (1, 0))] [zx_obj 7]) = _
    rw [e1]
    rfl
  refine zx_Rn_step (N := 0) (st := (7, [some (.inr (.inr (5, 0))), none, none, none], [.inr (.inr (1, 0))], zx_hX, 63, 1936)) (st' := (8, [some (.inr (.inr (5, 0))), some (.inr (.inr (1, 0))), none, none], [], zx_hX, 63, 1936)) ((zx_stp_ins (st := (7, [some (.inr (.inr (5, 0))), none, none, none], [.inr (.inr (1, 0))], zx_hX, 63, 1936)) zx_dl_7 rfl).trans rfl) ?_
  refine zx_Rn_step (N := 0) (st := (8, [some (.inr (.inr (5, 0))), some (.inr (.inr (1, 0))), none, none], [], zx_hX, 63, 1936)) (st' := (11, [some (.inr (.inr (5, 0))), some (.inr (.inr (1, 0))), none, none], [.inr (.inr (1, 63))], (zx_hX ++ [zx_obj 8]), 64, 1989)) ((zx_stp_ins (st := (8, [some (.inr (.inr (5, 0))), some (.inr (.inr (1, 0))), none, none], [], zx_hX, 63, 1936)) zx_dl_8 rfl).trans rfl) ?_
  refine zx_Rn_step (N := 0) (st := (11, [some (.inr (.inr (5, 0))), some (.inr (.inr (1, 0))), none, none], [.inr (.inr (1, 63))], (zx_hX ++ [zx_obj 8]), 64, 1989)) (st' := (12, [some (.inr (.inr (5, 0))), some (.inr (.inr (1, 0))), none, none], [.inr (.inr (1, 63)), .inr (.inr (1, 63))], (zx_hX ++ [zx_obj 8]), 64, 1989)) ((zx_stp_ins (st := (11, [some (.inr (.inr (5, 0))), some (.inr (.inr (1, 0))), none, none], [.inr (.inr (1, 63))], (zx_hX ++ [zx_obj 8]), 64, 1989)) zx_dl_11 rfl).trans rfl) ?_
  refine zx_Rn_step (N := N2) (st := (12, [some (.inr (.inr (5, 0))), some (.inr (.inr (1, 0))), none, none], [.inr (.inr (1, 63)), .inr (.inr (1, 63))], (zx_hX ++ [zx_obj 8]), 64, 1989)) (st' := (15, [some (.inr (.inr (5, 0))), some (.inr (.inr (1, 0))), none, none], [.inr (.inr (1, 63))], zx_hM, 86, 4372)) ((zx_stp_ins (st := (12, [some (.inr (.inr (5, 0))), some (.inr (.inr (1, 0))), none, none], [.inr (.inr (1, 63)), .inr (.inr (1, 63))], (zx_hX ++ [zx_obj 8]), 64, 1989)) zx_dl_12 rfl).trans ?_) ?_
  · show zx_ret 12 [some (.inr (.inr (5, 0))), some (.inr (.inr (1, 0))), none, none] [.inr (.inr (1, 63))] (zx_hX ++ [zx_obj 8]) 64 1989 (zx_rr N2 200 124 [.inr (.inr (1, 63))] (zx_hX ++ [zx_obj 8])) = _
    rw [e2]
    rfl
  refine zx_Rn_step (N := 0) (st := (15, [some (.inr (.inr (5, 0))), some (.inr (.inr (1, 0))), none, none], [.inr (.inr (1, 63))], zx_hM, 86, 4372)) (st' := (16, [some (.inr (.inr (5, 0))), some (.inr (.inr (1, 0))), some (.inr (.inr (1, 63))), none], [], zx_hM, 86, 4372)) ((zx_stp_ins (st := (15, [some (.inr (.inr (5, 0))), some (.inr (.inr (1, 0))), none, none], [.inr (.inr (1, 63))], zx_hM, 86, 4372)) zx_dl_15 rfl).trans rfl) ?_
  refine zx_Rn_step (N := 0) (st := (16, [some (.inr (.inr (5, 0))), some (.inr (.inr (1, 0))), some (.inr (.inr (1, 63))), none], [], zx_hM, 86, 4372)) (st' := (17, [some (.inr (.inr (5, 0))), some (.inr (.inr (1, 0))), some (.inr (.inr (1, 63))), none], [.inl 0], zx_hM, 86, 4372)) ((zx_stp_ins (st := (16, [some (.inr (.inr (5, 0))), some (.inr (.inr (1, 0))), some (.inr (.inr (1, 63))), none], [], zx_hM, 86, 4372)) zx_dl_16 rfl).trans rfl) ?_
  refine zx_Rn_step (N := 0) (st := (17, [some (.inr (.inr (5, 0))), some (.inr (.inr (1, 0))), some (.inr (.inr (1, 63))), none], [.inl 0], zx_hM, 86, 4372)) (st' := (18, [some (.inr (.inr (5, 0))), some (.inr (.inr (1, 0))), some (.inr (.inr (1, 63))), some (.inl 0)], [], zx_hM, 86, 4372)) ((zx_stp_ins (st := (17, [some (.inr (.inr (5, 0))), some (.inr (.inr (1, 0))), some (.inr (.inr (1, 63))), none], [.inl 0], zx_hM, 86, 4372)) zx_dl_17 rfl).trans rfl) ?_
  exact hk
