section
/-! part 91: the memory behind the constructors -/
/-- the memory behind the constructors -/
def zf_m0 : zf_Me := (fun c k => match zx_hM[c]? with
  | some (.inl (_, fs)) => (match fs[k]? with
    | some (.inl x) => x
    | _ => 0)
  | some (.inr (0, .inl f)) => f.getD k 0
  | _ => 0, fun _ _ => 0)
def zf_dA : DecidableEq zx_A := inferInstance
def zf_dV : DecidableEq zx_V := inferInstance
def zf_d1 : DecidableEq (Nat × List zx_V) := by
  haveI := zf_dV
  exact inferInstance
def zf_d2 : DecidableEq (Nat × zx_A) := by
  haveI := zf_dA
  exact inferInstance
def zf_dC : DecidableEq zx_C := by
  haveI := zf_d1
  haveI := zf_d2
  exact inferInstance
def zf_dL : DecidableEq (List zx_C) := by
  haveI := zf_dC
  exact inferInstance
set_option maxRecDepth 100000 in
theorem zf_m0_ok : zx_hM = zf_E zf_m0 := by
  have h : (@decide (zx_hM = zf_E zf_m0) (zf_dL zx_hM (zf_E zf_m0))) = true := by decide +kernel
  exact @of_decide_eq_true _ (zf_dL zx_hM (zf_E zf_m0)) h
end
section
/-! part 98: the relation at the start; on every script the small machine's law answers 1: laid by wip/flat/w98n.py -/
set_option maxRecDepth 100000 in
theorem JX_0 : JX zf_m0 := ⟨by unfold zB; decide +kernel, by unfold zB; decide +kernel, by unfold zsz; decide +kernel⟩
set_option maxRecDepth 100000 in
theorem JM_0 : JM zf_m0 := ⟨by unfold zB; decide +kernel, by unfold zsR; decide +kernel, Or.inl (by decide +kernel), by unfold zwd; decide +kernel⟩
set_option maxRecDepth 100000 in
theorem zst_a : (∀ j, j < 24 → zf_m0.1 4 j = zf_m0.1 65 j) ∧ (∀ j, j < 24 → zf_m0.1 5 j = zf_m0.1 66 j) ∧ (∀ j, j < 6 → zf_m0.1 6 j = zf_m0.1 67 j) ∧ (∀ j, j < 6 → zf_m0.1 7 j = zf_m0.1 68 j) ∧ (∀ j, j < 6 → zf_m0.1 8 j = zf_m0.1 69 j) := by decide +kernel
set_option maxRecDepth 100000 in
theorem zst_b : ∀ k, k < 13 → zv 2 3 8 zf_m0 5 k = zr zf_m0 5 k := by decide +kernel
theorem zst_v : zv 2 3 8 zf_m0 = zr zf_m0 := by
  funext c k
  match c with
  | 0 => exact zN_eq zst_a.1
  | 1 => exact zN_eq zst_a.2.1
  | 2 => exact zN_eq zst_a.2.2.1
  | 3 => exact zN_eq zst_a.2.2.2.1
  | 4 => exact zN_eq zst_a.2.2.2.2
  | 5 =>
    by_cases h : k < 13
    · exact zst_b k h
    · obtain ⟨j, rfl⟩ : ∃ j, k = j + 13 := ⟨k - 13, by omega⟩
      rfl
  | _ + 6 => rfl
set_option maxRecDepth 100000 in
theorem zst_c : ∀ j, j < 8 → (zf_m0.1 (47 + 2 * j) 1).toInt = -1 := by decide +kernel
set_option maxRecDepth 100000 in
theorem zst_d : ∀ j, j < 8 → zcode (zf_m0.1 70 j).toInt (zf_m0.1 71 j).toInt (zf_m0.1 73 j).toInt = -1 := by decide +kernel
theorem zst_hC : zhC zf_m0 = fun _ => (-1, 0, fun _ => 0) := by
  funext j
  unfold zhC
  split
  · rename_i h
    rw [zst_c j h]
    rfl
  · rfl
theorem zst_hR : zhR zf_m0 = fun _ => (-1, 0, fun _ => 0) := by
  funext j
  unfold zhR
  split
  · rename_i h
    rw [zst_d j h]
    rfl
  · rfl
set_option maxRecDepth 100000 in
theorem zst_o : zso zf_m0 := by unfold zso; decide +kernel
set_option maxRecDepth 100000 in
theorem zst_t : zTz (zr zf_m0) := by unfold zTz; decide +kernel
set_option maxRecDepth 100000 in
theorem zst_n : ((zf_m0.1 0 9).toInt = 0 ∧ (zf_m0.1 63 52).toInt = 0) ∧ ((zf_m0.1 0 10).toInt = -1 ∧ (zf_m0.1 63 13).toInt = -1) ∧ (zf_m0.1 44 1).toInt = 0 ∧ (zf_m0.1 63 51).toInt = 0 := by decide +kernel
theorem zJ_0 : zJ zf_m0 := ⟨zr zf_m0, fun _ => (-1, 0, fun _ => 0), none, -1, [], ⟨JX_0, zst_v, zst_hC, ⟨fun _ => zst_n.1.1, fun _ z => (nomatch z)⟩, zst_n.2.1.1, zst_n.2.2.1, fun i _ z => absurd z (Nat.not_lt_zero i)⟩, ⟨⟨JM_0, zst_o⟩, rfl, zst_hR, ⟨fun _ => zst_n.1.2, fun _ z => (nomatch z)⟩, zst_n.2.1.2, zst_n.2.2.2, fun i _ z => absurd z (Nat.not_lt_zero i)⟩, zst_t, fun _ _ => Or.inl rfl, fun _ z => (nomatch z)⟩
theorem zx_pure {L : Nat} {xs : Nat → Int32} (hL : L ≤ 3072) : ∃ (n : Nat) (r : zx_R), zx_ex n 200 (some (L, xs)) zx_tl zx_sl0 = some r ∧ r.1 = some (.inl 1) ∧ r.2.2.1 ≤ 600000 ∧ r.2.2.2 ≤ 7302250 := by
  have k := zf_loop (J := zJ)
    (fun m hm _ _ _ => zz_68 hm (fun x z m2 e j => j))
    (fun m hm _ _ _ => zz_69 hm (fun x z m2 e j => j))
    (fun m hm _ _ _ _ _ => zz_70 hm (fun x z m2 e j => j))
    (fun m hm _ _ => zz_71 hm (fun x z m2 e j => j))
    (fun m hm _ _ => zz_72 hm (fun x z m2 e j => j))
    (fun m hm _ => zz_73 hm (fun x z m2 e j => j))
    (fun m hm _ _ => zz_74 hm (fun x z m2 e j => j))
    (fun m hm _ _ _ => zz_75 hm (fun x z m2 e j => j))
    (fun m hm _ _ => zz_76 hm (fun x z m2 e j => j))
    (fun m hm _ _ => zz_77 hm (fun x z m2 e j => j))
    (fun m hm _ _ => zz_78 hm (fun x z m2 e j => j))
    (fun m hm _ _ => zz_79 hm (fun x z m2 e j => j))
    (fun m hm _ _ => zz_80 hm (fun x z m2 e j => j))
    (fun m hm _ => zz_81 hm (fun x z m2 e j => j))
    (fun m hm _ => zz_82 hm (fun x z m2 e j => j))
    (fun m hm => zz_83 hm (fun x z m2 e j => j))
    (fun m hm _ _ => zz_84 hm (fun x z m2 e j => j))
    (fun m hm _ => zz_85 hm (fun x z m2 e j => j))
    (fun m hm => zz_86 hm (fun x z m2 e j => j))
    (fun m hm _ _ => zz_87 hm (fun x z m2 j => j))
    (fun m hm _ _ => zz_88 hm (fun x z m2 e j => j))
    (fun m hm _ => zz_89 hm (fun x z m2 e j => j))
    (fun m hm _ => zz_90 hm (fun x z m2 e j => j))
    (fun m hm _ _ => zz_91 hm (fun x z m2 j => j))
    (fun m hm _ => zz_92 hm (fun x z m2 e j => j))
    (fun m hm _ => zz_93 hm (fun x z m2 e j => j))
    (fun m hm _ _ => zz_94 hm (fun x z m2 e j => j))
    (fun m hm _ _ _ => zz_95 hm (fun x z m2 e j => j))
    (fun m hm _ _ => zz_96 hm (fun x z m2 e j => j))
    (fun m hm _ => zz_97 hm (fun x z m2 e j => j))
    (fun m hm => zz_98 hm (fun x z m2 e j => j))
    (fun m hm _ => zz_99 hm (fun x z m2 e j => j))
    (fun m hm _ => zz_100 hm (fun x z m2 e j => j))
    (fun m hm _ => zz_101 hm (fun x z m2 e j => j))
    (fun m hm => zz_102 hm (fun x z m2 e j => j))
    (fun m hm _ => zz_103 hm (fun x z m2 e j => j))
    (fun m hm _ _ _ => zz_104 hm (fun x z m2 e j => j))
    (fun m hm _ => zz_105 hm (fun x z m2 e j => j))
    (fun m hm => zz_106 hm (fun x z m2 e j => j))
    (fun m hm => zz_107 hm (fun x z m2 e j => ⟨e, j⟩))
    (fun m hm _ => zz_108 hm (fun x z m2 j => j))
    (xs := xs) hL (L + 1) 0 zf_m0 (by decide) (by show (0 : Int) ≤ _; omega) (by show (L : Int) + 1 ≤ 0 + ((L + 1 : Nat) : Int); omega) zJ_0
  obtain ⟨v, h', k1, _, m', _, k3⟩ := k _ (zf_le_refl _)
  rw [← zf_m0_ok] at k1
  obtain ⟨n, hn⟩ := zx_law0 k1
  exact ⟨n, _, hn, k3, (by decide : (86 : Nat) ≤ 600000), (by decide : (4372 : Nat) ≤ 7302250)⟩
end
