/-! part 98: on every script the small machine's law answers 1: laid by wip/flat/w98.py -/
theorem JM_c {m m' : zf_Me} (hJ : JM m) (h : zfc m m') : JM m' := by
  have e : ∀ a, 63 ≤ a → m'.1 a = m.1 a := fun a ha => (h a ha).1
  refine ⟨?_, ?_, ?_, ?_⟩
  · rw [show zr m' = zr m from zr_fr (fun k _ => by rw [e 63 (by decide)]) (fun a _ _ => e a (by omega))]
    exact hJ.1
  · unfold zsR
    rw [e 70 (by decide), e 72 (by decide), e 73 (by decide)]
    exact hJ.2.1
  · unfold zkp
    rw [e 63 (by decide), show zA 80 0 m' = zA 80 0 m from zL_ext (fun i _ => by rw [e 80 (by decide)])]
    exact hJ.2.2.1
  · unfold zwd
    rw [e 76 (by decide), e 77 (by decide)]
    exact hJ.2.2.2
theorem JX_d {m m' : zf_Me} (hJ : JX m) (h : zfd m m') : JX m' := by
  have e : ∀ a, a < 63 → m'.1 a = m.1 a := fun a ha => (h a ha).1
  refine ⟨?_, ?_, fun j hj => ?_⟩
  · rw [show zv 2 3 8 m' = zv 2 3 8 m from zv_fr (e _ (by omega)) (fun a _ _ => e a (by omega)) (e _ (by omega))]
    exact hJ.1
  · rw [show zv 9 10 15 m' = zv 9 10 15 m from zv_fr (e _ (by omega)) (fun a _ _ => e a (by omega)) (e _ (by omega))]
    exact hJ.2.1
  · rw [e _ (by omega)]
    exact hJ.2.2 j hj
set_option maxRecDepth 100000 in
theorem JX_0 : JX zf_m0 := ⟨by unfold zB; decide +kernel, by unfold zB; decide +kernel, by unfold zsz; decide +kernel⟩
set_option maxRecDepth 100000 in
theorem JM_0 : JM zf_m0 := ⟨by unfold zB; decide +kernel, by unfold zsR; decide +kernel, Or.inl (by decide +kernel), by unfold zwd; decide +kernel⟩
theorem zx_pure {L : Nat} {xs : Nat → Int32} (hL : L ≤ 3072) : ∃ (n : Nat) (r : zx_R), zx_ex n 200 (some (L, xs)) zx_tl zx_sl0 = some r ∧ r.1 = some (.inl 1) ∧ r.2.2.1 ≤ 600000 ∧ r.2.2.2 ≤ 7302250 := by
  have k := zf_loop (J := fun m => JX m ∧ JM m)
    (fun m h _ _ _ => zx_68 h.1 (fun x m1 j f e => zy_130 (JM_c h.2 f) (fun z m2 j2 f2 e2 => ⟨zi_inj (e.trans e2.symm), JX_d j f2, j2⟩)))
    (fun m h _ _ _ => zx_69 h.1 (fun x m1 j f => zy_131 (JM_c h.2 f) (fun z m2 j2 f2 => ⟨JX_d j f2, j2⟩)))
    (fun m h _ _ _ _ _ => zx_70 h.1 (fun x m1 j f => zy_132 (JM_c h.2 f) (fun z m2 j2 f2 => ⟨JX_d j f2, j2⟩)))
    (fun m h _ _ => zx_71 h.1 (fun x m1 j f => zy_133 (JM_c h.2 f) (fun z m2 j2 f2 => ⟨JX_d j f2, j2⟩)))
    (fun m h _ _ => zx_72 h.1 (fun x m1 j f => zy_134 (JM_c h.2 f) (fun z m2 j2 f2 => ⟨JX_d j f2, j2⟩)))
    (fun m h _ => zx_73 h.1 (fun x m1 j f => zy_135 (JM_c h.2 f) (fun z m2 j2 f2 => ⟨JX_d j f2, j2⟩)))
    (fun m h _ _ => zx_74 h.1 (fun x m1 j f => zy_136 (JM_c h.2 f) (fun z m2 j2 f2 => ⟨JX_d j f2, j2⟩)))
    (fun m h _ _ g => zx_75 h.1 g (fun x m1 j f => zy_142 (JM_c h.2 f) (fun z m2 j2 f2 => ⟨JX_d j f2, j2⟩)))
    (fun m h _ _ => zx_76 h.1 (fun x m1 j f => zy_143 (JM_c h.2 f) (fun z m2 j2 f2 => ⟨JX_d j f2, j2⟩)))
    (fun m h _ _ => zx_77 h.1 (fun x m1 j f => zy_144 (JM_c h.2 f) (fun z m2 j2 f2 => ⟨JX_d j f2, j2⟩)))
    (fun m h _ _ => zx_78 h.1 (fun x m1 j f => zy_145 (JM_c h.2 f) (fun z m2 j2 f2 => ⟨JX_d j f2, j2⟩)))
    (fun m h _ _ => zx_79 h.1 (fun x m1 j f => zy_150 (JM_c h.2 f) (fun z m2 j2 f2 => ⟨JX_d j f2, j2⟩)))
    (fun m h _ _ => zx_80 h.1 (fun x m1 j f => zy_151 (JM_c h.2 f) (fun z m2 j2 f2 => ⟨JX_d j f2, j2⟩)))
    (fun m h _ => zx_81 h.1 (fun x m1 j f => zy_152 (JM_c h.2 f) (fun z m2 j2 f2 => ⟨JX_d j f2, j2⟩)))
    (fun m h _ => zx_82 h.1 (fun x m1 j f => zy_162 (JM_c h.2 f) (fun z m2 j2 f2 => ⟨JX_d j f2, j2⟩)))
    (fun m h => zx_83 h.1 (fun x m1 j f => zy_163 (JM_c h.2 f) (fun z m2 j2 f2 => ⟨JX_d j f2, j2⟩)))
    (fun m h _ _ => zx_84 h.1 (fun x m1 j f => zy_171 (JM_c h.2 f) (fun z m2 j2 f2 => ⟨JX_d j f2, j2⟩)))
    (fun m h _ => zx_85 h.1 (fun x m1 j f => zy_172 (JM_c h.2 f) (fun z m2 j2 f2 => ⟨JX_d j f2, j2⟩)))
    (fun m h => zs_86 h.1.1 (zy_173 h.2 (fun z m2 j2 f2 => ⟨JX_d h.1 f2, j2⟩)))
    (fun m h _ _ => zx_87 h.1 (fun x m1 j f => zy_175 (JM_c h.2 f) (fun z m2 j2 f2 => ⟨JX_d j f2, j2⟩)))
    (fun m h _ _ => zx_88 h.1 (fun x m1 j f => zy_183 (JM_c h.2 f) (fun z m2 j2 f2 => ⟨JX_d j f2, j2⟩)))
    (fun m h _ => zx_89 h.1 (fun x m1 j f => zy_184 (JM_c h.2 f) (fun z m2 j2 f2 => ⟨JX_d j f2, j2⟩)))
    (fun m h _ => zx_90 h.1 (fun x m1 j f => zy_185 (JM_c h.2 f) (fun z m2 j2 f2 => ⟨JX_d j f2, j2⟩)))
    (fun m h _ _ => zx_91 h.1 (fun x m1 j f => zy_186 (JM_c h.2 f) (fun z m2 j2 f2 => ⟨JX_d j f2, j2⟩)))
    (fun m h _ => zx_92 h.1 (fun x m1 j f => zy_187 (JM_c h.2 f) (fun z m2 j2 f2 => ⟨JX_d j f2, j2⟩)))
    (fun m h _ => zx_93 h.1 (fun x m1 j f => zy_188 (JM_c h.2 f) (fun z m2 j2 f2 => ⟨JX_d j f2, j2⟩)))
    (fun m h _ _ => zx_94 h.1 (fun x m1 j f => zy_191 (JM_c h.2 f) (fun z m2 j2 f2 => ⟨JX_d j f2, j2⟩)))
    (fun m h _ _ _ => zx_95 h.1 (fun x m1 j f => zy_192 (JM_c h.2 f) (fun z m2 j2 f2 => ⟨JX_d j f2, j2⟩)))
    (fun m h _ _ => zx_96 h.1 (fun x m1 j f => zy_193 (JM_c h.2 f) (fun z m2 j2 f2 => ⟨JX_d j f2, j2⟩)))
    (fun m h _ => zx_97 h.1 (fun x m1 j f => zy_194 (JM_c h.2 f) (fun z m2 j2 f2 => ⟨JX_d j f2, j2⟩)))
    (fun m h => zx_98 h.1 (fun x m1 j f => zy_195 (JM_c h.2 f) (fun z m2 j2 f2 => ⟨JX_d j f2, j2⟩)))
    (fun m h _ => zx_99 h.1 (fun x m1 j f => zy_196 (JM_c h.2 f) (fun z m2 j2 f2 => ⟨JX_d j f2, j2⟩)))
    (fun m h _ => zx_100 h.1 (fun x m1 j f => zy_197 (JM_c h.2 f) (fun z m2 j2 f2 => ⟨JX_d j f2, j2⟩)))
    (fun m h _ => zx_101 h.1 (fun x m1 j f => zy_199 (JM_c h.2 f) (fun z m2 j2 f2 => ⟨JX_d j f2, j2⟩)))
    (fun m h => zx_102 h.1 (fun x m1 j f => zy_200 (JM_c h.2 f) (fun z m2 j2 f2 => ⟨JX_d j f2, j2⟩)))
    (fun m h _ => zx_103 h.1 (fun x m1 j f => zy_201 (JM_c h.2 f) (fun z m2 j2 f2 => ⟨JX_d j f2, j2⟩)))
    (fun m h _ _ _ => zx_104 h.1 (fun x m1 j f => zy_206 (JM_c h.2 f) (fun z m2 j2 f2 => ⟨JX_d j f2, j2⟩)))
    (fun m h _ => zx_105 h.1 (fun x m1 j f => zy_207 (JM_c h.2 f) (fun z m2 j2 f2 => ⟨JX_d j f2, j2⟩)))
    (fun m h => zx_106 h.1 (fun x m1 j f => zy_208 (JM_c h.2 f) (fun z m2 j2 f2 => ⟨JX_d j f2, j2⟩)))
    (fun m h => zx_107 h.1 (fun x m1 j f => zy_209 (JM_c h.2 f) (fun z m2 j2 f2 => ⟨JX_d j f2, j2⟩)))
    (fun m h _ => zx_108 h.1 (fun x m1 j f => zy_210 (JM_c h.2 f) (fun z m2 j2 f2 => ⟨JX_d j f2, j2⟩)))
    (xs := xs) hL (L + 1) 0 zf_m0 (by decide) (by show (0 : Int) ≤ _; omega) (by show (L : Int) + 1 ≤ 0 + ((L + 1 : Nat) : Int); omega) ⟨JX_0, JM_0⟩
  obtain ⟨v, h', k1, _, m', _, k3⟩ := k _ (zf_le_refl _)
  rw [← zf_m0_ok] at k1
  obtain ⟨n, hn⟩ := zx_law0 k1
  exact ⟨n, _, hn, k3, (by decide : (86 : Nat) ≤ 600000), (by decide : (4372 : Nat) ≤ 7302250)⟩
