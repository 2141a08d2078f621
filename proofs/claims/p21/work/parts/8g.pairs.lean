/-! part 8g: each pair of calls keeps the relation, and answers alike: laid by wip/flat/w8f.py -/
section
variable {m : zf_Me}
theorem zz_75 (hz : zJ m) {a0 : Int32} {a1 : Int32} {Q : Int32 → Int32 → zf_Me → Prop} (K : ∀ x z m2, x = z → zJ m2 → Q x z m2) : wp_75 a0 a1 m (fun x m1 => wp_142 a0 a1 m1 (fun z m2 => Q x z m2)) := by
  obtain ⟨f, h, im, ft, l, c, r, g⟩ := hz
  have o := zGo_75 (s := a0.toInt) (t := a1.toInt) (CS_B c) g.1
  refine zX_75 c.1 (fun x m1 F1 e1 z1 => ?_)
  rw [c.2.1] at e1 z1
  have r1 := RS_c r (zfc_w F1)
  refine zY_142 r1.1.1 (fun z m2 F2 e2 z2 => ?_)
  rw [r1.2.1] at e2 z2
  exact K x z m2 (zi_inj (e1.trans e2.symm)) ⟨_, h, im, ft, l, CS_d (CS_w c F1 z1 o.1) (zfd_q F2), RS_w r1 F2 z2 o.1, zG_w g o⟩
theorem zz_76 (hz : zJ m) {a0 : Int32} {a1 : Int32} {Q : Int32 → Int32 → zf_Me → Prop} (K : ∀ x z m2, x = z → zJ m2 → Q x z m2) : wp_76 a0 a1 m (fun x m1 => wp_143 a0 a1 m1 (fun z m2 => Q x z m2)) := by
  obtain ⟨f, h, im, ft, l, c, r, g⟩ := hz
  have o := zGo_76 (s := a0.toInt) (t := a1.toInt) (CS_B c) g.1
  refine zX_76 c.1 (fun x m1 F1 e1 z1 => ?_)
  rw [c.2.1] at e1 z1
  have r1 := RS_c r (zfc_w F1)
  refine zY_143 r1.1.1 (fun z m2 F2 e2 z2 => ?_)
  rw [r1.2.1] at e2 z2
  exact K x z m2 (zi_inj (e1.trans e2.symm)) ⟨_, h, im, ft, l, CS_d (CS_w c F1 z1 o.1) (zfd_q F2), RS_w r1 F2 z2 o.1, zG_w g o⟩
theorem zz_79 (hz : zJ m) {a0 : Int32} {a1 : Int32} {Q : Int32 → Int32 → zf_Me → Prop} (K : ∀ x z m2, x = z → zJ m2 → Q x z m2) : wp_79 a0 a1 m (fun x m1 => wp_150 a0 a1 m1 (fun z m2 => Q x z m2)) := by
  obtain ⟨f, h, im, ft, l, c, r, g⟩ := hz
  have o := zGo_79 (w := a0.toInt) (v := a1.toInt) (CS_B c) g.1
  refine zX_79 c.1 (fun x m1 F1 e1 z1 => ?_)
  rw [c.2.1] at e1 z1
  have r1 := RS_c r (zfc_w F1)
  refine zY_150  (fun z m2 F2 e2 z2 => ?_)
  rw [r1.2.1] at e2 z2
  exact K x z m2 (zi_inj (e1.trans e2.symm)) ⟨_, h, im, ft, l, CS_d (CS_w c F1 z1 o.1) (zfd_q F2), RS_w r1 F2 z2 o.1, zG_w g o⟩
theorem zz_80 (hz : zJ m) {a0 : Int32} {a1 : Int32} {Q : Int32 → Int32 → zf_Me → Prop} (K : ∀ x z m2, x = z → zJ m2 → Q x z m2) : wp_80 a0 a1 m (fun x m1 => wp_151 a0 a1 m1 (fun z m2 => Q x z m2)) := by
  obtain ⟨f, h, im, ft, l, c, r, g⟩ := hz
  have o := zGo_80 (p := a0.toInt) (v := a1.toInt) (CS_B c) g.1
  refine zX_80 c.1 (fun x m1 F1 e1 z1 => ?_)
  rw [c.2.1] at e1 z1
  have r1 := RS_c r (zfc_w F1)
  refine zY_151 r1.1.1 (fun z m2 F2 e2 z2 => ?_)
  rw [r1.2.1] at e2 z2
  exact K x z m2 (zi_inj (e1.trans e2.symm)) ⟨_, h, im, ft, l, CS_d (CS_w c F1 z1 o.1) (zfd_q F2), RS_w r1 F2 z2 o.1, zG_w g o⟩
theorem zz_81 (hz : zJ m) {a0 : Int32} {Q : Int32 → Int32 → zf_Me → Prop} (K : ∀ x z m2, x = z → zJ m2 → Q x z m2) : wp_81 a0 m (fun x m1 => wp_152 a0 m1 (fun z m2 => Q x z m2)) := by
  obtain ⟨f, h, im, ft, l, c, r, g⟩ := hz
  have o := zGo_81 (p := a0.toInt) (CS_B c) g.1
  refine zX_81 c.1 (fun x m1 F1 e1 z1 => ?_)
  rw [c.2.1] at e1 z1
  have r1 := RS_c r (zfc_w F1)
  refine zY_152  (fun z m2 F2 e2 z2 => ?_)
  rw [r1.2.1] at e2 z2
  exact K x z m2 (zi_inj (e1.trans e2.symm)) ⟨_, h, im, ft, l, CS_d (CS_w c F1 z1 o.1) (zfd_q F2), RS_w r1 F2 z2 o.1, zG_w g o⟩
theorem zz_100 (hz : zJ m) {a0 : Int32} {Q : Int32 → Int32 → zf_Me → Prop} (K : ∀ x z m2, x = z → zJ m2 → Q x z m2) : wp_100 a0 m (fun x m1 => wp_197 a0 m1 (fun z m2 => Q x z m2)) := by
  obtain ⟨f, h, im, ft, l, c, r, g⟩ := hz
  have o := zGo_100 (a := a0.toInt) (CS_B c) g.1
  refine zX_100 c.1 (fun x m1 F1 e1 z1 => ?_)
  rw [c.2.1] at e1 z1
  have r1 := RS_c r (zfc_w F1)
  refine zY_197 r1.1.1 (fun z m2 F2 e2 z2 => ?_)
  rw [r1.2.1] at e2 z2
  exact K x z m2 (zi_inj (e1.trans e2.symm)) ⟨_, h, im, ft, l, CS_d (CS_w c F1 z1 o.1) (zfd_q F2), RS_w r1 F2 z2 o.1, zG_w g o⟩
theorem zz_101 (hz : zJ m) {a0 : Int32} {Q : Int32 → Int32 → zf_Me → Prop} (K : ∀ x z m2, x = z → zJ m2 → Q x z m2) : wp_101 a0 m (fun x m1 => wp_199 a0 m1 (fun z m2 => Q x z m2)) := by
  obtain ⟨f, h, im, ft, l, c, r, g⟩ := hz
  have o := zGo_101 (n := a0.toInt) (CS_B c) g.1
  refine zX_101 c.1 (fun x m1 F1 e1 z1 => ?_)
  rw [c.2.1] at e1 z1
  have r1 := RS_c r (zfc_w F1)
  refine zY_199 r1.1.1 (fun z m2 F2 e2 z2 => ?_)
  rw [r1.2.1] at e2 z2
  exact K x z m2 (zi_inj (e1.trans e2.symm)) ⟨_, h, im, ft, l, CS_d (CS_w c F1 z1 o.1) (zfd_q F2), RS_w r1 F2 z2 o.1, zG_w g o⟩
theorem zz_102 (hz : zJ m) {Q : Int32 → Int32 → zf_Me → Prop} (K : ∀ x z m2, x = z → zJ m2 → Q x z m2) : wp_102 m (fun x m1 => wp_200 m1 (fun z m2 => Q x z m2)) := by
  obtain ⟨f, h, im, ft, l, c, r, g⟩ := hz
  have o := zGo_102 (CS_B c) g.1
  refine zX_102 c.1 (fun x m1 F1 e1 z1 => ?_)
  rw [c.2.1] at e1 z1
  have r1 := RS_c r (zfc_w F1)
  refine zY_200 r1.1.1 (by rw [r1.2.1]; exact g.1) (fun z m2 F2 e2 z2 => ?_)
  rw [r1.2.1] at e2 z2
  exact K x z m2 (zi_inj (e1.trans e2.symm)) ⟨_, h, im, ft, l, CS_d (CS_w c F1 z1 o.1) (zfd_q F2), RS_w r1 F2 z2 o.1, zG_w g o⟩
theorem zz_103 (hz : zJ m) {a0 : Int32} {Q : Int32 → Int32 → zf_Me → Prop} (K : ∀ x z m2, x = z → zJ m2 → Q x z m2) : wp_103 a0 m (fun x m1 => wp_201 a0 m1 (fun z m2 => Q x z m2)) := by
  obtain ⟨f, h, im, ft, l, c, r, g⟩ := hz
  have o := zGo_103 (v := a0) (CS_B c) g.1
  refine zX_103  (fun x m1 F1 e1 z1 => ?_)
  rw [c.2.1] at e1 z1
  have r1 := RS_c r (zfc_w F1)
  refine zY_201  (fun z m2 F2 e2 z2 => ?_)
  rw [r1.2.1] at e2 z2
  exact K x z m2 (zi_inj (e1.trans e2.symm)) ⟨_, h, im, ft, l, CS_d (CS_w c F1 z1 o.1) (zfd_q F2), RS_w r1 F2 z2 o.1, zG_w g o⟩
theorem zz_96 (hz : zJ m) {a0 : Int32} {a1 : Int32} {Q : Int32 → Int32 → zf_Me → Prop} (K : ∀ x z m2, x = z → zJ m2 → Q x z m2) : wp_96 a0 a1 m (fun x m1 => wp_193 a0 a1 m1 (fun z m2 => Q x z m2)) := by
  obtain ⟨f, h, im, ft, l, c, r, g⟩ := hz
  have o := zGo_96 (h := h) (s := a0.toInt) (n := a1.toInt) (CS_B c) g.1
  refine zX_96 c.1 (fun x m1 F1 e1 z1 => ?_)
  rw [c.2.1, c.2.2.1] at e1 z1
  have r1 := RS_c r (zfc_w F1)
  refine zY_193 r1.1.1 r1.1.2 (fun z m2 F2 e2 z2 => ?_)
  rw [r1.2.1, r1.2.2.1] at e2 z2
  exact K x z m2 (zi_inj (e1.trans e2.symm)) ⟨_, h, im, ft, l, CS_d (CS_w c F1 z1 o.1) (zfd_q F2), RS_w r1 F2 z2 o.1, zG_w g o⟩
theorem zz_68 (hz : zJ m) {a0 : Int32} {a1 : Int32} {a2 : Int32} {Q : Int32 → Int32 → zf_Me → Prop} (K : ∀ x z m2, x = z → zJ m2 → Q x z m2) : wp_68 a0 a1 a2 m (fun x m1 => wp_130 a0 a1 a2 m1 (fun z m2 => Q x z m2)) := by
  obtain ⟨f, h, im, ft, l, c, r, g⟩ := hz
  refine zX_68 c.1 (fun x m1 F1 e1 z1 => ?_)
  rw [c.2.2.1] at e1 z1
  have r1 := RS_c r (zfc_S F1)
  refine zY_130 r1.1.1 r1.1.2 (fun z m2 F2 e2 z2 => ?_)
  rw [r1.2.2.1] at e2 z2
  exact K x z m2 (zi_inj (e1.trans e2.symm)) ⟨f, _, im, ft, l, CS_d (CS_S c F1 z1) (zfd_S F2), RS_S r1 F2 z2, zG_s g (zsh_68 g.2.1)⟩
theorem zz_69 (hz : zJ m) {a0 : Int32} {a1 : Int32} {a2 : Int64} {Q : Int32 → Int32 → zf_Me → Prop} (K : ∀ x z m2, x = z → zJ m2 → Q x z m2) : wp_69 a0 a1 a2 m (fun x m1 => wp_131 a0 a1 a2 m1 (fun z m2 => Q x z m2)) := by
  obtain ⟨f, h, im, ft, l, c, r, g⟩ := hz
  refine zX_69 c.1 (fun x m1 F1 e1 z1 => ?_)
  rw [c.2.2.1] at e1 z1
  have r1 := RS_c r (zfc_S F1)
  refine zY_131 r1.1.1 r1.1.2 (fun z m2 F2 e2 z2 => ?_)
  rw [r1.2.2.1] at e2 z2
  exact K x z m2 (zi_inj (e1.trans e2.symm)) ⟨f, _, im, ft, l, CS_d (CS_S c F1 z1) (zfd_S F2), RS_S r1 F2 z2, zG_s g (zsh_69 g.2.1)⟩
theorem zz_70 (hz : zJ m) {a0 : Int32} {a1 : Int32} {a2 : Int32} {a3 : Int32} {a4 : Int32} {Q : Int32 → Int32 → zf_Me → Prop} (K : ∀ x z m2, x = z → zJ m2 → Q x z m2) : wp_70 a0 a1 a2 a3 a4 m (fun x m1 => wp_132 a0 a1 a2 a3 a4 m1 (fun z m2 => Q x z m2)) := by
  obtain ⟨f, h, im, ft, l, c, r, g⟩ := hz
  refine zX_70 c.1 (fun x m1 F1 e1 z1 => ?_)
  rw [c.2.2.1] at e1 z1
  have r1 := RS_c r (zfc_S F1)
  refine zY_132 r1.1.1 r1.1.2 (fun z m2 F2 e2 z2 => ?_)
  rw [r1.2.2.1] at e2 z2
  exact K x z m2 (zi_inj (e1.trans e2.symm)) ⟨f, _, im, ft, l, CS_d (CS_S c F1 z1) (zfd_S F2), RS_S r1 F2 z2, zG_s g (zsh_70 g.2.1)⟩
theorem zz_72 (hz : zJ m) {a0 : Int32} {a1 : Int32} {Q : Int32 → Int32 → zf_Me → Prop} (K : ∀ x z m2, x = z → zJ m2 → Q x z m2) : wp_72 a0 a1 m (fun x m1 => wp_134 a0 a1 m1 (fun z m2 => Q x z m2)) := by
  obtain ⟨f, h, im, ft, l, c, r, g⟩ := hz
  refine zX_72 c.1 (fun x m1 F1 e1 z1 => ?_)
  rw [c.2.2.1, c.2.1] at e1 z1
  have r1 := RS_c r (zfc_S F1)
  refine zY_134 r1.1.1 r1.1.2 (fun z m2 F2 e2 z2 => ?_)
  rw [r1.2.2.1, r1.2.1] at e2 z2
  exact K x z m2 (zi_inj (e1.trans e2.symm)) ⟨f, _, im, ft, l, CS_d (CS_S c F1 z1) (zfd_S F2), RS_S r1 F2 z2, zG_s g (zsh_72 g.2.1)⟩
theorem zz_74 (hz : zJ m) {a0 : Int32} {a1 : Int32} {Q : Int32 → Int32 → zf_Me → Prop} (K : ∀ x z m2, x = z → zJ m2 → Q x z m2) : wp_74 a0 a1 m (fun x m1 => wp_136 a0 a1 m1 (fun z m2 => Q x z m2)) := by
  obtain ⟨f, h, im, ft, l, c, r, g⟩ := hz
  refine zA_74 c.1 (fun x m1 F1 e1 => ?_)
  rw [c.2.1, c.2.2.1] at e1
  have r1 := RS_c r (zfc_q F1)
  refine zG_136 r1.1.1 r1.1.2 (by rw [r1.2.2.1, r1.2.1]; exact g.2.1) (fun z m2 F2 z2 e2 => ?_)
  rw [r1.2.1, r1.2.2.1] at e2
  exact K x z m2 (zi_inj (e1.trans e2.symm)) ⟨f, h, im, ft, l, CS_d (CS_q c F1) (zfd_q F2), RS_q r1 F2 z2, g⟩
theorem zz_77 (hz : zJ m) {a0 : Int32} {a1 : Int32} {Q : Int32 → Int32 → zf_Me → Prop} (K : ∀ x z m2, x = z → zJ m2 → Q x z m2) : wp_77 a0 a1 m (fun x m1 => wp_144 a0 a1 m1 (fun z m2 => Q x z m2)) := by
  obtain ⟨f, h, im, ft, l, c, r, g⟩ := hz
  refine zA_77 c.1 (fun x m1 F1 e1 => ?_)
  rw [c.2.1] at e1
  have r1 := RS_c r (zfc_q F1)
  refine zG_144 r1.1.1 (fun z m2 F2 z2 e2 => ?_)
  rw [r1.2.1] at e2
  exact K x z m2 (zi_inj (e1.trans e2.symm)) ⟨f, h, im, ft, l, CS_d (CS_q c F1) (zfd_q F2), RS_q r1 F2 z2, g⟩
theorem zz_78 (hz : zJ m) {a0 : Int32} {a1 : Int32} {Q : Int32 → Int32 → zf_Me → Prop} (K : ∀ x z m2, x = z → zJ m2 → Q x z m2) : wp_78 a0 a1 m (fun x m1 => wp_145 a0 a1 m1 (fun z m2 => Q x z m2)) := by
  obtain ⟨f, h, im, ft, l, c, r, g⟩ := hz
  refine zA_78 c.1 (fun x m1 F1 e1 => ?_)
  rw [c.2.1] at e1
  have r1 := RS_c r (zfc_q F1)
  refine zG_145 r1.1.1 (fun z m2 F2 z2 e2 => ?_)
  rw [r1.2.1] at e2
  exact K x z m2 (zi_inj (e1.trans e2.symm)) ⟨f, h, im, ft, l, CS_d (CS_q c F1) (zfd_q F2), RS_q r1 F2 z2, g⟩
theorem zz_84 (hz : zJ m) {a0 : Int32} {a1 : Int32} {Q : Int32 → Int32 → zf_Me → Prop} (K : ∀ x z m2, x = z → zJ m2 → Q x z m2) : wp_84 a0 a1 m (fun x m1 => wp_171 a0 a1 m1 (fun z m2 => Q x z m2)) := by
  obtain ⟨f, h, im, ft, l, c, r, g⟩ := hz
  refine zA_84 c.1 (fun x m1 F1 e1 => ?_)
  rw [c.2.1] at e1
  have r1 := RS_c r (zfc_q F1)
  refine zG_171 r1.1.1 (fun z m2 F2 z2 e2 => ?_)
  rw [r1.2.1] at e2
  exact K x z m2 (zi_inj (e1.trans e2.symm)) ⟨f, h, im, ft, l, CS_d (CS_q c F1) (zfd_q F2), RS_q r1 F2 z2, g⟩
theorem zz_85 (hz : zJ m) {a0 : Int32} {Q : Int32 → Int32 → zf_Me → Prop} (K : ∀ x z m2, x = z → zJ m2 → Q x z m2) : wp_85 a0 m (fun x m1 => wp_172 a0 m1 (fun z m2 => Q x z m2)) := by
  obtain ⟨f, h, im, ft, l, c, r, g⟩ := hz
  refine zA_85 c.1 (fun x m1 F1 e1 => ?_)
  rw [c.2.1] at e1
  have r1 := RS_c r (zfc_q F1)
  refine zG_172 r1.1.1 (fun z m2 F2 z2 e2 => ?_)
  rw [r1.2.1] at e2
  exact K x z m2 (zi_inj (e1.trans e2.symm)) ⟨f, h, im, ft, l, CS_d (CS_q c F1) (zfd_q F2), RS_q r1 F2 z2, g⟩
theorem zz_88 (hz : zJ m) {a0 : Int32} {a1 : Int32} {Q : Int32 → Int32 → zf_Me → Prop} (K : ∀ x z m2, x = z → zJ m2 → Q x z m2) : wp_88 a0 a1 m (fun x m1 => wp_183 a0 a1 m1 (fun z m2 => Q x z m2)) := by
  obtain ⟨f, h, im, ft, l, c, r, g⟩ := hz
  refine zA_88 c.1 (fun x m1 F1 e1 => ?_)
  rw [c.2.1] at e1
  have r1 := RS_c r (zfc_q F1)
  refine zG_183 r1.1.1 (fun z m2 F2 z2 e2 => ?_)
  rw [r1.2.1] at e2
  exact K x z m2 (zi_inj (e1.trans e2.symm)) ⟨f, h, im, ft, l, CS_d (CS_q c F1) (zfd_q F2), RS_q r1 F2 z2, g⟩
theorem zz_89 (hz : zJ m) {a0 : Int32} {Q : Int32 → Int32 → zf_Me → Prop} (K : ∀ x z m2, x = z → zJ m2 → Q x z m2) : wp_89 a0 m (fun x m1 => wp_184 a0 m1 (fun z m2 => Q x z m2)) := by
  obtain ⟨f, h, im, ft, l, c, r, g⟩ := hz
  refine zA_89 c.1 (fun x m1 F1 e1 => ?_)
  rw [c.2.1] at e1
  have r1 := RS_c r (zfc_q F1)
  refine zG_184 r1.1.1 (fun z m2 F2 z2 e2 => ?_)
  rw [r1.2.1] at e2
  exact K x z m2 (zi_inj (e1.trans e2.symm)) ⟨f, h, im, ft, l, CS_d (CS_q c F1) (zfd_q F2), RS_q r1 F2 z2, g⟩
theorem zz_90 (hz : zJ m) {a0 : Int32} {Q : Int32 → Int32 → zf_Me → Prop} (K : ∀ x z m2, x = z → zJ m2 → Q x z m2) : wp_90 a0 m (fun x m1 => wp_185 a0 m1 (fun z m2 => Q x z m2)) := by
  obtain ⟨f, h, im, ft, l, c, r, g⟩ := hz
  refine zA_90 c.1 (fun x m1 F1 e1 => ?_)
  rw [c.2.1] at e1
  have r1 := RS_c r (zfc_q F1)
  refine zG_185 r1.1.1 (fun z m2 F2 z2 e2 => ?_)
  rw [r1.2.1] at e2
  exact K x z m2 (zi_inj (e1.trans e2.symm)) ⟨f, h, im, ft, l, CS_d (CS_q c F1) (zfd_q F2), RS_q r1 F2 z2, g⟩
theorem zz_92 (hz : zJ m) {a0 : Int32} {Q : Int32 → Int32 → zf_Me → Prop} (K : ∀ x z m2, x = z → zJ m2 → Q x z m2) : wp_92 a0 m (fun x m1 => wp_187 a0 m1 (fun z m2 => Q x z m2)) := by
  obtain ⟨f, h, im, ft, l, c, r, g⟩ := hz
  refine zA_92 c.1 (fun x m1 F1 e1 => ?_)
  rw [c.2.1] at e1
  have r1 := RS_c r (zfc_q F1)
  refine zG_187 r1.1.1 (fun z m2 F2 z2 e2 => ?_)
  rw [r1.2.1] at e2
  exact K x z m2 (zi_inj (e1.trans e2.symm)) ⟨f, h, im, ft, l, CS_d (CS_q c F1) (zfd_q F2), RS_q r1 F2 z2, g⟩
theorem zz_93 (hz : zJ m) {a0 : Int32} {Q : Int32 → Int32 → zf_Me → Prop} (K : ∀ x z m2, x = z → zJ m2 → Q x z m2) : wp_93 a0 m (fun x m1 => wp_188 a0 m1 (fun z m2 => Q x z m2)) := by
  obtain ⟨f, h, im, ft, l, c, r, g⟩ := hz
  refine zA_93 c.1 (fun x m1 F1 e1 => ?_)
  rw [c.2.1] at e1
  have r1 := RS_c r (zfc_q F1)
  refine zG_188 r1.1.1 (fun z m2 F2 z2 e2 => ?_)
  rw [r1.2.1] at e2
  exact K x z m2 (zi_inj (e1.trans e2.symm)) ⟨f, h, im, ft, l, CS_d (CS_q c F1) (zfd_q F2), RS_q r1 F2 z2, g⟩
theorem zz_94 (hz : zJ m) {a0 : Int32} {a1 : Int32} {Q : Int32 → Int32 → zf_Me → Prop} (K : ∀ x z m2, x = z → zJ m2 → Q x z m2) : wp_94 a0 a1 m (fun x m1 => wp_191 a0 a1 m1 (fun z m2 => Q x z m2)) := by
  obtain ⟨f, h, im, ft, l, c, r, g⟩ := hz
  refine zA_94 c.1 (fun x m1 F1 e1 => ?_)
  rw [c.2.1, c.2.2.1] at e1
  have r1 := RS_c r (zfc_q F1)
  refine zG_191 r1.1.1 r1.1.2 (fun z m2 F2 z2 e2 => ?_)
  rw [r1.2.1, r1.2.2.1] at e2
  exact K x z m2 (zi_inj (e1.trans e2.symm)) ⟨f, h, im, ft, l, CS_d (CS_q c F1) (zfd_q F2), RS_q r1 F2 z2, g⟩
theorem zz_95 (hz : zJ m) {a0 : Int32} {a1 : Int32} {a2 : Int32} {Q : Int32 → Int32 → zf_Me → Prop} (K : ∀ x z m2, x = z → zJ m2 → Q x z m2) : wp_95 a0 a1 a2 m (fun x m1 => wp_192 a0 a1 a2 m1 (fun z m2 => Q x z m2)) := by
  obtain ⟨f, h, im, ft, l, c, r, g⟩ := hz
  refine zA_95 c.1 (fun x m1 F1 e1 => ?_)
  rw [c.2.1, c.2.2.1] at e1
  have r1 := RS_c r (zfc_q F1)
  refine zG_192 r1.1.1 r1.1.2 (fun z m2 F2 z2 e2 => ?_)
  rw [r1.2.1, r1.2.2.1] at e2
  exact K x z m2 (zi_inj (e1.trans e2.symm)) ⟨f, h, im, ft, l, CS_d (CS_q c F1) (zfd_q F2), RS_q r1 F2 z2, g⟩
theorem zz_97 (hz : zJ m) {a0 : Int32} {Q : Int32 → Int32 → zf_Me → Prop} (K : ∀ x z m2, x = z → zJ m2 → Q x z m2) : wp_97 a0 m (fun x m1 => wp_194 a0 m1 (fun z m2 => Q x z m2)) := by
  obtain ⟨f, h, im, ft, l, c, r, g⟩ := hz
  refine zA_97 c.1 (fun x m1 F1 e1 => ?_)
  rw [c.2.1, c.2.2.1] at e1
  have r1 := RS_c r (zfc_q F1)
  refine zG_194 r1.1.1 r1.1.2 (fun z m2 F2 z2 e2 => ?_)
  rw [r1.2.1, r1.2.2.1] at e2
  exact K x z m2 (zi_inj (e1.trans e2.symm)) ⟨f, h, im, ft, l, CS_d (CS_q c F1) (zfd_q F2), RS_q r1 F2 z2, g⟩
theorem zz_98 (hz : zJ m) {Q : Int32 → Int32 → zf_Me → Prop} (K : ∀ x z m2, x = z → zJ m2 → Q x z m2) : wp_98 m (fun x m1 => wp_195 m1 (fun z m2 => Q x z m2)) := by
  obtain ⟨f, h, im, ft, l, c, r, g⟩ := hz
  refine zA_98 c.1 (fun x m1 F1 e1 => ?_)
  rw [c.2.1] at e1
  have r1 := RS_c r (zfc_q F1)
  refine zG_195 r1.1.1 (fun z m2 F2 z2 e2 => ?_)
  rw [r1.2.1] at e2
  exact K x z m2 (zi_inj (e1.trans e2.symm)) ⟨f, h, im, ft, l, CS_d (CS_q c F1) (zfd_q F2), RS_q r1 F2 z2, g⟩
theorem zz_99 (hz : zJ m) {a0 : Int32} {Q : Int32 → Int32 → zf_Me → Prop} (K : ∀ x z m2, x = z → zJ m2 → Q x z m2) : wp_99 a0 m (fun x m1 => wp_196 a0 m1 (fun z m2 => Q x z m2)) := by
  obtain ⟨f, h, im, ft, l, c, r, g⟩ := hz
  refine zA_99 c.1 (fun x m1 F1 e1 => ?_)
  rw [c.2.1] at e1
  have r1 := RS_c r (zfc_q F1)
  refine zG_196 r1.1.1 (fun z m2 F2 z2 e2 => ?_)
  rw [r1.2.1] at e2
  exact K x z m2 (zi_inj (e1.trans e2.symm)) ⟨f, h, im, ft, l, CS_d (CS_q c F1) (zfd_q F2), RS_q r1 F2 z2, g⟩
theorem zz_71 (hz : zJ m) {a0 : Int32} {a1 : Int32} {Q : Int64 → Int64 → zf_Me → Prop} (K : ∀ x z m2, x = z → zJ m2 → Q x z m2) : wp_71 a0 a1 m (fun x m1 => wp_133 a0 a1 m1 (fun z m2 => Q x z m2)) := by
  obtain ⟨f, h, im, ft, l, c, r, g⟩ := hz
  refine zX_71 c.1 (zY_133 r.1.1 r.1.2 (K _ _ m ?_ ⟨f, h, im, ft, l, c, r, g⟩))
  rw [c.2.2.1, r.2.2.1]
theorem zz_73 (hz : zJ m) {a0 : Int32} {Q : Int32 → Int32 → zf_Me → Prop} (K : ∀ x z m2, x = z → zJ m2 → Q x z m2) : wp_73 a0 m (fun x m1 => wp_135 a0 m1 (fun z m2 => Q x z m2)) := by
  obtain ⟨f, h, im, ft, l, c, r, g⟩ := hz
  refine zX_73 (fun x e1 => zY_135 r.1.1 r.1.2 (fun z e2 => K x z m ?_ ⟨f, h, im, ft, l, c, r, g⟩))
  rw [c.2.2.1] at e1
  rw [r.2.2.1] at e2
  exact zi_inj (e1.trans e2.symm)
theorem zz_83 (hz : zJ m) {Q : Int32 → Int32 → zf_Me → Prop} (K : ∀ x z m2, x = z → zJ m2 → Q x z m2) : wp_83 m (fun x m1 => wp_163 m1 (fun z m2 => Q x z m2)) := by
  obtain ⟨f, h, im, ft, l, c, r, g⟩ := hz
  exact K _ _ m (zi_inj (c.2.2.2.2.1.trans r.2.2.2.2.1.symm)) ⟨f, h, im, ft, l, c, r, g⟩
theorem zz_86 (hz : zJ m) {Q : Int32 → Int32 → zf_Me → Prop} (K : ∀ x z m2, x = z → zJ m2 → Q x z m2) : wp_86 m (fun x m1 => wp_173 m1 (fun z m2 => Q x z m2)) := by
  obtain ⟨f, h, im, ft, l, c, r, g⟩ := hz
  refine zs_86 c.1.1 (zs_173 r.1.1.1 (K _ _ m ?_ ⟨f, h, im, ft, l, c, r, g⟩))
  rw [c.2.1, r.2.1]
theorem zz_105 (hz : zJ m) {a0 : Int32} {Q : Int32 → Int32 → zf_Me → Prop} (K : ∀ x z m2, x = z → zJ m2 → Q x z m2) : wp_105 a0 m (fun x m1 => wp_207 a0 m1 (fun z m2 => Q x z m2)) := by
  obtain ⟨f, h, im, ft, l, c, r, g⟩ := hz
  exact zA_105 c.2.2.2.2.2 (fun x e1 => zG_207 r.2.2.2.2.2 (fun z e2 => K x z m (zi_inj (e1.trans e2.symm)) ⟨f, h, im, ft, l, c, r, g⟩))
theorem zz_87 (hz : zJ m) {a0 : Int32} {a1 : Int32} {Q : Int32 → Int32 → zf_Me → Prop} (K : ∀ x z m2, zJ m2 → Q x z m2) : wp_87 a0 a1 m (fun x m1 => wp_175 a0 a1 m1 (fun z m2 => Q x z m2)) := by
  obtain ⟨f, h, im, ft, l, c, r, g⟩ := hz
  refine zX_87 c.1 (fun x m1 F1 => ?_)
  have r1 := RS_c r (zfc_q F1)
  exact zG_175 r1.1.1 (fun z m2 F2 z2 => K x z m2 ⟨f, h, im, ft, l, CS_d (CS_q c F1) (zfd_q F2), RS_q r1 F2 z2, g⟩)
theorem zz_91 (hz : zJ m) {a0 : Int32} {a1 : Int32} {Q : Int32 → Int32 → zf_Me → Prop} (K : ∀ x z m2, zJ m2 → Q x z m2) : wp_91 a0 a1 m (fun x m1 => wp_186 a0 a1 m1 (fun z m2 => Q x z m2)) := by
  obtain ⟨f, h, im, ft, l, c, r, g⟩ := hz
  refine zX_91 c.1 (fun x m1 F1 => ?_)
  have r1 := RS_c r (zfc_q F1)
  exact zG_186 r1.1.1 (fun z m2 F2 z2 => K x z m2 ⟨f, h, im, ft, l, CS_d (CS_q c F1) (zfd_q F2), RS_q r1 F2 z2, g⟩)
theorem zz_108 (hz : zJ m) {a0 : Int32} {Q : Int32 → Int32 → zf_Me → Prop} (K : ∀ x z m2, zJ m2 → Q x z m2) : wp_108 a0 m (fun x m1 => wp_210 a0 m1 (fun z m2 => Q x z m2)) := by
  obtain ⟨f, h, im, ft, l, c, r, g⟩ := hz
  exact zA_108 c.1 (fun x => zG_210 r.1.1 (fun z => K x z m ⟨f, h, im, ft, l, c, r, g⟩))
theorem zz_104 (hz : zJ m) {a0 : Int32} {a1 : Int32} {a2 : Int32} {Q : Int32 → Int32 → zf_Me → Prop} (K : ∀ x z m2, x = z → zJ m2 → Q x z m2) : wp_104 a0 a1 a2 m (fun x m1 => wp_206 a0 a1 a2 m1 (fun z m2 => Q x z m2)) := by
  obtain ⟨f, h, im, ft, l, c, r, g⟩ := hz
  refine zA_104 c.1 (fun m1 F1 t1 => ?_)
  have r1 := RS_c r (zfc_of F1 (fun a ha => by omega))
  refine zG_206 r1.1.1 (fun m2 F2 t2 => ?_)
  have c1 : CS f h im ft (zN104 (zv 2 3 8 m) a0 a1 a2).2 m1 := by
    obtain ⟨j, ef, eh, ei, et, tr⟩ := c
    have z1 : zv 2 3 8 m1 = zv 2 3 8 m := zv_of F1 (by omega) (fun a _ _ => by omega) (by omega)
    refine ⟨JX_now j (zfr_mono F1 (fun a ha => by omega)) (by rw [z1]; exact j.1), z1.trans ef, ?_, ?_, ?_, t1⟩
    · rw [zhC_id (fun a a1 a2 => ⟨F1.1 a (by omega), by rw [F1.2]⟩)]
      exact eh
    · rw [zv_of F1 (w := 9) (y := 10) (r := 15) (by omega) (fun a _ _ => by omega) (by omega), F1.1 0 (by omega)]
      exact ei
    · rw [F1.1 0 (by omega)]
      exact et
  have z2 : zr m2 = zr m1 := zr_of F2 (fun a k z => by omega)
  have fd : zfd m1 m2 := zfd_of F2 (fun a k z => by omega)
  have e : zN104 (zr m1) a0 a1 a2 = zN104 (zv 2 3 8 m) a0 a1 a2 := by rw [r1.2.1, c.2.1]
  rw [e] at t2 ⊢
  refine K _ _ m2 rfl ⟨f, h, im, ft, _, CS_d c1 fd, ?_, g⟩
  obtain ⟨⟨j, o⟩, ef, eh, ei, et, tr⟩ := r1
  refine ⟨⟨JM_b j (zgr_mono F2 (fun a k z => by omega)) (by rw [z2]; exact j.1), zso_g o F2 (fun a k z => by omega)⟩, z2.trans ef, ?_, ?_, ?_, t2⟩
  · rw [← eh]
    funext x
    unfold zhR
    rw [F2.1 70 x (by omega), F2.1 71 x (by omega), F2.1 72 x (by omega), F2.1 73 x (by omega), F2.2]
  · rw [zA_of F2 (fun k => by omega), F2.1 63 52 (by omega)]
    exact ei
  · rw [F2.1 63 13 (by omega)]
    exact et
theorem zz_82 (hz : zJ m) {a0 : Int32} {Q : Int32 → Int32 → zf_Me → Prop} (K : ∀ x z m2, x = z → zJ m2 → Q x z m2) : wp_82 a0 m (fun x m1 => wp_162 a0 m1 (fun z m2 => Q x z m2)) := by
  obtain ⟨f, h, im, ft, l, c, r, g⟩ := hz
  by_cases k : zK h a0.toInt = 0
  · refine zX_82 c.1 (fun n => absurd (by rw [c.2.2.1]; exact k) n) (fun _ x m1 F1 n9 e1 z1 t1 => ?_)
    rw [c.2.1, c.2.2.1] at e1 z1 t1
    have fc : zfc m m1 := zfc_of F1 (fun a ha => by omega)
    have r1 := RS_c r fc
    refine zY_162 r1.1.1 r1.1.2 (fun n => absurd (by rw [r1.2.2.1]; exact k) n) (fun _ z m2 F2 e2 z2 t2 => ?_)
    rw [r1.2.1, r1.2.2.1] at e2 z2 t2
    have o := zGo_82 (h := h) (s := a0.toInt) (CS_B c) g.1
    refine K x z m2 (zi_inj (e1.trans e2.symm)) ⟨(zN82 h f a0.toInt).2.1, h, im, (zN82 h f a0.toInt).2.2, l, CS_d ?_ (zfd_of F2 (fun a k z => by omega)), ?_, zG_w g o⟩
    · obtain ⟨j, ef, eh, ei, et, tr⟩ := c
      refine ⟨⟨by rw [z1]; exact o.1, ?_, fun i hi => ?_⟩, z1, ?_, ?_, t1, zTC_of tr (F1.1 44 (by omega)) (F1.1 45 (by omega))⟩
      · rw [zv_of F1 (w := 9) (y := 10) (r := 15) (by omega) (fun a _ _ => by omega) (by omega)]
        exact j.2.1
      · rw [F1.1 _ (by omega)]
        exact j.2.2 i hi
      · rw [zhC_id (fun a a1 a2 => ⟨F1.1 a (by omega), by rw [F1.2]⟩)]
        exact eh
      · rw [zv_of F1 (w := 9) (y := 10) (r := 15) (by omega) (fun a _ _ => by omega) (by omega), n9]
        exact ei
    · obtain ⟨⟨j, o1⟩, ef, eh, ei, et, tr⟩ := r1
      refine ⟨⟨JM_b j (zgr_mono F2 (fun a k z => by omega)) (by rw [z2]; exact o.1), zso_g o1 F2 (fun a k z => by omega)⟩, z2, ?_, ?_, t2, zTR_of tr (F2.1 63 51 (by omega)) (fun i => F2.1 85 i (by omega))⟩
      · rw [← eh]
        funext x
        unfold zhR
        rw [F2.1 70 x (by omega), F2.1 71 x (by omega), F2.1 72 x (by omega), F2.1 73 x (by omega), F2.2]
      · rw [zA_of F2 (fun k => by omega), F2.1 63 52 (by omega)]
        exact ei
  · refine zX_82 c.1 (fun _ x m1 F1 e1 => ?_) (fun n => absurd (by rw [c.2.2.1] at n; exact n) k)
    rw [c.2.2.1] at e1
    have r1 := RS_c r (zfc_q F1)
    refine zY_162 r1.1.1 r1.1.2 (fun _ z m2 F2 z2 e2 => ?_) (fun n => absurd (by rw [r1.2.2.1] at n; exact n) k)
    rw [r1.2.2.1] at e2
    exact K x z m2 (zi_inj (e1.trans e2.symm)) ⟨f, h, im, ft, l, CS_d (CS_q c F1) (zfd_q F2), RS_q r1 F2 z2, g⟩
theorem zz_106 (hz : zJ m) {Q : Int32 → Int32 → zf_Me → Prop} (K : ∀ x z m2, x = z → zJ m2 → Q x z m2) : wp_106 m (fun x m1 => wp_208 m1 (fun z m2 => Q x z m2)) := by
  obtain ⟨f, h, im, ft, l, c, r, g⟩ := hz
  refine zX_106 (fun x m1 F1 e1 i1 n9 n10 => ?_)
  have fc : zfc m m1 := zfc_of F1 (fun a ha => by omega)
  have r1 := RS_c r fc
  refine zY_208 (fun z m2 F2 e2 z2 i2 n52 => ?_)
  rw [c.2.1] at e1 i1
  rw [r1.2.1] at e2 z2 i2
  refine K x z m2 (zi_inj (e1.trans e2.symm)) ⟨f, h, some f, ft, l, CS_d ?_ (zfd_of F2 (fun a k z => by omega)), ?_, g.1, g.2.1, fun y hy => ?_⟩
  · obtain ⟨j, ef, eh, ei, et, tr⟩ := c
    have z1 : zv 2 3 8 m1 = zv 2 3 8 m := zv_of F1 (by omega) (fun a _ _ => by omega) (by omega)
    refine ⟨⟨by rw [z1]; exact j.1, by rw [i1, ← ef]; exact j.1, fun i hi => ?_⟩, z1.trans ef, ?_, ⟨fun z => (nomatch z), fun y hy => ⟨by rw [n9]; decide, i1.trans (Option.some.inj hy)⟩⟩, by rw [n10]; exact et, zTC_of tr (F1.1 44 (by omega)) (F1.1 45 (by omega))⟩
    · rw [F1.1 _ (by omega)]
      exact j.2.2 i hi
    · rw [zhC_id (fun a a1 a2 => ⟨F1.1 a (by omega), by rw [F1.2]⟩)]
      exact eh
  · obtain ⟨⟨j, o1⟩, ef, eh, ei, et, tr⟩ := r1
    have B : zB f := by rw [← ef]; exact j.1
    refine ⟨⟨⟨by rw [z2]; exact B, fun i hi => ?_, Or.inr (by rw [i2]; exact B), zwd_of F2 (fun a k z => by omega) j.2.2.2⟩, zso_g o1 F2 (fun a k z => by omega)⟩, z2, ?_, ⟨fun z => (nomatch z), fun y hy => ⟨by rw [n52]; decide, i2.trans (Option.some.inj hy)⟩⟩, by rw [F2.1 63 13 (by omega)]; exact et, zTR_of tr (F2.1 63 51 (by omega)) (fun i => F2.1 85 i (by omega))⟩
    · rw [F2.1 70 i (by omega), F2.1 72 i (by omega), F2.1 73 i (by omega)]
      exact j.2.1 i hi
    · rw [← eh]
      funext x
      unfold zhR
      rw [F2.1 70 x (by omega), F2.1 71 x (by omega), F2.1 72 x (by omega), F2.1 73 x (by omega), F2.2]
  · rw [← Option.some.inj hy]
    exact ⟨g.1, CS_B c⟩
theorem zz_107 (hz : zJ m) {Q : Int32 → Int32 → zf_Me → Prop} (K : ∀ x z m2, x = z → zJ m2 → Q x z m2) : wp_107 m (fun x m1 => wp_209 m1 (fun z m2 => Q x z m2)) := by
  obtain ⟨f, h, im, ft, l, c, r, g⟩ := hz
  cases im with
  | none =>
    have n9 := c.2.2.2.1.1 rfl
    refine zX_107 c.1 (fun _ x m1 F1 e1 => ?_) (fun n => absurd n9 n)
    have r1 := RS_c r (zfc_q F1)
    have n52 := r1.2.2.2.1.1 rfl
    exact zY_209 r1.1.1 r1.1.2 (fun _ z m2 F2 z2 e2 => K x z m2 (zi_inj (e1.trans e2.symm)) ⟨f, h, none, ft, l, CS_d (CS_q c F1) (zfd_q F2), RS_q r1 F2 z2, g⟩) (fun n => absurd n52 n)
  | some y =>
    have n9 := c.2.2.2.1.2 y rfl
    refine zX_107 c.1 (fun n => absurd n n9.1) (fun _ x m1 F1 hs e1 z1 h1 => ?_)
    rw [n9.2] at e1 z1 h1
    rw [c.2.2.1] at h1
    have fc : zfc m m1 := fun a ha => ⟨F1.1 a (by omega), by rw [F1.2]⟩
    have r1 := RS_c r fc
    have n52 := r1.2.2.2.1.2 y rfl
    refine zY_209 r1.1.1 r1.1.2 (fun n => absurd n n52.1) (fun _ z m2 F2 hR hO e2 z2 h2 => ?_)
    rw [n52.2] at e2 z2 h2
    rw [r1.2.2.1] at h2
    have gy := g.2.2 y rfl
    refine K x z m2 (zi_inj (e1.trans e2.symm)) ⟨y, zclr h (y 5 6), some y, ft, l, CS_d ?_ (fun a ha => ⟨by funext k; exact F2.1 a k (by omega), by rw [F2.2]⟩), ?_, gy.1, zsh_clr, g.2.2⟩
    · obtain ⟨j, ef, eh, ei, et, tr⟩ := c
      have i1 : zv 9 10 15 m1 = zv 9 10 15 m := zv_fr (F1.1 _ (by omega)) (fun a _ _ => F1.1 _ (by omega)) (F1.1 _ (by omega))
      refine ⟨⟨by rw [z1]; exact gy.2, by rw [i1]; exact j.2.1, hs⟩, z1, h1, ?_, ?_, zTC_of tr (F1.1 44 (by omega)) (F1.1 45 (by omega))⟩
      · rw [i1, F1.1 0 (by omega)]
        exact ei
      · rw [F1.1 0 (by omega)]
        exact et
    · obtain ⟨⟨j, o1⟩, ef, eh, ei, et, tr⟩ := r1
      have i2 : zA 80 0 m2 = zA 80 0 m1 := zL_ext (fun i _ => by rw [F2.1 80 _ (by omega)])
      refine ⟨⟨⟨by rw [z2]; exact gy.2, hR, ?_, ⟨fun k hk => by rw [F2.1 76 k (by omega)]; exact j.2.2.2.1 k hk, fun k hk => by rw [F2.1 77 k (by omega)]; exact j.2.2.2.2 k hk⟩⟩, hO⟩, z2, h2, ?_, ?_, zTR_of tr (F2.1 63 51 (by omega)) (fun i => F2.1 85 i (by omega))⟩
      · unfold zkp
        rw [i2, F2.1 63 52 (by omega)]
        exact j.2.2.1
      · rw [i2, F2.1 63 52 (by omega)]
        exact ei
      · rw [F2.1 63 13 (by omega)]
        exact et
end
