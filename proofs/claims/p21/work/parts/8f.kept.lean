/-! part 8f: what holds of both between calls: laid by wip/flat/w8f.py -/
def zIm (flag : Int) (g : zS) (im : Option zS) : Prop := (im = none → flag = 0) ∧ ∀ f, im = some f → ¬ flag = 0 ∧ g = f
def CS (f : zS) (h : zH) (im : Option zS) (ft : Int) (l : List Nat) (m : zf_Me) : Prop := JX m ∧ zv 2 3 8 m = f ∧ zhC m = h ∧ zIm (m.1 0 9).toInt (zv 9 10 15 m) im ∧ (m.1 0 10).toInt = ft ∧ zTC m l
def RS (f : zS) (h : zH) (im : Option zS) (ft : Int) (l : List Nat) (m : zf_Me) : Prop := (JM m ∧ zso m) ∧ zr m = f ∧ zhR m = h ∧ zIm (m.1 63 52).toInt (zA 80 0 m) im ∧ (m.1 63 13).toInt = ft ∧ zTR m l
def zG (f : zS) (h : zH) (im : Option zS) : Prop := zTz f ∧ zsh h (f 5 6) ∧ ∀ g, im = some g → zTz g ∧ zB g
def zJ (m : zf_Me) : Prop := ∃ f h im ft l, CS f h im ft l m ∧ RS f h im ft l m ∧ zG f h im
theorem JM_c {m m' : zf_Me} (hJ : JM m) (h : zfc m m') : JM m' := by
  have e : ∀ a, 63 ≤ a → m'.1 a = m.1 a := fun a ha => (h a ha).1
  refine ⟨?_, ?_, ?_, ?_⟩
  · rw [show zr m' = zr m from zr_fr (fun k _ => by rw [e 63 (by decide)]) (fun a _ _ => e a (by omega))]
    exact hJ.1
  · unfold zsR
    rw [e 70 (by decide), e 72 (by decide), e 73 (by decide)]
    exact hJ.2.1
  · unfold zkp
    rw [e 63 (by decide), show zA 80 0 m' = zA 80 0 m from zL_ext (fun i _ => by rw [e 80 (by decide)])]
    exact hJ.2.2.1
  · unfold zwd
    rw [e 76 (by decide), e 77 (by decide)]
    exact hJ.2.2.2
theorem JX_d {m m' : zf_Me} (hJ : JX m) (h : zfd m m') : JX m' := by
  have e : ∀ a, a < 63 → m'.1 a = m.1 a := fun a ha => (h a ha).1
  refine ⟨?_, ?_, fun j hj => ?_⟩
  · rw [show zv 2 3 8 m' = zv 2 3 8 m from zv_fr (e _ (by omega)) (fun a _ _ => e a (by omega)) (e _ (by omega))]
    exact hJ.1
  · rw [show zv 9 10 15 m' = zv 9 10 15 m from zv_fr (e _ (by omega)) (fun a _ _ => e a (by omega)) (e _ (by omega))]
    exact hJ.2.1
  · rw [e _ (by omega)]
    exact hJ.2.2 j hj
theorem zG_w {f g : zS} {h : zH} {im : Option zS} (k : zG f h im) (o : zGo f g) : zG g h im := ⟨o.2.1, zsh_le k.2.1 o.2.2, k.2.2⟩
theorem zG_s {f : zS} {h h' : zH} {im : Option zS} (k : zG f h im) (o : zsh h' (f 5 6)) : zG f h' im := ⟨k.1, o, k.2.2⟩
section
variable {m m' : zf_Me} {f g : zS} {h h' : zH} {im : Option zS} {ft : Int} {l : List Nat}
theorem CS_B (c : CS f h im ft l m) : zB f := by
  rw [← c.2.1]
  exact c.1.1
theorem zTC_of (t : zTC m l) (e1 : m'.1 44 = m.1 44) (e2 : m'.1 45 = m.1 45) : zTC m' l := by
  unfold zTC
  rw [e1, e2]
  exact t
theorem CS_d (c : CS f h im ft l m) (F : zfd m m') : CS f h im ft l m' := by
  have e : ∀ a, a < 63 → m'.1 a = m.1 a := fun a ha => (F a ha).1
  obtain ⟨j, ef, eh, ei, et, tr⟩ := c
  refine ⟨JX_d j F, ?_, ?_, ?_, ?_, zTC_of tr (e 44 (by decide)) (e 45 (by decide))⟩
  · rw [show zv 2 3 8 m' = zv 2 3 8 m from zv_fr (e _ (by omega)) (fun a _ _ => e a (by omega)) (e _ (by omega))]
    exact ef
  · rw [zhC_id (fun a a1 a2 => F a (by omega))]
    exact eh
  · rw [show zv 9 10 15 m' = zv 9 10 15 m from zv_fr (e _ (by omega)) (fun a _ _ => e a (by omega)) (e _ (by omega)), e 0 (by decide)]
    exact ei
  · rw [e 0 (by decide)]
    exact et
theorem CS_q (c : CS f h im ft l m) (F : zq m m') : CS f h im ft l m' := by
  obtain ⟨j, ef, eh, ei, et, tr⟩ := c
  refine ⟨JX_q j F, by rw [zq_now F]; exact ef, by rw [zhC_q F]; exact eh, ?_, ?_, zTC_of tr (F.1 44 (by omega)) (F.1 45 (by omega))⟩
  · rw [zv_of F (w := 9) (y := 10) (r := 15) (by omega) (fun a _ _ => by omega) (by omega), F.1 0 (by omega)]
    exact ei
  · rw [F.1 0 (by omega)]
    exact et
theorem CS_w (c : CS f h im ft l m) (F : zw m m') (z : zv 2 3 8 m' = g) (b : zB g) : CS g h im ft l m' := by
  obtain ⟨j, ef, eh, ei, et, tr⟩ := c
  refine ⟨JX_now j (zfr_mono F (fun a ha => by omega)) (by rw [z]; exact b), z, by rw [zhC_w F]; exact eh, ?_, ?_, zTC_of tr (F.1 44 (by omega)) (F.1 45 (by omega))⟩
  · rw [zv_of F (w := 9) (y := 10) (r := 15) (by omega) (fun a _ _ => by omega) (by omega), F.1 0 (by omega)]
    exact ei
  · rw [F.1 0 (by omega)]
    exact et
theorem CS_S (c : CS f h im ft l m) (F : zq m m' ∨ zfS m m' ∧ zsz m') (z : zhC m' = h') : CS f h' im ft l m' := by
  rcases F with F | F
  · obtain ⟨j, ef, eh, k⟩ := CS_q c F
    exact ⟨j, ef, z, k⟩
  · obtain ⟨j, ef, eh, ei, et, tr⟩ := c
    obtain ⟨F, hs⟩ := F
    refine ⟨JX_S j F hs, ?_, z, ?_, ?_, zTC_of tr (F.1 44 (by omega)) (F.1 45 (by omega))⟩
    · rw [show zv 2 3 8 m' = zv 2 3 8 m from zv_fr (F.1 _ (by omega)) (fun a _ _ => F.1 _ (by omega)) (F.1 _ (by omega))]
      exact ef
    · rw [show zv 9 10 15 m' = zv 9 10 15 m from zv_fr (F.1 _ (by omega)) (fun a _ _ => F.1 _ (by omega)) (F.1 _ (by omega)), F.1 0 (by omega)]
      exact ei
    · rw [F.1 0 (by omega)]
      exact et
theorem zfc_S (F : zq m m' ∨ zfS m m' ∧ zsz m') : zfc m m' := F.elim zfc_q (fun F => zfS_c F.1)
theorem zfc_w (F : zw m m') : zfc m m' := zfc_of F (fun a ha => by omega)
theorem RS_B (c : RS f h im ft l m) : zB f := by
  rw [← c.2.1]
  exact c.1.1.1
theorem zTR_of (t : zTR m l) (e1 : m'.1 63 51 = m.1 63 51) (e2 : ∀ i, m'.1 85 i = m.1 85 i) : zTR m' l := ⟨by rw [e1]; exact t.1, fun i i1 i2 => by rw [e2]; exact t.2 i i1 i2⟩
theorem RS_c (c : RS f h im ft l m) (F : zfc m m') : RS f h im ft l m' := by
  have e : ∀ a, 63 ≤ a → m'.1 a = m.1 a := fun a ha => (F a ha).1
  obtain ⟨⟨j, o⟩, ef, eh, ei, et, tr⟩ := c
  refine ⟨⟨JM_c j F, ?_⟩, ?_, ?_, ?_, ?_, zTR_of tr (by rw [e 63 (by decide)]) (fun i => by rw [e 85 (by decide)])⟩
  · unfold zso
    rw [e 70 (by decide), e 71 (by decide)]
    exact o
  · rw [show zr m' = zr m from zr_fr (fun k _ => by rw [e 63 (by decide)]) (fun a _ _ => e a (by omega))]
    exact ef
  · rw [← eh]
    funext x
    unfold zhR
    rw [e 70 (by decide), e 71 (by decide), e 72 (by decide), e 73 (by decide), (F 74 (by decide)).2]
  · rw [show zA 80 0 m' = zA 80 0 m from zL_ext (fun i _ => by rw [e 80 (by decide)]), e 63 (by decide)]
    exact ei
  · rw [e 63 (by decide)]
    exact et
theorem zso_g {P : Nat → Nat → Prop} (o : zso m) (F : zgr' P m m') (hp : ∀ a k, P a k → ¬ a = 70 ∧ ¬ a = 71) : zso m' := fun j hj => by
  rw [F.1 70 j (fun z => (hp _ _ z).1 rfl), F.1 71 j (fun z => (hp _ _ z).2 rfl)]
  exact o j hj
theorem RS_w (c : RS f h im ft l m) (F : zgQ m m') (z : zr m' = g) (b : zB g) : RS g h im ft l m' := by
  obtain ⟨⟨j, o⟩, ef, eh, ei, et, tr⟩ := c
  refine ⟨⟨JM_q j F (by rw [z]; exact b), zso_g o F (fun a k z => by omega)⟩, z, by rw [zhR_q F]; exact eh, ?_, ?_, zTR_of tr (F.1 63 51 (by omega)) (fun i => F.1 85 i (by omega))⟩
  · rw [zA_of F (fun k => by omega), F.1 63 52 (by omega)]
    exact ei
  · rw [F.1 63 13 (by omega)]
    exact et
theorem RS_q (c : RS f h im ft l m) (F : zgQ m m') (z : zr m' = zr m) : RS f h im ft l m' := RS_w c F (z.trans c.2.1) (RS_B c)
theorem RS_S (c : RS f h im ft l m) (F : zgQ m m' ∧ zr m' = zr m ∨ zgH m m' ∧ zsR m' ∧ zso m') (z : zhR m' = h') : RS f h' im ft l m' := by
  rcases F with F | F
  · obtain ⟨j, ef, eh, k⟩ := RS_q c F.1 F.2
    exact ⟨j, ef, z, k⟩
  · obtain ⟨⟨j, o⟩, ef, eh, ei, et, tr⟩ := c
    obtain ⟨F, hs, ho⟩ := F
    have e : ∀ a, ¬ (70 ≤ a ∧ a ≤ 73) → m'.1 a = m.1 a := F.1
    refine ⟨⟨JM_s j F.1 hs, ho⟩, ?_, z, ?_, ?_, zTR_of tr (by rw [e 63 (by decide)]) (fun i => by rw [e 85 (by decide)])⟩
    · rw [show zr m' = zr m from zr_fr (fun k _ => by rw [e 63 (by decide)]) (fun a _ _ => e a (by omega))]
      exact ef
    · rw [show zA 80 0 m' = zA 80 0 m from zL_ext (fun i _ => by rw [e 80 (by decide)]), e 63 (by decide)]
      exact ei
    · rw [e 63 (by decide)]
      exact et
theorem zfd_S (F : zgQ m m' ∧ zr m' = zr m ∨ zgH m m' ∧ zsR m' ∧ zso m') : zfd m m' := F.elim (fun F => zfd_q F.1) (fun F a ha => ⟨F.1.1 a (by omega), F.1.2 a ha⟩)
theorem zG_175 (hJ : JM m) {n w : Int32} {Q : Int32 → zf_Me → Prop} (K : ∀ (v : Int32) (m' : zf_Me), zgQ m m' → zr m' = zr m → Q v m') : wp_175 n w m Q := by
  have R : ∀ {w : Int32}, (-8 < w.toInt ∧ w.toInt ≤ 0) → wp_125 w m Q := fun hw => zs_125 hw (fun m' f => K _ m' (zg64_q f) (zg64_r f))
  refine ⟨fun _ => R (by decide), fun gw => ⟨fun gw6 => ⟨fun _ => R (by decide), fun g1 => ⟨fun g4 m5 q5 => ?_, fun _ => R (by decide)⟩⟩, fun _ => R (by decide)⟩⟩
  have z5 : zr m5 = zr m := by rw [q5, zrk_44 (by decide)]
  have b5 : zB (zr m5) := by rw [z5]; exact hJ.1
  have f5 : zgS 0 m m5 := by
    rw [q5]
    exact zgS_u zgr_refl (by omega)
  refine zs_170 b5 (fun x7 _ => ⟨6, Nat.le_refl _, zs_174 6 ⟨by decide, by show (0 : Int) ≤ _; omega⟩ g4 (by show n.toInt - 0 < _; omega) b5 (fun m10 f10 z10 => ?_)⟩)
  have F : zgQ m m10 := zgr_mono (zgS_t f5 f10) (fun a k z => by omega)
  have Z : zr m10 = zr m := z10.trans z5
  have K0 : ∀ v, Q v m10 := fun v => K v m10 F Z
  exact ⟨fun _ => ⟨fun _ => ⟨fun _ => ⟨fun _ => K0 _, fun _ => K0 _⟩, fun _ => K0 _⟩, fun _ => ⟨fun _ => zs_125 (by decide) (fun m' f => K _ m' (zgr_trans F (zg64_q f)) ((zg64_r f).trans Z)), fun _ => ⟨by omega, K0 _⟩⟩⟩, fun _ => K0 _⟩
end
