/-! part 08: fields, statics, rows, constants -/
section
variable {p : Program} {l : Launch} {e : Env} {R : Room} {s : State} {m : MethodId} {args : Array Value} {below : List Frame} {meth : Method} {c : Code} {Q : State → Prop}
variable {fx : Nat → Nat → Nat} {vq : Value} {ct : Nat → ClassId} {ad : Nat → Nat} {A : Nat → Prop} {sc : zx_Sc} {D : va_G} {t : zx_MT} {d : Nat}
variable {pc nc ns : Nat} {L : List (Option zx_V)} {S : List zx_V} {h : List zx_C} {st : zx_S}
theorem zx_hin {ci : Nat} (h : ci < 9) : ∀ w ∈ u_ws (zx_R9 ci) (zx_T8 ci) (zx_fn ci), w ∈ zx_G := by
  have h1 := List.all_eq_true.mp zx_ckU ci (List.mem_range.mpr h)
  intro w hw
  have h2 := List.all_eq_true.mp h1 w hw
  simpa using h2
theorem zx_nest {w : Cond} (hN : ∀ w ∈ zx_nw, va_Nw w s) (hw : w ∈ zx_nw) : w.before args s = true := by
  have h1 := (List.mem_filter.mp hw).2
  have h2 := hN w hw
  cases w <;> first | exact va_Nw.use rfl h2 | (exact absurd h1 (by intro z; cases z))
theorem zx_s_gf (X : zx_Cx p R s m args meth c fx vq ct A sc D t d) {ix : Nat} (hdg : decode (zx_mb t) pc = .ok (.getfield ix, 3)) (h1 : zx_gf (zx_mo t) ix pc L S h nc ns = some (.inl st))
    (K : zx_Go p l e R s m args below meth c Q fx vq ct A D t ad st) : zx_Go p l e R s m args below meth c Q fx vq ct A D t ad (pc, L, S, h, nc, ns) := by
  obtain ⟨hx, hb, -, hown, hts, hK, -, hSt, -, -⟩ := X
  unfold zx_gf at h1
  split at h1
  · split at h1
    · rename_i a r _ _ ci k np ci' fs e1 e2
      split at h1
      · rename_i g
        subst g
        split at h1
        · rename_i v g2
          obtain rfl := zx_Ni h1
          have hF := zx_cka_use zx_ckF_all e1
          simp only [zx_ckF, Bool.and_eq_true, decide_eq_true_eq] at hF
          obtain ⟨hci, hk, hF⟩ := hF
          intro H locs ls hP hD hS hl
          have he := zx_w_get (fx := fx) (vq := vq) (ct := ct) (ad := ad) e2
          have hv : (fs.map (zx_c fx vq ad))[k]? = some (zx_c fx vq ad v) := by rw [List.getElem?_map, g2]; rfl
          split at hF
          · exact va_get hx hb hts (zx_hin hci) hown hK hP _ he (zx_clk hci) k hk (hts _ (zx_inG_mem hF)) (fun _ h9 => h9) hv hdg (K H locs ls hP hD hS hl)
          · exact va_getN hx hb hts (zx_hin hci) hown hK hP _ he (zx_clk hci) k hk (zx_nest hSt.1 (zx_inN_mem hF)) (fun _ h9 => h9) hv hdg (K H locs ls hP hD hS hl)
          · cases hF
        · cases h1
      · cases h1
    · cases h1
  · rename_i a r
    split at h1
    · rename_i ha
      have hE := hSt.2.2.2.2.1.1 a ha
      split at h1
      · rename_i e1
        obtain rfl := zx_Ni h1
        have hF := zx_cka_use zx_ckK_all e1
        intro H locs ls hP hD hS hl
        exact vk_getf hx hb hE.2.2.1 hS hown (hts _ (zx_inG_mem hF)) (fun _ h9 => h9) hdg (K H locs ls hP hD hS hl)
      · rename_i e1
        obtain rfl := zx_Ni h1
        have hF := zx_cka_use zx_ckK_all e1
        intro H locs ls hP hD hS hl
        exact vk_getf hx hb hE.2.1 hS hown (hts _ (zx_inG_mem hF)) (fun _ h9 => h9) hdg (K H locs ls hP hD hS hl)
      · cases h1
    · cases h1
  · cases h1
theorem zx_fits_ok {ty : FieldType} {v : zx_V} (h : zx_fit ty v = true) : narrow ty (zx_c fx vq ad v) = zx_c fx vq ad v ∧ fits ty (zx_c fx vq ad v) = true := by
  unfold zx_fit at h
  split at h
  · exact ⟨rfl, rfl⟩
  · rename_i x
    have h2 : x = 0 ∨ x = 1 := by simpa using h
    rcases h2 with rfl | rfl
    · exact ⟨by show narrow FieldType.boolean (Value.int 0) = Value.int 0; decide, by show fits FieldType.boolean (Value.int 0) = true; decide⟩
    · exact ⟨by show narrow FieldType.boolean (Value.int 1) = Value.int 1; decide, by show fits FieldType.boolean (Value.int 1) = true; decide⟩
  · exact ⟨rfl, rfl⟩
  · exact ⟨rfl, rfl⟩
  · cases h
theorem zx_map_set {α β : Type} (f : α → β) (l : List α) (k : Nat) (v : α) : (l.set k v).map f = (l.map f).set k (f v) := by
  rw [List.map_set]
theorem zx_o9 {ci : Nat} (h : ci < 9) (k : Nat) : (zx_T8 ci k).1 = zx_o ci := by
  rcases (show ci = 0 ∨ ci = 1 ∨ ci = 2 ∨ ci = 3 ∨ ci = 4 ∨ ci = 5 ∨ ci = 6 ∨ ci = 7 ∨ ci = 8 by omega) with rfl | rfl | rfl | rfl | rfl | rfl | rfl | rfl | rfl
  · show (TX0 k).1 = _; unfold TX0; split <;> rfl
  · show (TX1 k).1 = _; unfold TX1; split <;> rfl
  · show (TX2 k).1 = _; unfold TX2; split <;> rfl
  · show (TX3 k).1 = _; unfold TX3; split <;> rfl
  · show (TX4 k).1 = _; unfold TX4; split <;> rfl
  · show (TX5 k).1 = _; unfold TX5; split <;> rfl
  · show (TX6 k).1 = _; unfold TX6; split <;> rfl
  · show (TX7 k).1 = _; unfold TX7; split <;> rfl
  · show (TX8 k).1 = _; unfold TX8; split <;> rfl
theorem zx_s_pf (X : zx_Cx p R s m args meth c fx vq ct A sc D t d) {ix : Nat} (hdg : decode (zx_mb t) pc = .ok (.putfield ix, 3)) (h1 : zx_pf (zx_mo t) (zx_mk t) ix pc L S h nc ns = some (.inl st))
    (K : zx_Go p l e R s m args below meth c Q fx vq ct A D t ad st) : zx_Go p l e R s m args below meth c Q fx vq ct A D t ad (pc, L, S, h, nc, ns) := by
  obtain ⟨hx, hb, -, hown, hts, hK, -, hSt, -, hin⟩ := X
  unfold zx_pf at h1
  split at h1
  · split at h1
    · rename_i v a r _ _ ci k nest pp ci' fs e1 e2
      split at h1
      · rename_i g
        obtain ⟨g, hkl, hfit, hfin⟩ := g
        subst g
        obtain rfl := zx_Ni h1
        have hF := zx_cka_use zx_ckF_all e1
        simp only [zx_ckF, Bool.and_eq_true, decide_eq_true_eq] at hF
        obtain ⟨hci, hk, hF⟩ := hF
        obtain ⟨hty, hnm⟩ := zx_ok9 hci
        obtain ⟨f1, f2⟩ := zx_fits_ok (fx := fx) (vq := vq) (ad := ad) hfit
        intro H locs ls hP hD hS hl
        have he := zx_w_get (fx := fx) (vq := vq) (ct := ct) (ad := ad) e2
        have hlen : k < (fs.map (zx_c fx vq ad)).length := by rw [List.length_map]; exact hkl
        have ew : zx_w fx vq ct ad (h.set a (.inl (ci', fs.set k v))) = (zx_w fx vq ct ad h).set a (ad a, .inr (ci', (fs.map (zx_c fx vq ad)).set k (zx_c fx vq ad v))) := by
          rw [zx_w_set]
          show (zx_w fx vq ct ad h).set a (ad a, Sum.inr (ci', (fs.set k v).map (zx_c fx vq ad))) = _
          rw [zx_map_set]
        have K2 : ∀ (H1 : Heap) (locs1 : List Loc), va_P D zx_cl ((zx_w fx vq ct ad h).set a (ad a, .inr (ci', (fs.map (zx_c fx vq ad)).set k (zx_c fx vq ad v)))) H1 → va_D A ((zx_w fx vq ct ad h).set a (ad a, .inr (ci', (fs.map (zx_c fx vq ad)).set k (zx_c fx vq ad v)))) → va_S A s.heap H1 locs1 → W p l e R s m args below meth c H1 locs1 nc ns Q (F0 m (pc + 3) ls (r.map (zx_c fx vq ad))) := by
          intro H1 locs1 hP1 hD1 hS1
          rw [← ew] at hP1 hD1
          exact K H1 locs1 ls hP1 hD1 hS1 hl
        rcases hfin with hff | ⟨rfl, hkd, hco⟩
        · split at hF
          · exact va_put hx hb hts (zx_hin hci) (zx_ft ci') hty hnm hown hK hP hD hS _ he (zx_clk hci) k hk (hts _ (zx_inG_mem hF)) (fun _ h9 => h9) hff (hty k hk) f1 f2 hlen hdg K2
          · exact va_putN hx hb hts (zx_hin hci) (zx_ft ci') hty hnm hown hK hP hD hS _ he (zx_clk hci) k hk (zx_nest hSt.1 (zx_inN_mem hF)) (fun _ h9 => h9) hff (hty k hk) f1 f2 hlen hdg K2
          · cases hF
        · by_cases hff : (zx_T8 ci' k).2.2.2 = false
          · exact va_put hx hb hts (zx_hin hci) (zx_ft ci') hty hnm hown hK hP hD hS _ he (zx_clk hci) k hk (hts _ (zx_inG_mem hF)) (fun _ h9 => h9) hff (hty k hk) f1 f2 hlen hdg K2
          · exact va_putF hx hb hts (zx_hin hci) (zx_ft ci') hty hnm hown hK hP hD hS _ he (zx_clk hci) k hk (hts _ (zx_inG_mem hF)) (fun _ h9 => h9) (by simpa using hff) (hin hkd) (by rw [zx_o9 hci, hco]) (hty k hk) f1 f2 hlen hdg K2
      · cases h1
    · cases h1
  · cases h1
theorem zx_s_gs (X : zx_Cx p R s m args meth c fx vq ct A sc D t d) {ix : Nat} (hdg : decode (zx_mb t) pc = .ok (.getstatic ix, 3)) (h1 : zx_gs (zx_mo t) ix pc L S h nc ns = some (.inl st))
    (K : zx_Go p l e R s m args below meth c Q fx vq ct A D t ad st) : zx_Go p l e R s m args below meth c Q fx vq ct A D t ad (pc, L, S, h, nc, ns) := by
  obtain ⟨hx, hb, -, hown, hts, hK, -, hSt, -, hin⟩ := X
  unfold zx_gs at h1
  split at h1
  · rename_i g pp e1
    have hF := zx_cka_use zx_ckG_all e1
    have key : ∀ {v : Value} {H : Heap} {locs : List Loc} {ls : Array Slot}, va_Z (zx_sx g).1 (zx_sx g).2.1 (zx_sx g).2.2 v A s s.heap → va_S A s.heap H locs → W p l e R s m args below meth c H locs nc ns Q (F0 m (pc + 3) ls (v :: S.map (zx_c fx vq ad))) → W p l e R s m args below meth c H locs nc ns Q (F0 m pc ls (S.map (zx_c fx vq ad))) := by
      intro v H locs ls hZ hS k
      simp only at hF
      split at hF
      · exact va_gets hx hb hZ hS hown (hts _ (zx_inG_mem hF)) (fun _ h9 => h9) hdg k
      · exact va_getsN hx hb hZ hS hown (zx_nest hSt.1 (zx_inN_mem hF)) (fun _ h9 => h9) hdg k
      · cases hF
    split at h1
    · rename_i g5
      obtain rfl := zx_Ni h1
      intro H locs ls hP hD hS hl
      exact key (hSt.2.2.2.2.2.1 g g5).1 hS (K H locs ls hP hD hS hl)
    · split at h1
      · rename_i g5
        subst g5
        obtain rfl := zx_Ni h1
        intro H locs ls hP hD hS hl
        exact key hSt.2.2.2.2.2.2.1 hS (K H locs ls hP hD hS hl)
      · split at h1
        · rename_i g5
          subst g5
          obtain rfl := zx_Ni h1
          intro H locs ls hP hD hS hl
          exact key hSt.2.2.2.2.2.2.2.1 hS (K H locs ls hP hD hS hl)
        · cases h1
  · cases h1
theorem zx_s_al (X : zx_Cx p R s m args meth c fx vq ct A sc D t d) (hdg : decode (zx_mb t) pc = .ok (.arraylength, 1)) (h1 : zx_al sc pc L S h nc ns = some (.inl st))
    (K : zx_Go p l e R s m args below meth c Q fx vq ct A D t ad st) : zx_Go p l e R s m args below meth c Q fx vq ct A D t ad (pc, L, S, h, nc, ns) := by
  obtain ⟨hx, hb, -, hown, hts, hK, -, hSt, -, hin⟩ := X
  unfold zx_al at h1
  split at h1
  · split at h1
    · rename_i a r _ t0 z e2
      split at h1
      · rename_i g
        obtain rfl := zx_Ni h1
        intro H locs ls hP hD hS hl
        have he := zx_w_get (fx := fx) (vq := vq) (ct := ct) (ad := ad) e2
        rcases z with f | f | f
        · exact va_alen hx hb hK hP _ t0 he (zx_tyk g) rfl hdg (K H locs ls hP hD hS hl)
        · exact va_alen hx hb hK hP _ t0 he (zx_tyk g) rfl hdg (K H locs ls hP hD hS hl)
        · exact va_alen hx hb hK hP _ t0 he (zx_tyk g) rfl hdg (K H locs ls hP hD hS hl)
      · cases h1
    · cases h1
  · split at h1
    · rename_i a r g
      obtain rfl := zx_Ni h1
      intro H locs ls hP hD hS hl
      exact va_tlen hx hb (hSt.2.2.2.2.1.1 a g).2.2.2 hS rfl hdg (K H locs ls hP hD hS hl)
    · cases h1
  · split at h1
    · rename_i q
      have hsc := hSt.2.2.2.2.2.2.2.2.2 q rfl
      obtain rfl := zx_Ni h1
      intro H locs ls hP hD hS hl
      exact va_slen hx hb hsc.1 hsc.2.1 hsc.2.2 hS hdg (K H locs ls hP hD hS hl)
    · cases h1
  · cases h1
theorem zx_s_ial (X : zx_Cx p R s m args meth c fx vq ct A sc D t d) (hdg : decode (zx_mb t) pc = .ok (.iaload, 1)) (h1 : zx_ial sc pc L S h nc ns = some (.inl st))
    (K : zx_Go p l e R s m args below meth c Q fx vq ct A D t ad st) : zx_Go p l e R s m args below meth c Q fx vq ct A D t ad (pc, L, S, h, nc, ns) := by
  obtain ⟨hx, hb, -, hown, hts, hK, -, hSt, -, hin⟩ := X
  unfold zx_ial at h1
  split at h1
  · split at h1
    · rename_i i a r _ f e2
      split at h1
      · rename_i g
        obtain rfl := zx_Ni h1
        intro H locs ls hP hD hS hl
        exact va_iald hx hb hK hP _ 0 (zx_w_get (fx := fx) (vq := vq) (ct := ct) (ad := ad) e2) rfl (zx_vin g) hdg (K H locs ls hP hD hS hl)
      · cases h1
    · cases h1
  · split at h1
    · rename_i i a r g
      obtain rfl := zx_Ni h1
      intro H locs ls hP hD hS hl
      exact va_ti hx hb (hSt.2.2.2.2.2.1 a g.1).2 hS (zx_vin g.2) rfl hdg (K H locs ls hP hD hS hl)
    · cases h1
  · split at h1
    · rename_i q
      split at h1
      · rename_i g
        have hsc := hSt.2.2.2.2.2.2.2.2.2 q rfl
        obtain rfl := zx_Ni h1
        intro H locs ls hP hD hS hl
        exact va_sld hx hb hsc.1 hsc.2.1 hsc.2.2 hS (zx_vin g) hdg (K H locs ls hP hD hS hl)
      · cases h1
    · cases h1
  · cases h1
theorem zx_setf {α : Type} {f : List α} {i : Nat} {x d0 : α} (hi : i < f.length) (j : Nat) : (f.set i x).getD j d0 = if j = i then x else f.getD j d0 := by
  rw [List.getD_eq_getElem?_getD, List.getD_eq_getElem?_getD, List.getElem?_set]
  by_cases e : i = j
  · subst e
    rw [if_pos rfl, if_pos rfl, if_pos hi]
    rfl
  · rw [if_neg e, if_neg (fun q => e q.symm)]
theorem zx_w_ias {a i : Nat} {f : List Int32} {x : Int32} (hi : i < f.length) : zx_w fx vq ct ad (h.set a (.inr (0, .inl (f.set i x)))) = (zx_w fx vq ct ad h).set a (ad a, .inl (ct 0, f.length, .inl (upd (fun j : Nat => f.getD j 0) i x))) := by
  rw [zx_w_set]
  show (zx_w fx vq ct ad h).set a (ad a, .inl (ct 0, (f.set i x).length, .inl (fun j : Nat => (f.set i x).getD j 0))) = _
  have e : (fun j : Nat => (f.set i x).getD j 0) = upd (fun j : Nat => f.getD j 0) i x := by
    funext j
    exact zx_setf hi j
  rw [e, List.length_set]
theorem zx_w_las {a i : Nat} {f : List Int64} {x : Int64} (hi : i < f.length) : zx_w fx vq ct ad (h.set a (.inr (1, .inr (.inl (f.set i x))))) = (zx_w fx vq ct ad h).set a (ad a, .inl (ct 1, f.length, .inr (.inl (vp_updL (fun j : Nat => f.getD j 0) i x)))) := by
  rw [zx_w_set]
  show (zx_w fx vq ct ad h).set a (ad a, .inl (ct 1, (f.set i x).length, .inr (.inl (fun j : Nat => (f.set i x).getD j 0)))) = _
  have e : (fun j : Nat => (f.set i x).getD j 0) = vp_updL (fun j : Nat => f.getD j 0) i x := by
    funext j
    exact zx_setf hi j
  rw [e, List.length_set]
theorem zx_s_ias (X : zx_Cx p R s m args meth c fx vq ct A sc D t d) (hdg : decode (zx_mb t) pc = .ok (.iastore, 1)) (h1 : zx_ias pc L S h nc ns = some (.inl st))
    (K : zx_Go p l e R s m args below meth c Q fx vq ct A D t ad st) : zx_Go p l e R s m args below meth c Q fx vq ct A D t ad (pc, L, S, h, nc, ns) := by
  obtain ⟨hx, hb, -, hown, hts, hK, -, hSt, -, hin⟩ := X
  unfold zx_ias at h1
  split at h1
  · split at h1
    · rename_i x i a r _ f e2
      split at h1
      · rename_i g
        obtain rfl := zx_Ni h1
        intro H locs ls hP hD hS hl
        exact va_iast hx hb hK hP hD hS _ 0 (zx_w_get (fx := fx) (vq := vq) (ct := ct) (ad := ad) e2) rfl (zx_vin g) hdg (fun H1 locs1 hP1 hD1 hS1 => K H1 locs1 ls (by rw [zx_w_ias g.2]; exact hP1) (by rw [zx_w_ias g.2]; exact hD1) hS1 hl)
      · cases h1
    · cases h1
  · cases h1
theorem zx_s_lal (X : zx_Cx p R s m args meth c fx vq ct A sc D t d) (hdg : decode (zx_mb t) pc = .ok (.laload, 1)) (h1 : zx_lal pc L S h nc ns = some (.inl st))
    (K : zx_Go p l e R s m args below meth c Q fx vq ct A D t ad st) : zx_Go p l e R s m args below meth c Q fx vq ct A D t ad (pc, L, S, h, nc, ns) := by
  obtain ⟨hx, hb, -, hown, hts, hK, -, hSt, -, hin⟩ := X
  unfold zx_lal at h1
  split at h1
  · split at h1
    · rename_i i a r _ f e2
      split at h1
      · rename_i g
        obtain rfl := zx_Ni h1
        intro H locs ls hP hD hS hl
        exact va_lald hx hb hK hP _ 1 (zx_w_get (fx := fx) (vq := vq) (ct := ct) (ad := ad) e2) rfl (zx_vin g) hdg (K H locs ls hP hD hS hl)
      · cases h1
    · cases h1
  · cases h1
theorem zx_s_las (X : zx_Cx p R s m args meth c fx vq ct A sc D t d) (hdg : decode (zx_mb t) pc = .ok (.lastore, 1)) (h1 : zx_las pc L S h nc ns = some (.inl st))
    (K : zx_Go p l e R s m args below meth c Q fx vq ct A D t ad st) : zx_Go p l e R s m args below meth c Q fx vq ct A D t ad (pc, L, S, h, nc, ns) := by
  obtain ⟨hx, hb, -, hown, hts, hK, -, hSt, -, hin⟩ := X
  unfold zx_las at h1
  split at h1
  · split at h1
    · rename_i x i a r _ f e2
      split at h1
      · rename_i g
        obtain rfl := zx_Ni h1
        intro H locs ls hP hD hS hl
        exact va_last hx hb hK hP hD hS _ 1 (zx_w_get (fx := fx) (vq := vq) (ct := ct) (ad := ad) e2) rfl (zx_vin g) hdg (fun H1 locs1 hP1 hD1 hS1 => K H1 locs1 ls (by rw [zx_w_las g.2]; exact hP1) (by rw [zx_w_las g.2]; exact hD1) hS1 hl)
      · cases h1
    · cases h1
  · cases h1
theorem zx_s_bal (X : zx_Cx p R s m args meth c fx vq ct A sc D t d) (hdg : decode (zx_mb t) pc = .ok (.baload, 1)) (h1 : zx_bal pc L S h nc ns = some (.inl st))
    (K : zx_Go p l e R s m args below meth c Q fx vq ct A D t ad st) : zx_Go p l e R s m args below meth c Q fx vq ct A D t ad (pc, L, S, h, nc, ns) := by
  obtain ⟨hx, hb, -, hown, hts, hK, -, hSt, -, hin⟩ := X
  unfold zx_bal at h1
  split at h1
  · split at h1
    · rename_i i a r g
      obtain rfl := zx_Ni h1
      intro H locs ls hP hD hS hl
      exact va_tb hx hb (hSt.2.2.2.2.1.1 a g.1).2.2.2 hS (zx_vin g.2) rfl hdg (K H locs ls hP hD hS hl)
    · cases h1
  · cases h1
theorem zx_rf_c (o : Option Nat) : va_rf (o.map ad) = zx_c fx vq ad (zx_rf o) := by
  cases o <;> rfl
theorem zx_s_aal (X : zx_Cx p R s m args meth c fx vq ct A sc D t d) (hdg : decode (zx_mb t) pc = .ok (.aaload, 1)) (h1 : zx_aal pc L S h nc ns = some (.inl st))
    (K : zx_Go p l e R s m args below meth c Q fx vq ct A D t ad st) : zx_Go p l e R s m args below meth c Q fx vq ct A D t ad (pc, L, S, h, nc, ns) := by
  obtain ⟨hx, hb, -, hown, hts, hK, -, hSt, -, hin⟩ := X
  unfold zx_aal at h1
  split at h1
  · split at h1
    · rename_i i a r _ t0 f e2
      split at h1
      · rename_i g
        obtain ⟨g0, g⟩ := g
        obtain rfl := zx_Ni h1
        intro H locs ls hP hD hS hl
        have he := zx_w_get (fx := fx) (vq := vq) (ct := ct) (ad := ad) e2
        have k : W p l e R s m args below meth c H locs nc ns Q (F0 m (pc + 1) ls (zx_c fx vq ad (zx_rf ((f[i.toNatClampNeg]?).getD none)) :: r.map (zx_c fx vq ad))) := K H locs ls hP hD hS hl
        rw [← zx_rf_c] at k
        rcases g0 with rfl | rfl
        · exact va_aldq hx hb hK hP _ 2 he rfl (zx_vin g) hdg k
        · exact va_aldq hx hb hK hP _ 3 he rfl (zx_vin g) hdg k
      · cases h1
    · cases h1
  · cases h1
theorem zx_up_set {f : List (Option Nat)} {i v : Nat} (hi : i < f.length) : (fun j : Nat => (((f.set i (some v))[j]?).getD none).map ad) = va_up (fun j : Nat => ((f[j]?).getD none).map ad) i (some (ad v)) := by
  funext j
  unfold va_up
  rw [List.getElem?_set]
  by_cases e : i = j
  · subst e
    rw [if_pos rfl, if_pos rfl, if_pos hi]
    rfl
  · rw [if_neg e, if_neg (fun q => e q.symm)]
theorem zx_s_aas (X : zx_Cx p R s m args meth c fx vq ct A sc D t d) (hdg : decode (zx_mb t) pc = .ok (.aastore, 1)) (h1 : zx_aas pc L S h nc ns = some (.inl st))
    (K : zx_Go p l e R s m args below meth c Q fx vq ct A D t ad st) : zx_Go p l e R s m args below meth c Q fx vq ct A D t ad (pc, L, S, h, nc, ns) := by
  obtain ⟨hx, hb, -, hown, hts, hK, -, hSt, -, hin⟩ := X
  unfold zx_aas at h1
  split at h1
  · split at h1
    · rename_i v i a r _ _ t0 f ci vs e2 e3
      split at h1
      · rename_i g
        obtain ⟨g0, g1, g2⟩ := g
        obtain rfl := zx_Ni h1
        intro H locs ls hP hD hS hl
        have he := zx_w_get (fx := fx) (vq := vq) (ct := ct) (ad := ad) e2
        have hv := zx_w_get (fx := fx) (vq := vq) (ct := ct) (ad := ad) e3
        have ew : zx_w fx vq ct ad (h.set a (.inr (t0, .inr (.inr (f.set i.toNatClampNeg (some v)))))) = (zx_w fx vq ct ad h).set a (ad a, .inl (ct t0, f.length, .inr (.inr (.inr (.inr (va_up (fun j : Nat => ((f[j]?).getD none).map ad) i.toNatClampNeg (some (ad v)))))))) := by
          rw [zx_w_set]
          show (zx_w fx vq ct ad h).set a (ad a, .inl (ct t0, (f.set i.toNatClampNeg (some v)).length, .inr (.inr (.inr (.inr (fun j : Nat => (((f.set i.toNatClampNeg (some v))[j]?).getD none).map ad)))))) = _
          rw [zx_up_set g2, List.length_set]
        have K2 : ∀ (H1 : Heap) (locs1 : List Loc), va_P D zx_cl ((zx_w fx vq ct ad h).set a (ad a, .inl (ct t0, f.length, .inr (.inr (.inr (.inr (va_up (fun j : Nat => ((f[j]?).getD none).map ad) i.toNatClampNeg (some (ad v))))))))) H1 → va_D A ((zx_w fx vq ct ad h).set a (ad a, .inl (ct t0, f.length, .inr (.inr (.inr (.inr (va_up (fun j : Nat => ((f[j]?).getD none).map ad) i.toNatClampNeg (some (ad v))))))))) → va_S A s.heap H1 locs1 → W p l e R s m args below meth c H1 locs1 nc ns Q (F0 m (pc + 1) ls (r.map (zx_c fx vq ad))) := by
          intro H1 locs1 hP1 hD1 hS1
          rw [← ew] at hP1 hD1
          exact K H1 locs1 ls hP1 hD1 hS1 hl
        rcases g0 with ⟨rfl, rfl⟩ | ⟨rfl, rfl⟩
        · exact va_astq hx hb hK hP hD hS _ 2 _ 3 (r := (RX3, TX3, 3)) he rfl hv rfl (zx_vin ⟨g1, g2⟩) hdg K2
        · exact va_astq hx hb hK hP hD hS _ 3 _ 5 (r := (RX5, TX5, 13)) he rfl hv rfl (zx_vin ⟨g1, g2⟩) hdg K2
      · cases h1
    · cases h1
  · cases h1
theorem zx_s_lc (X : zx_Cx p R s m args meth c fx vq ct A sc D t d) {ix : Nat} (hdg : decode (zx_mb t) pc = .ok (.ldc ix, 2)) (h1 : zx_lc (zx_mo t) ix 2 pc L S h nc ns = some (.inl st))
    (hs4 : ∀ i, zx_lk zx_lS 4 ix = some i → ∃ q : String × Nat × Nat, zx_st[i]? = some q ∧ q.2.1 = ix)
    (K : zx_Go p l e R s m args below meth c Q fx vq ct A D t ad st) : zx_Go p l e R s m args below meth c Q fx vq ct A D t ad (pc, L, S, h, nc, ns) := by
  obtain ⟨hx, hb, -, hown, hts, hK, -, hSt, -, hin⟩ := X
  unfold zx_lc at h1
  split at h1
  · rename_i v pp e1
    have hF := zx_cka_use zx_ckI_all e1
    obtain rfl := zx_Ni h1
    intro H locs ls hP hD hS hl
    exact lv_ldc hx hb hown (hts _ (zx_inG_mem hF)) hdg (K H locs ls hP hD hS hl)
  · split at h1
    · split at h1
      · rename_i i e1
        split at h1
        · rename_i g
          obtain ⟨g0, g1⟩ := g
          rw [g0] at e1 hown
          obtain ⟨q, hq1, hq2⟩ := hs4 i e1
          have hR := hSt.2.2.2.1 i q hq1
          rw [hq2] at hR
          obtain rfl := zx_Ni h1
          intro H locs ls hP hD hS hl
          exact va_ldcS hx hb hown hR hdg (K H locs ls hP hD hS hl)
        · cases h1
      · cases h1
    · cases h1
theorem zx_s_lcw (X : zx_Cx p R s m args meth c fx vq ct A sc D t d) {ix : Nat} (hdg : decode (zx_mb t) pc = .ok (.ldc_w ix, 3)) (h1 : zx_lc (zx_mo t) ix 3 pc L S h nc ns = some (.inl st))
    (K : zx_Go p l e R s m args below meth c Q fx vq ct A D t ad st) : zx_Go p l e R s m args below meth c Q fx vq ct A D t ad (pc, L, S, h, nc, ns) := by
  obtain ⟨hx, hb, -, hown, hts, hK, -, hSt, -, hin⟩ := X
  unfold zx_lc at h1
  split at h1
  · rename_i v pp e1
    have hF := zx_cka_use zx_ckI_all e1
    obtain rfl := zx_Ni h1
    intro H locs ls hP hD hS hl
    exact lv_ldcw hx hb hown (hts _ (zx_inG_mem hF)) hdg (K H locs ls hP hD hS hl)
  · split at h1
    · rename_i g
      exact absurd g (by decide)
    · cases h1
theorem zx_s_lc2 (X : zx_Cx p R s m args meth c fx vq ct A sc D t d) {ix : Nat} (hdg : decode (zx_mb t) pc = .ok (.ldc2_w ix, 3)) (h1 : zx_lc2 (zx_mo t) ix pc L S h nc ns = some (.inl st))
    (K : zx_Go p l e R s m args below meth c Q fx vq ct A D t ad st) : zx_Go p l e R s m args below meth c Q fx vq ct A D t ad (pc, L, S, h, nc, ns) := by
  obtain ⟨hx, hb, -, hown, hts, hK, -, hSt, -, hin⟩ := X
  unfold zx_lc2 at h1
  split at h1
  · rename_i v pp e1
    have hF := zx_cka_use zx_ckJ_all e1
    obtain rfl := zx_Ni h1
    intro H locs ls hP hD hS hl
    exact lv_ldc2 hx hb hown (hts _ (zx_inG_mem hF)) hdg (K H locs ls hP hD hS hl)
  · cases h1
end
