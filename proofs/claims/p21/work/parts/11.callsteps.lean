/-! part 11: the steps that call -/
section
variable {p : Program} {l : Launch} {e : Env} {R : Room} {s : State} {m : MethodId} {args : Array Value} {below : List Frame} {meth : Method} {c : Code} {Q : State → Prop}
variable {fx : Nat → Nat → Nat} {vq : Value} {ct : Nat → ClassId} {ad : Nat → Nat} {A : Nat → Prop} {sc : zx_Sc} {D : va_G} {t : zx_MT} {d : Nat}
variable {pc nc ns : Nat} {L : List (Option zx_V)} {S : List zx_V} {h : List zx_C} {st : zx_S}
set_option maxRecDepth 100000 in
theorem zx_nwl : zx_nw.all (fun w => match w with | .methodLinkNest _ _ y _ => decide (y.cls ≠ "java/lang/Math") | _ => true) = true := by decide +kernel
theorem zx_noN1 (o : String) (i : Nat) : ¬ Cond.methodLinkNest o i Lib.Math.max.name zx_host ∈ lw_tbl := by
  intro h
  have h2 := List.all_eq_true.mp zx_nwl _ (List.mem_filter.mpr ⟨h, rfl⟩)
  exact absurd (by decide : (Lib.Math.max.name).cls = "java/lang/Math") (by simpa using h2)
theorem zx_noN2 (o : String) (i : Nat) : ¬ Cond.methodLinkNest o i Lib.Math.min.name zx_host ∈ lw_tbl := by
  intro h
  have h2 := List.all_eq_true.mp zx_nwl _ (List.mem_filter.mpr ⟨h, rfl⟩)
  exact absurd (by decide : (Lib.Math.min.name).cls = "java/lang/Math") (by simpa using h2)
set_option maxRecDepth 100000 in
theorem zx_cmax : Cond.code Lib.Math.max.name Lib.Math.max.code 2 (some .int) ∈ zx_G := zx_cdm zx_dm0 (p := 717) rfl
set_option maxRecDepth 100000 in
theorem zx_cmin : Cond.code Lib.Math.min.name Lib.Math.min.code 2 (some .int) ∈ zx_G := zx_cdm zx_dm0 (p := 531) rfl
variable {run : Nat → List zx_V → List zx_C → Option zx_R}
/-- the callees are known -/
def zx_Hm (l : Launch) (fx : Nat → Nat → Nat) (vq : Value) (ct : Nat → ClassId) (A : Nat → Prop) (sc : zx_Sc) (D : va_G) (d : Nat) (run : Nat → List zx_V → List zx_C → Option zx_R) : Prop := ∀ (k : Nat) (as : List zx_V) (h : List zx_C) (r : zx_R) (ad : Nat → Nat), k < 221 → zx_mk (zx_m k) < 3 → run k as h = some r → ∃ d', d = d' + 1 ∧ zx_Met l fx vq ct A none D d' k as h r ad
theorem zx_stk_split {n a : Nat} {tg : Nat} {r : List zx_V} {va : Value} (hd : S.drop n = .inr (.inr (tg, a)) :: r) (hva : zx_c fx vq ad (.inr (.inr (tg, a))) = va) : S.map (zx_c fx vq ad) = ((S.take n).reverse.map (zx_c fx vq ad)).reverse ++ va :: r.map (zx_c fx vq ad) := by
  rw [List.map_reverse, List.reverse_reverse, ← hva]
  have e1 : S = S.take n ++ S.drop n := (List.take_append_drop n S).symm
  have e2 : S.map (zx_c fx vq ad) = (S.take n ++ S.drop n).map (zx_c fx vq ad) := by rw [← e1]
  rw [e2, List.map_append, hd]
  rfl
theorem zx_room {d' k : Nat} {q : zx_R} (hk : k < 221) (hR : d' + 1 + 1 ≤ R.frames ∧ 40 * (d' + 1) + 40 ≤ R.locals) : (zx_rm d' q).frames + 1 ≤ R.frames ∧ 8 + (zx_mn (zx_m k) + 11) + (zx_rm d' q).locals ≤ R.locals := by
  have h1 := (zx_mfacts hk).2.2.1
  refine ⟨hR.1, ?_⟩
  show 8 + (zx_mn (zx_m k) + 11) + (40 * d' + 40) ≤ R.locals
  have h2 := hR.2
  omega
theorem zx_take_len {n : Nat} (hn : n ≤ S.length) : ((S.take n).reverse.map (zx_c fx vq ad)).length = n := by
  rw [List.length_map, List.length_reverse, List.length_take]
  omega
theorem zx_hW {r : List zx_V} {ls : Array Slot} {rest : List Value} (hq : vq = .null ∨ ∃ t, vq = .ref t) (hr : zx_cs r ≤ 8) : 2 * (F0 m pc ls rest).monitorRoom + ((r.map (zx_c fx vq ad)).map fun v => v.category).sum ≤ 8 := lv_room (by rw [zx_sum hq]; exact hr)
theorem zx_s_iv (X : zx_Cx p R s m args meth c fx vq ct A sc D t d) (hM : zx_Hm l fx vq ct A sc D d run) {ix : Nat} (hdg : decode (zx_mb t) pc = .ok (.invokevirtual ix, 3)) (h1 : zx_iv run (zx_mo t) ix pc L S h nc ns = some (.inl st)) (hR : st.2.2.2.2.1 ≤ R.cells ∧ st.2.2.2.2.2 ≤ R.slots)
    (K : ∀ ad', zx_ext ad h ad' st.2.2.2.1 → zx_Go p l e R s m args below meth c Q fx vq ct A D t ad' st) : zx_Go p l e R s m args below meth c Q fx vq ct A D t ad (pc, L, S, h, nc, ns) := by
  have X0 := X
  obtain ⟨hx, hb, hml, hown, hts, hK, hA, hSt, hRm, hin⟩ := X
  have hq := hSt.2.2.2.2.2.2.2.2.1
  unfold zx_iv at h1
  split at h1
  · rename_i k np e1
    have hL := zx_cka_use zx_ckL_all e1
    split at h1
    · rename_i g
      obtain ⟨hk0, hk⟩ := g
      obtain ⟨f1, f2, f3, f4, f5, f6, f7, -, -, -, -⟩ := zx_mfacts hk
      obtain ⟨w1, w2, w3⟩ := f7 hk0
      have key : ∀ {tg a : Nat} {b : Nat} {r : List zx_V} {q : zx_R} {H : Heap} {locs : List Loc} {ls : Array Slot}, S.drop (zx_mp (zx_m k)) = .inr (.inr (tg, a)) :: r → zx_c fx vq ad (.inr (.inr (tg, a))) = .ref b → zx_cs r ≤ 8 → zx_mp (zx_m k) ≤ S.length →
          run k (.inr (.inr (tg, a)) :: (S.take (zx_mp (zx_m k))).reverse) h = some q → nc + q.2.2.1 ≤ R.cells ∧ ns + q.2.2.2 ≤ R.slots →
          va_P D zx_cl (zx_w fx vq ct ad h) H → va_D A (zx_w fx vq ct ad h) → va_S A s.heap H locs → ls.size = zx_mn t → (∃ cellB : Cell, H[b]? = some cellB ∧ cellB.vm.isStatics = false ∧ s.vm.findClass (zx_my (zx_m k)).cls = some cellB.cls) →
          ∃ aa, va_Run p l e R s m args below meth c H locs nc ns q.2.2.1 q.2.2.2 (F0 m pc ls (S.map (zx_c fx vq ad))) (r.map (zx_c fx vq ad)) (zx_Qc fx vq ct A D ad h q aa) A := by
        intro tg a b r q H locs ls hdr hva hcs hlen hrun hf hP hD hS hsz hcell
        obtain ⟨d', rfl, hMet⟩ := hM k _ h q ad hk (by omega) hrun
        have hpre : PreV s H (zx_my (zx_m k)).cls b (va_Pc ((.inr (.inr (tg, a)) :: (S.take (zx_mp (zx_m k))).reverse : List zx_V).map (zx_c fx vq ad)) (zx_Wd fx vq ct A none D ad h)) ((S.take (zx_mp (zx_m k))).reverse.map (zx_c fx vq ad)) := by
          refine ⟨zx_blind, hcell, fun U hU hW => ?_⟩
          have h9 := zx_in X0 hP hD hS (.inr (.inr (tg, a)) :: (S.take (zx_mp (zx_m k))).reverse) U hU hW
          have e9 : (Value.ref b :: (S.take (zx_mp (zx_m k))).reverse.map (zx_c fx vq ad)) = (.inr (.inr (tg, a)) :: (S.take (zx_mp (zx_m k))).reverse : List zx_V).map (zx_c fx vq ad) := by rw [List.map_cons, hva]
          rw [e9]
          exact h9
        unfold zx_ckL at hL
        split at hL
        · exact ⟨_, va_runV ⟨hx, hb, hml, hown, hts⟩ hMet (cwV (zx_mp (zx_m k)) hts (zx_gi (fun w hw => by
            rcases List.mem_append.mp hw with hw | hw
            · simp only [List.mem_cons, List.not_mem_nil, or_false] at hw
              rcases hw with rfl | rfl | rfl | rfl
              · exact zx_inG_mem hL
              · exact w1
              · exact w2
              · exact f1
            · exact zx_ws_in hk w hw)) rfl rfl rfl ⟨rfl, f4, f5, f6⟩ (zx_room hk hRm)) hpre rfl (zx_take_len hlen) hsz (zx_stk_split hdr hva) (zx_hW hq hcs) hdg hf⟩
        · exact ⟨_, va_runVN ⟨hx, hb, hml, hown, hts⟩ hMet ⟨va_cnB (zx_mp (zx_m k)) hts (zx_gi (zx_ws_in hk)) rfl rfl rfl (hSt.1 _ (zx_inN_mem hL)) (hts _ f1) ⟨f4, f5, f6⟩ (zx_room hk hRm), hts _ w1, hts _ w2⟩ hpre rfl (zx_take_len hlen) hsz (zx_stk_split hdr hva) (zx_hW hq hcs) hdg hf⟩
        · cases hL
      split at h1
      · rename_i a r hdr
        split at h1
        · rename_i ci fs e2
          split at h1
          · rename_i g
            obtain ⟨g1, g2, g3, g4⟩ := g
            obtain ⟨q, hrun, hor, rfl⟩ := zx_retI h1
            intro H locs ls hP hD hS hl
            have hcell := va_recv hK hP (zx_clk g2) (zx_w_get (fx := fx) (vq := vq) (ct := ct) (ad := ad) e2)
            have e9 : zx_R9 ci = (zx_my (zx_m k)).cls := by
              rw [← f2, ← g1]
              rcases (show ci = 0 ∨ ci = 1 ∨ ci = 2 ∨ ci = 3 ∨ ci = 4 ∨ ci = 5 ∨ ci = 6 ∨ ci = 7 ∨ ci = 8 by omega) with rfl | rfl | rfl | rfl | rfl | rfl | rfl | rfl | rfl <;> rfl
            rw [show (zx_R9 ci, zx_T8 ci, zx_fn ci).1 = (zx_my (zx_m k)).cls from e9] at hcell
            obtain ⟨aa, hr⟩ := key hdr rfl g3 g4 hrun hR hP hD hS hl.1 hcell
            exact zx_back hor hr hS hl K
          · cases h1
        · cases h1
      · rename_i a r hdr
        split at h1
        · rename_i g
          obtain ⟨g1, g2, g3, g4⟩ := g
          obtain ⟨q, hrun, hor, rfl⟩ := zx_retI h1
          intro H locs ls hP hD hS hl
          have hcell := vk_recv hSt.2.2.2.2.1 g1 hS
          rw [g2] at f2
          rw [show ("java/lang/String" : String) = (zx_my (zx_m k)).cls from f2] at hcell
          obtain ⟨aa, hr⟩ := key hdr rfl g3 g4 hrun hR hP hD hS hl.1 hcell
          exact zx_back hor hr hS hl K
        · cases h1
      · cases h1
    · cases h1
  · cases h1
theorem zx_cpy_len {α : Type} {f g : List α} {sp dp n : Nat} (h1 : sp + n ≤ f.length) (h2 : dp + n ≤ g.length) : (zx_cpy f g sp dp n).length = g.length := by
  unfold zx_cpy
  simp only [List.length_append, List.length_take, List.length_drop]
  omega
theorem zx_cpy_fn {α : Type} {d0 : α} {f g : List α} {sp dp n : Nat} (h1 : sp + n ≤ f.length) (h2 : dp + n ≤ g.length) : (fun j : Nat => (zx_cpy f g sp dp n).getD j d0) = va_cpy (fun j : Nat => f.getD j d0) (fun j : Nat => g.getD j d0) sp dp n := by
  funext j
  unfold va_cpy
  show (zx_cpy f g sp dp n).getD j d0 = if dp ≤ j ∧ j < dp + n then f.getD (sp + (j - dp)) d0 else g.getD j d0
  unfold zx_cpy
  rw [List.getD_eq_getElem?_getD, List.getD_eq_getElem?_getD, List.getD_eq_getElem?_getD]
  have l1 : (g.take dp).length = dp := by rw [List.length_take]; omega
  have l2 : ((f.drop sp).take n).length = n := by rw [List.length_take, List.length_drop]; omega
  by_cases a : j < dp
  · rw [List.getElem?_append_left (by omega), List.getElem?_take, if_pos a, if_neg (by omega)]
  · rw [List.getElem?_append_right (by omega), l1]
    by_cases b : j - dp < n
    · rw [List.getElem?_append_left (by omega), List.getElem?_take, if_pos b, List.getElem?_drop, if_pos (by omega)]
    · rw [List.getElem?_append_right (by omega), l2, List.getElem?_drop, if_neg (by omega), show dp + n + (j - dp - n) = j by omega]
theorem zx_s_ac (X : zx_Cx p R s m args meth c fx vq ct A sc D t d) {ix : Nat} (hdg : decode (zx_mb t) pc = .ok (.invokestatic ix, 3)) (hlk : Cond.methodLink (zx_o (zx_mo t)) ix arraycopyName ∈ zx_G) (h1 : zx_ac pc L S h nc ns = some (.inl st))
    (K : zx_Go p l e R s m args below meth c Q fx vq ct A D t ad st) : zx_Go p l e R s m args below meth c Q fx vq ct A D t ad (pc, L, S, h, nc, ns) := by
  obtain ⟨hx, hb, hml, hown, hts, hK, hA, hSt, hRm, hin⟩ := X
  have hq := hSt.2.2.2.2.2.2.2.2.1
  have hX := zx_ckX
  simp only [Bool.and_eq_true] at hX
  have hnw : nativeFrameWords "java/lang/System" "arraycopy" 5 + 11 ≤ 32 := by decide +kernel
  unfold zx_ac at h1
  split at h1
  · rename_i n dp b sp a r
    split at h1
    · rename_i g
      obtain ⟨g1, g2, g3, g4⟩ := g
      have hloc : ((r.map (zx_c fx vq ad)).map fun v => v.category).sum + (nativeFrameWords "java/lang/System" "arraycopy" 5 + 11) ≤ R.locals := by
        rw [zx_sum hq]
        have := hRm.2
        omega
      split at h1
      · rename_i f z e1 e2
        split at h1
        · rename_i g5
          obtain rfl := zx_Ni h1
          intro H locs ls hP hD hS hl
          have ew : zx_w fx vq ct ad (h.set b (.inr (0, .inl (zx_cpy f z sp.toNatClampNeg dp.toNatClampNeg n.toNatClampNeg)))) = (zx_w fx vq ct ad h).set b (ad b, .inl (ct 0, z.length, .inl (va_cpy (fun j : Nat => f.getD j 0) (fun j : Nat => z.getD j 0) sp.toNatClampNeg dp.toNatClampNeg n.toNatClampNeg))) := by
            rw [zx_w_set, ← zx_cpy_fn g5.1 g5.2, ← zx_cpy_len g5.1 g5.2]
            rfl
          exact va_copyi hx hb (hml.trans hl.1.symm) hown (hts _ hlk) (hts _ (zx_inG_mem hX.2.2.2.1)) (hts _ (zx_inG_mem hX.2.2.2.2.1)) (hts _ (zx_inG_mem hX.2.2.1)) hK hP hD hS a b 0 0 (ty := .int) (zx_w_get (fx := fx) (vq := vq) (ct := ct) (ad := ad) e1) (zx_w_get (fx := fx) (vq := vq) (ct := ct) (ad := ad) e2) rfl rfl rfl g2 g3 g4 g5.1 g5.2 (fun _ _ => rfl) (by have := hRm.1; omega) hloc hdg (fun H1 locs1 hP1 hD1 hS1 => K H1 locs1 ls (by rw [ew]; exact hP1) (by rw [ew]; exact hD1) hS1 hl)
        · cases h1
      · rename_i f z e1 e2
        split at h1
        · rename_i g5
          obtain rfl := zx_Ni h1
          intro H locs ls hP hD hS hl
          have ew : zx_w fx vq ct ad (h.set b (.inr (1, .inr (.inl (zx_cpy f z sp.toNatClampNeg dp.toNatClampNeg n.toNatClampNeg))))) = (zx_w fx vq ct ad h).set b (ad b, .inl (ct 1, z.length, .inr (.inl (va_cpy (fun j : Nat => f.getD j 0) (fun j : Nat => z.getD j 0) sp.toNatClampNeg dp.toNatClampNeg n.toNatClampNeg)))) := by
            rw [zx_w_set, ← zx_cpy_fn g5.1 g5.2, ← zx_cpy_len g5.1 g5.2]
            rfl
          exact va_copyl hx hb (hml.trans hl.1.symm) hown (hts _ hlk) (hts _ (zx_inG_mem hX.2.2.2.1)) (hts _ (zx_inG_mem hX.2.2.2.2.1)) (hts _ (zx_inG_mem hX.2.2.1)) hK hP hD hS a b 1 1 (ty := .long) (zx_w_get (fx := fx) (vq := vq) (ct := ct) (ad := ad) e1) (zx_w_get (fx := fx) (vq := vq) (ct := ct) (ad := ad) e2) rfl rfl rfl g2 g3 g4 g5.1 g5.2 (fun _ _ => rfl) (by have := hRm.1; omega) hloc hdg (fun H1 locs1 hP1 hD1 hS1 => K H1 locs1 ls (by rw [ew]; exact hP1) (by rw [ew]; exact hD1) hS1 hl)
        · cases h1
      · cases h1
    · cases h1
  · cases h1
theorem zx_s_is (X : zx_Cx p R s m args meth c fx vq ct A sc D t d) (hM : zx_Hm l fx vq ct A sc D d run) {ix : Nat} (hdg : decode (zx_mb t) pc = .ok (.invokestatic ix, 3)) (h1 : zx_is run (zx_mo t) ix pc L S h nc ns = some (.inl st)) (hR : st.2.2.2.2.1 ≤ R.cells ∧ st.2.2.2.2.2 ≤ R.slots)
    (K : ∀ ad', zx_ext ad h ad' st.2.2.2.1 → zx_Go p l e R s m args below meth c Q fx vq ct A D t ad' st) : zx_Go p l e R s m args below meth c Q fx vq ct A D t ad (pc, L, S, h, nc, ns) := by
  have X0 := X
  obtain ⟨hx, hb, hml, hown, hts, hK, hA, hSt, hRm, hin⟩ := X
  have hq := hSt.2.2.2.2.2.2.2.2.1
  unfold zx_is at h1
  split at h1
  · rename_i k np e1
    have hL := zx_cka_use zx_ckL_all e1
    split at h1
    · rename_i g
      obtain ⟨hk1, hk, hcs, hlen⟩ := g
      obtain ⟨f1, f2, f3, f4, f5, f6, -, f7, -, -, -⟩ := zx_mfacts hk
      obtain ⟨w1, w3⟩ := f7 hk1
      obtain ⟨q, hrun, hor, rfl⟩ := zx_retI h1
      intro H locs ls hP hD hS hl
      obtain ⟨d', rfl, hMet⟩ := hM k _ h q ad hk (by omega) hrun
      have hpre : PreS s H (va_Pc ((S.take (zx_mp (zx_m k))).reverse.map (zx_c fx vq ad)) (zx_Wd fx vq ct A none D ad h)) ((S.take (zx_mp (zx_m k))).reverse.map (zx_c fx vq ad)) := ⟨zx_blind, zx_in X0 hP hD hS _⟩
      have hstk : S.map (zx_c fx vq ad) = ((S.take (zx_mp (zx_m k))).reverse.map (zx_c fx vq ad)).reverse ++ (S.drop (zx_mp (zx_m k))).map (zx_c fx vq ad) := by
        rw [List.map_reverse, List.reverse_reverse, ← List.map_append, List.take_append_drop]
      unfold zx_ckL at hL
      split at hL
      · exact zx_back hor (va_runS ⟨hx, hb, hml, hown, hts⟩ hMet (va_cwS (zx_mp (zx_m k)) hts (zx_gi (fun w hw => by
          rcases List.mem_append.mp hw with hw | hw
          · simp only [List.mem_cons, List.not_mem_nil, or_false] at hw
            rcases hw with rfl | rfl | rfl
            · exact zx_inG_mem hL
            · exact w1
            · exact f1
          · exact zx_ws_in hk w hw)) rfl rfl rfl ⟨f4, f5, f6⟩ (zx_room hk hRm)) hpre rfl (zx_take_len hlen) hl.1 hstk (zx_hW hq hcs) hdg hR) hS hl K
      · exact zx_back hor (va_runSN ⟨hx, hb, hml, hown, hts⟩ hMet ⟨va_cnB (zx_mp (zx_m k)) hts (zx_gi (zx_ws_in hk)) rfl rfl rfl (hSt.1 _ (zx_inN_mem hL)) (hts _ f1) ⟨f4, f5, f6⟩ (zx_room hk hRm), hts _ w1, trivial⟩ hpre rfl (zx_take_len hlen) hl.1 hstk (zx_hW hq hcs) hdg hR) hS hl K
      · cases hL
    · split at h1
      · rename_i y x r _
        split at h1
        · rename_i g
          obtain ⟨hcs, hk⟩ := g
          have hloc : ((r.map (zx_c fx vq ad)).map fun v => v.category).sum + 13 ≤ R.locals := by
            rw [zx_sum hq]
            have := hRm.2
            omega
          obtain ⟨f1, f2, f3, f4, f5, f6, -, -, -, f7, f8⟩ := zx_mfacts hk
          have hcode := zx_kc _ (zx_m_mem hk)
          split at h1
          · rename_i hk3
            obtain ⟨w1, w2, w3⟩ := f7 hk3
            obtain rfl := zx_Ni h1
            intro H locs ls hP hD hS hl
            have hlk : Cond.methodLink (zx_o (zx_mo t)) ix Lib.Math.max.name ∈ zx_G := by
              unfold zx_ckL at hL
              split at hL
              · rw [← w2]; exact zx_inG_mem hL
              · exfalso
                have hn := List.mem_filter.mp (zx_inN_mem hL)
                rw [w2] at hn
                exact zx_noN1 _ _ hn.1
              · cases hL
            exact va_mmax hx hb (hml.trans hl.1.symm) hown (hts _ hlk) (hts _ w1) (hts _ w3) (hts _ zx_cmax) (by have := hRm.1; omega) hloc hR.1 hR.2 hdg (K ad (zx_ext_sm rfl) H locs ls hP hD hS hl)
          · split at h1
            · rename_i hk4
              obtain ⟨w1, w2, w3⟩ := f8 hk4
              obtain rfl := zx_Ni h1
              intro H locs ls hP hD hS hl
              have hlk : Cond.methodLink (zx_o (zx_mo t)) ix Lib.Math.min.name ∈ zx_G := by
                unfold zx_ckL at hL
                split at hL
                · rw [← w2]; exact zx_inG_mem hL
                · exfalso
                  have hn := List.mem_filter.mp (zx_inN_mem hL)
                  rw [w2] at hn
                  exact zx_noN2 _ _ hn.1
                · cases hL
              exact va_mmin hx hb (hml.trans hl.1.symm) hown (hts _ hlk) (hts _ w1) (hts _ w3) (hts _ zx_cmin) (by have := hRm.1; omega) hloc hR.1 hR.2 hdg (K ad (zx_ext_sm rfl) H locs ls hP hD hS hl)
            · cases h1
        · cases h1
      · cases h1
  · split at h1
    · rename_i pp e1
      have hA9 := zx_cka_use zx_ckA_all e1
      exact zx_s_ac X0 hdg (zx_inG_mem hA9) h1 (K ad (zx_ext_sm (zx_k_ac h1).2.1))
    · cases h1
theorem zx_s_ii (X : zx_Cx p R s m args meth c fx vq ct A sc D t d) (hM : zx_Hm l fx vq ct A sc D d run) {ix : Nat} (hdg : decode (zx_mb t) pc = .ok (.invokespecial ix, 3)) (h1 : zx_ii run (zx_mo t) ix pc L S h nc ns = some (.inl st)) (hR : st.2.2.2.2.1 ≤ R.cells ∧ st.2.2.2.2.2 ≤ R.slots)
    (K : ∀ ad', zx_ext ad h ad' st.2.2.2.1 → zx_Go p l e R s m args below meth c Q fx vq ct A D t ad' st) : zx_Go p l e R s m args below meth c Q fx vq ct A D t ad (pc, L, S, h, nc, ns) := by
  have X0 := X
  obtain ⟨hx, hb, hml, hown, hts, hK, hA, hSt, hRm, hin⟩ := X
  have hq := hSt.2.2.2.2.2.2.2.2.1
  unfold zx_ii at h1
  split at h1
  · rename_i k np e1
    have hL := zx_cka_use zx_ckL_all e1
    split at h1
    · rename_i g
      obtain ⟨hk2, hk⟩ := g
      obtain ⟨f1, f2, f3, f4, f5, f6, -, -, f7, -, -⟩ := zx_mfacts hk
      obtain ⟨w1, w2, w3, w4⟩ := f7 hk2
      split at h1
      · rename_i a r hdr
        split at h1
        · rename_i g
          obtain ⟨hcs, hlen⟩ := g
          obtain ⟨q, hrun, hor, rfl⟩ := zx_retI h1
          intro H locs ls hP hD hS hl
          obtain ⟨d', rfl, hMet⟩ := hM k _ h q ad hk (by omega) hrun
          have hpre : PreS s H (va_Pc ((.inr (.inr (1, a)) :: (S.take (zx_mp (zx_m k))).reverse : List zx_V).map (zx_c fx vq ad)) (zx_Wd fx vq ct A none D ad h)) (.ref (ad a) :: (S.take (zx_mp (zx_m k))).reverse.map (zx_c fx vq ad)) := ⟨zx_blind, zx_in X0 hP hD hS (.inr (.inr (1, a)) :: (S.take (zx_mp (zx_m k))).reverse)⟩
          have hws : zx_ws k = Cond.code (zx_my (zx_m k)) (zx_mb (zx_m k)) (zx_mn (zx_m k)) none :: zx_G := by
            unfold zx_ws
            rw [w3]
          unfold zx_ckL at hL
          split at hL
          · exact zx_back hor (va_runI ⟨hx, hb, hml, hown, hts⟩ hMet (cwI (zx_mp (zx_m k)) hts (zx_gi (zx_ws_in hk)) hws rfl rfl (hts _ f1) (hts _ (zx_inG_mem hL)) (hts _ w1) w2 ⟨f4, f5, f6⟩ (zx_room hk hRm)) hpre rfl (zx_take_len hlen) hl.1 (zx_stk_split hdr rfl) (zx_hW hq hcs) hdg hR) hS hl K
          · exact zx_back hor (va_runIN ⟨hx, hb, hml, hown, hts⟩ hMet ⟨va_cnB (zx_mp (zx_m k)) hts (zx_gi (zx_ws_in hk)) hws rfl rfl (hSt.1 _ (zx_inN_mem hL)) (hts _ f1) ⟨f4, f5, f6⟩ (zx_room hk hRm), w2, hts _ w1⟩ hpre rfl (zx_take_len hlen) hl.1 (zx_stk_split hdr rfl) (zx_hW hq hcs) hdg hR) hS hl K
          · cases hL
        · cases h1
      · cases h1
    · cases h1
  · split at h1
    · rename_i pp a r e1
      have hO := zx_cka_use zx_ckO_all e1
      have hX := zx_ckX
      simp only [Bool.and_eq_true] at hX
      split at h1
      · rename_i hcs
        obtain rfl := zx_Ni h1
        intro H locs ls hP hD hS hl
        refine W.objInit hx hb hown (hts _ (zx_inG_mem hO)) (hts _ (zx_inG_mem hX.2.2.2.2.2.1)) (hts _ (zx_inG_mem hX.2.2.2.2.2.2)) rfl (by rw [hml]; exact hl.1) rfl hdg (by have := hRm.1; omega) ?_ (K ad (zx_ext_sm rfl) H locs ls hP hD hS hl)
        have h8 := hRm.2
        show 2 * 0 + ((r.map (zx_c fx vq ad)).map fun v => v.category).sum + 12 ≤ R.locals
        have h7 : ((r.map (zx_c fx vq ad)).map fun v => v.category).sum ≤ 8 := by rw [zx_sum hq]; exact hcs
        omega
      · cases h1
    · cases h1
end
