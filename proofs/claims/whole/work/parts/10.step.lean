section ZU
variable {p : Program} {l : Launch} {e : Env} {R : Room} {s : State} {m : MethodId} {args : Array Value} {below : List Frame} {meth : Method} {c : Code} {H : Heap} {locs : List Loc} {cells slots : Nat} {Q : State → Prop}
variable {D : va_G} {a : Nat → Nat} {cA : Nat → ClassId} {tb : zTb} {A : Nat → Prop} {own d nL : Nat} {cc : ByteArray} {ls : Array Slot} {lv st : List Value} {h : zH}
/-- what a step goes on to -/
abbrev zK (p : Program) (l : Launch) (e : Env) (R : Room) (s : State) (m : MethodId) (args : Array Value) (below : List Frame) (meth : Method) (c : Code) (cells slots : Nat) (Q : State → Prop) (D : va_G) (a : Nat → Nat) (cA : Nat → ClassId) (A : Nat → Prop) (nL pc : Nat) (lv st : List Value) (h : zH) : Prop :=
  ∀ (H1 : Heap) (locs1 : List Loc) (ls1 : Array Slot), zIv D a cA A s h H1 locs1 → zls a ls1 lv → lv.length = nL → W p l e R s m args below meth c H1 locs1 cells slots Q (F0 m pc ls1 (st.map (zv a)))
theorem zs_getf {idx pc pc' : Nat} {lv' st' : List Value} {h' : zH} (C0 : zCx p R s m args c cells slots D a cA tb A own d nL cc) (hd : decode cc pc = .ok (.getfield idx, 3)) (hz : zgetf own idx 3 pc lv st h = some (pc', lv', st', h')) (hln : lv.length = nL) (hI : zIv D a cA A s h H locs) (hl : zls a ls lv)
    (k : zK p l e R s m args below meth c cells slots Q D a cA A nL pc' lv' st' h') : W p l e R s m args below meth c H locs cells slots Q (F0 m pc ls (st.map (zv a))) := by
  obtain ⟨hx, hb, hml, hown, hts, hA, hg, hcs, hfr, hlc⟩ := C0
  obtain ⟨q, r, ci, j, x, fs, v, rfl, h1, h2, h3, rfl, rfl, rfl, rfl⟩ := zgetf_ok hz
  have hf := zfT_ok own _ (zlook_mem h1)
  unfold zfok at hf
  simp only at hf
  cases hc : vwCl[ci]? with
  | none => rw [hc] at hf; cases hf
  | some qc =>
    obtain ⟨C, T, N⟩ := qc
    rw [hc] at hf
    simp only [Bool.and_eq_true, decide_eq_true_eq] at hf
    obtain ⟨⟨⟨f1, f2⟩, f3⟩, -⟩ := hf
    exact va_get (D := D) (ci := ci) (v := zv a v) (C := C) (T := T) (N := N) (ref := C) hx hb hts (zcls_in hc) hown hg.1 hI.1 q (zw_at (zobj_ok h2)) hc j f1 (hts _ (List.mem_of_getElem? f2)) (fun _ h9 => by rw [f3] at h9; exact h9) (by rw [List.getElem?_map, h3]; rfl) hd (k H locs ls hI hl hln)
theorem zs_putf {idx pc pc' : Nat} {lv' st' : List Value} {h' : zH} (C0 : zCx p R s m args c cells slots D a cA tb A own d nL cc) (hd : decode cc pc = .ok (.putfield idx, 3)) (hz : zputf own idx 3 pc lv st h = some (pc', lv', st', h')) (hln : lv.length = nL) (hI : zIv D a cA A s h H locs) (hl : zls a ls lv)
    (k : zK p l e R s m args below meth c cells slots Q D a cA A nL pc' lv' st' h') : W p l e R s m args below meth c H locs cells slots Q (F0 m pc ls (st.map (zv a))) := by
  obtain ⟨hx, hb, hml, hown, hts, hA, hg, hcs, hfr, hlc⟩ := C0
  obtain ⟨x, q, ci, j, ty, y, fs, rfl, h1, h2, h3, h4, rfl, rfl, rfl⟩ := zputf_ok hz
  have hf := zfT_ok own _ (zlook_mem h1)
  unfold zfok at hf
  simp only at hf
  cases hc : vwCl[ci]? with
  | none => rw [hc] at hf; cases hf
  | some qc =>
    obtain ⟨C, T, N⟩ := qc
    rw [hc] at hf
    simp only [Bool.and_eq_true, Bool.or_eq_true, decide_eq_true_eq] at hf
    obtain ⟨⟨⟨f1, f2⟩, f3⟩, f4⟩ := hf
    obtain ⟨tys, t1, t2⟩ := zcls_ty hc
    have hwd := zw_at (a := a) (cA := cA) (zobj_ok h2)
    have key : (T j).2.2.2 = false ∧ ∃ ty : FieldType, parseFieldDescriptor (T j).2.2.1 = some ty ∧ narrow ty (.int x) = .int x ∧ fits ty (.int x) = true := by
      rcases f4 with f4 | ⟨f5, f6⟩
      · rw [f4] at h3
        simp [zfit] at h3
      · refine ⟨f5, ?_⟩
        rcases f6 with ⟨g1, g2⟩ | ⟨g1, g2⟩
        · rw [g2]
          exact ⟨.int, by decide +kernel, rfl, rfl⟩
        · rw [g2]
          rw [g1] at h3
          have h3 : x = 0 ∨ x = 1 := by simpa [zfit] using h3
          exact ⟨.boolean, by decide +kernel, by rcases h3 with rfl | rfl <;> rfl, by rcases h3 with rfl | rfl <;> rfl⟩
    obtain ⟨k1, fty, k2, k3, k4⟩ := key
    refine va_put (D := D) (ci := ci) (v := .int x) (ty := fty) (C := C) (T := T) (N := N) (ref := C) hx hb hts (zcls_in hc) tys t1 t2 hown hg.1 hI.1 hI.2.1 hI.2.2 q hwd hc j f1 (hts _ (List.mem_of_getElem? f2)) (fun _ h9 => by rw [f3] at h9; exact h9) k1 k2 k3 k4 (by rw [List.length_map]; exact h4) hd (fun H1 locs1 hP hD hS => ?_)
    have e1 : (zw a cA h).set q (a q, .inr (ci, (fs.map (zv a)).set j (.int x))) = zw a cA (h.set q (.inr (ci, fs.set j (.int x)))) := by
      rw [zw_set]
      simp only [zce, List.map_set, zv]
    rw [e1] at hP hD
    exact k H1 locs1 ls ⟨hP, hD, hS⟩ hl hln
theorem zs_ial {pc pc' : Nat} {lv' st' : List Value} {h' : zH} (C0 : zCx p R s m args c cells slots D a cA tb A own d nL cc) (hd : decode cc pc = .ok (.iaload, 1)) (hz : zial tb 1 pc lv st h = some (pc', lv', st', h')) (hln : lv.length = nL) (hI : zIv D a cA A s h H locs) (hl : zls a ls lv)
    (k : zK p l e R s m args below meth c cells slots Q D a cA A nL pc' lv' st' h') : W p l e R s m args below meth c H locs cells slots Q (F0 m pc ls (st.map (zv a))) := by
  obtain ⟨hx, hb, hml, hown, hts, hA, hg, hcs, hfr, hlc⟩ := C0
  obtain ⟨i, q, r, n, f, rfl, h1, h2, rfl, rfl, rfl, rfl⟩ := zial_ok hz
  unfold zrd at h1
  by_cases hq : q < 1000
  · rw [if_pos hq] at h1
    exact va_iald hx hb hg.1 hI.1 q 0 (zw_at (zarr_ok h1)) rfl (zin_vp h2) hd (k H locs ls hI hl hln)
  · rw [if_neg hq] at h1
    have hT := hg.2.1 _ _ _ h1
    rw [Nat.add_sub_of_le (Nat.not_lt.mp hq)] at hT
    exact va_ti hx hb hT hI.2.2 (zin_vp h2) rfl hd (k H locs ls hI hl hln)
theorem zs_bal {pc pc' : Nat} {lv' st' : List Value} {h' : zH} (C0 : zCx p R s m args c cells slots D a cA tb A own d nL cc) (hd : decode cc pc = .ok (.baload, 1)) (hz : zbal 1 pc lv st h = some (pc', lv', st', h')) (hln : lv.length = nL) (hI : zIv D a cA A s h H locs) (hl : zls a ls lv)
    (k : zK p l e R s m args below meth c cells slots Q D a cA A nL pc' lv' st' h') : W p l e R s m args below meth c H locs cells slots Q (F0 m pc ls (st.map (zv a))) := by
  obtain ⟨hx, hb, hml, hown, hts, hA, hg, hcs, hfr, hlc⟩ := C0
  obtain ⟨i, q, r, t, n, f, rfl, h1, h2, rfl, rfl, rfl, rfl⟩ := zbal_ok hz
  rcases zbar_ok h1 with ⟨rfl, g1⟩ | ⟨rfl, g1⟩
  · exact va_zald hx hb hg.1 hI.1 q 1 (zw_at (zarr_ok g1)) rfl (zin_vp h2) hd (k H locs ls hI hl hln)
  · exact va_bald hx hb hg.1 hI.1 q 2 (zw_at (zarr_ok g1)) rfl (zin_vp h2) hd (k H locs ls hI hl hln)
theorem zs_ias {pc pc' : Nat} {lv' st' : List Value} {h' : zH} (C0 : zCx p R s m args c cells slots D a cA tb A own d nL cc) (hd : decode cc pc = .ok (.iastore, 1)) (hz : zias 1 pc lv st h = some (pc', lv', st', h')) (hln : lv.length = nL) (hI : zIv D a cA A s h H locs) (hl : zls a ls lv)
    (k : zK p l e R s m args below meth c cells slots Q D a cA A nL pc' lv' st' h') : W p l e R s m args below meth c H locs cells slots Q (F0 m pc ls (st.map (zv a))) := by
  obtain ⟨hx, hb, hml, hown, hts, hA, hg, hcs, hfr, hlc⟩ := C0
  obtain ⟨x, i, q, n, f, rfl, h1, h2, rfl, rfl, rfl⟩ := zias_ok hz
  refine va_iast hx hb hg.1 hI.1 hI.2.1 hI.2.2 q 0 (zw_at (zarr_ok h1)) rfl (zin_vp h2) hd (fun H1 locs1 hP hD hS => ?_)
  have e1 : (zw a cA h).set q (a q, .inl (cA 0, n, .inl (upd f i.toNatClampNeg x))) = zw a cA (h.set q (.inl (0, n, .inl (upd f i.toNatClampNeg x)))) := by
    rw [zw_set]
    rfl
  exact k H1 locs1 ls ⟨e1 ▸ hP, e1 ▸ hD, hS⟩ hl hln
theorem zs_bas {pc pc' : Nat} {lv' st' : List Value} {h' : zH} (C0 : zCx p R s m args c cells slots D a cA tb A own d nL cc) (hd : decode cc pc = .ok (.bastore, 1)) (hz : zbas 1 pc lv st h = some (pc', lv', st', h')) (hln : lv.length = nL) (hI : zIv D a cA A s h H locs) (hl : zls a ls lv)
    (k : zK p l e R s m args below meth c cells slots Q D a cA A nL pc' lv' st' h') : W p l e R s m args below meth c H locs cells slots Q (F0 m pc ls (st.map (zv a))) := by
  obtain ⟨hx, hb, hml, hown, hts, hA, hg, hcs, hfr, hlc⟩ := C0
  obtain ⟨x, i, q, t, n, f, rfl, h1, h2, rfl, rfl, rfl⟩ := zbas_ok hz
  rcases zbar_ok h1 with ⟨rfl, g1⟩ | ⟨rfl, g1⟩
  · refine va_zast hx hb hg.1 hI.1 hI.2.1 hI.2.2 q 1 (zw_at (zarr_ok g1)) rfl (zin_vp h2) hd (fun H1 locs1 hP hD hS => ?_)
    have e1 : (zw a cA h).set q (a q, .inl (cA 1, n, .inl (upd f i.toNatClampNeg (vp_nar .boolean x)))) = zw a cA (h.set q (.inl (1, n, .inl (upd f i.toNatClampNeg (zbn 1 x))))) := by
      rw [zw_set]
      rfl
    exact k H1 locs1 ls ⟨e1 ▸ hP, e1 ▸ hD, hS⟩ hl hln
  · refine va_bast hx hb hg.1 hI.1 hI.2.1 hI.2.2 q 2 (zw_at (zarr_ok g1)) rfl (zin_vp h2) hd (fun H1 locs1 hP hD hS => ?_)
    have e1 : (zw a cA h).set q (a q, .inl (cA 2, n, .inl (upd f i.toNatClampNeg (vp_nar .byte x)))) = zw a cA (h.set q (.inl (2, n, .inl (upd f i.toNatClampNeg (zbn 2 x))))) := by
      rw [zw_set]
      rfl
    exact k H1 locs1 ls ⟨e1 ▸ hP, e1 ▸ hD, hS⟩ hl hln
theorem zs_inv {cal : zCal} {idx pc pc' : Nat} {lv' st' : List Value} {h' : zH} (C0 : zCx p R s m args c cells slots D a cA tb A own d nL cc) (hcal : ∀ q av h r h', cal q av h = some (r, h') → zCon l tb d q av h r h') (hd : decode cc pc = .ok (.invokevirtual idx, 3)) (hz : zinv cal own idx 3 pc lv st h = some (pc', lv', st', h')) (hln : lv.length = nL) (hI : zIv D a cA A s h H locs) (hl : zls a ls lv)
    (k : zK p l e R s m args below meth c cells slots Q D a cA A nL pc' lv' st' h') : W p l e R s m args below meth c H locs cells slots Q (F0 m pc ls (st.map (zv a))) := by
  obtain ⟨hx, hb, hml, hown, hts, hA, hg, hcs, hfr, hlc⟩ := id C0
  obtain ⟨mm, n, ci, x, q, r, fs, v, h1, h2, h3, h4, h5, h6, rfl, rfl, rfl⟩ := zinv_ok hz
  have hf := zvT_ok own _ (zlook_mem h1)
  unfold zvok at hf
  simp only at hf
  cases hm : zMs[mm]? with
  | none => rw [hm] at hf; cases hf
  | some em =>
    rw [hm] at hf
    simp only [Bool.and_eq_true, decide_eq_true_eq] at hf
    obtain ⟨⟨⟨⟨⟨⟨f1, f2⟩, f3⟩, f4⟩, f5⟩, f6⟩, f7⟩ := hf
    obtain ⟨p1, p2, p3, p4, p5, p6, p7⟩ := zMs_ok em (List.mem_of_getElem? hm)
    obtain ⟨qc, hc1, hc2⟩ := zcls_R f7
    have hM := hcal _ _ _ _ _ h6 em hm D a cA H.size
    have hcl : em.2.1.cls = zR ci := by rw [p5, f5]
    have hgood : GoodIn wsL_law (wsV (zR own) idx (zR ci) em.2.1 (zws em)) := zgoodIn fun w hw => by
      unfold wsV at hw
      rcases List.mem_append.mp hw with hw | hw
      · simp only [List.mem_cons, List.not_mem_nil, or_false] at hw
        rcases hw with rfl | rfl | rfl | rfl
        · exact List.mem_of_getElem? f1
        · exact List.mem_of_getElem? f2
        · exact List.mem_of_getElem? f3
        · exact List.mem_of_getElem? f4
      · unfold zws at hw
        rcases List.mem_cons.mp hw with rfl | hw
        · exact p2
        · exact hw
    have hst : st = st.take n ++ .ref q :: r := by rw [← h2, List.take_append_drop]
    have hrun := va_runV (l := l) (e := e) (R := R) (below := below) (meth := meth) (locs := locs) (cells := cells) (slots := slots) (g := F0 m pc ls (st.map (zv a))) (As := ((st.take n).reverse.map (zv a))) (b := a q) (rest := r.map (zv a)) (C := zR ci) ⟨hx, hb, hml, hown, hts⟩ hM (cwV n hts hgood rfl rfl rfl ⟨hcl, p6.1, p6.2, f6⟩ ⟨hfr, by
        show 8 + (em.1.2.2.1 + 11) + 40 * d ≤ R.locals
        omega⟩) ⟨zPre_blind, by rw [← hc2]; exact va_recv hg.1 hI.1 hc1 (zw_at (zobj_ok h3)), fun U hU hW => za_pre C0 hI U hU hW⟩ rfl (by rw [List.length_map, List.length_reverse]; exact h4) (by rw [hl.1]; exact hln) (by
        show st.map (zv a) = _
        conv => lhs; rw [hst]
        rw [List.map_append, ← List.map_reverse, List.reverse_reverse]
        rfl) (lv_room (by rw [zsum_map]; exact h5)) hd ⟨hcs.1, hcs.2⟩
    refine za_call hrun hI.2.2 (za_free hI hA) (za_free hI hA) (fun H1 locs1 hI1 => ?_)
    have := k H1 locs1 ls hI1 hl hln
    rw [List.map_append] at this
    cases v with
    | none => exact this
    | some v => exact this
theorem zs_ins {cal : zCal} {idx pc pc' : Nat} {lv' st' : List Value} {h' : zH} (C0 : zCx p R s m args c cells slots D a cA tb A own d nL cc) (hcal : ∀ q av h r h', cal q av h = some (r, h') → zCon l tb d q av h r h') (hd : decode cc pc = .ok (.invokestatic idx, 3)) (hz : zins cal own idx 3 pc lv st h = some (pc', lv', st', h')) (hln : lv.length = nL) (hI : zIv D a cA A s h H locs) (hl : zls a ls lv)
    (k : zK p l e R s m args below meth c cells slots Q D a cA A nL pc' lv' st' h') : W p l e R s m args below meth c H locs cells slots Q (F0 m pc ls (st.map (zv a))) := by
  obtain ⟨hx, hb, hml, hown, hts, hA, hg, hcs, hfr, hlc⟩ := id C0
  rcases zins_ok hz with ⟨x, y, r, h1, rfl, h2, rfl, rfl, rfl, rfl⟩ | ⟨mm, n, x, v, h1, h4, h5, h6, rfl, rfl, rfl⟩
  · have hf := zaT_ok own _ (zlook_mem h1)
    unfold zaok at hf
    simp only [decide_eq_true_eq] at hf
    exact va_mabs_long hx hb (by rw [hml, hl.1]; exact hln.symm) hown (hts _ (List.mem_of_getElem? hf)) (hts _ zabs_s) (hts _ zabs_i) (hts _ zabs_c) (by omega) (by rw [zsum_map]; omega) hcs.1 hcs.2 hd (k H locs ls hI hl hln)
  · have hf := zsT_ok own _ (zlook_mem h1)
    unfold zsok at hf
    simp only at hf
    cases hm : zMs[mm]? with
    | none => rw [hm] at hf; cases hf
    | some em =>
      rw [hm] at hf
      simp only [Bool.and_eq_true, decide_eq_true_eq] at hf
      obtain ⟨⟨⟨f1, f2⟩, f3⟩, f6⟩ := hf
      obtain ⟨p1, p2, p3, p4, p5, p6, p7⟩ := zMs_ok em (List.mem_of_getElem? hm)
      have hM := hcal _ _ _ _ _ h6 em hm D a cA H.size
      have hgood : GoodIn wsL_law (va_wsS (zR own) idx em.2.1 (zws em)) := zgoodIn fun w hw => by
        unfold va_wsS at hw
        rcases List.mem_append.mp hw with hw | hw
        · simp only [List.mem_cons, List.not_mem_nil, or_false] at hw
          rcases hw with rfl | rfl | rfl
          · exact List.mem_of_getElem? f1
          · exact List.mem_of_getElem? f2
          · exact List.mem_of_getElem? f3
        · unfold zws at hw
          rcases List.mem_cons.mp hw with rfl | hw
          · exact p2
          · exact hw
      have hrun := va_runS (l := l) (e := e) (R := R) (below := below) (meth := meth) (locs := locs) (cells := cells) (slots := slots) (g := F0 m pc ls (st.map (zv a))) (As := ((st.take n).reverse.map (zv a))) (rest := (st.drop n).map (zv a)) ⟨hx, hb, hml, hown, hts⟩ hM (va_cwS n hts hgood rfl rfl rfl ⟨p6.1, p6.2, f6⟩ ⟨hfr, by
          show 8 + (em.1.2.2.1 + 11) + 40 * d ≤ R.locals
          omega⟩) ⟨zPre_blind, fun U hU hW => za_pre C0 hI U hU hW⟩ rfl (by rw [List.length_map, List.length_reverse]; exact h4) (by rw [hl.1]; exact hln) (by
          show st.map (zv a) = _
          rw [← List.map_reverse, List.reverse_reverse, ← List.map_append, List.take_append_drop]) (lv_room (by rw [zsum_map]; exact h5)) hd ⟨hcs.1, hcs.2⟩
      refine za_call hrun hI.2.2 (za_free hI hA) (za_free hI hA) (fun H1 locs1 hI1 => ?_)
      have := k H1 locs1 ls hI1 hl hln
      rw [List.map_append] at this
      cases v with
      | none => exact this
      | some v => exact this
end ZU
