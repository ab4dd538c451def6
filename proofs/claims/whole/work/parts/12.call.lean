/-! A method's contract out of the small machine's call. -/
theorem zsl_len {a : Nat → Nat} : ∀ {av : List Value}, av.all (fun v => !(zc2 v) && zkn v) = true → (lg_sl (av.map (zv a))).length = av.length
  | [], _ => rfl
  | v :: r, h => by
    simp only [List.all_cons, Bool.and_eq_true, Bool.not_eq_true'] at h
    have hc : ¬ (zv a v).category = 2 := by rw [zv_cat, zc2_cat h.1.1]; decide
    have ih := zsl_len (a := a) (av := r) (by simpa only [Bool.and_eq_true, Bool.not_eq_true'] using h.2)
    unfold lg_sl at ih ⊢
    rw [List.map_cons, List.flatMap_cons, List.length_append, ih, if_neg hc]
    simp only [List.length_cons, List.length_nil]
    omega
theorem zla_mem {a : Nat → Nat} : ∀ {av : List Value} {j i : Nat} {v : Value}, av.all (fun v => !(zc2 v) && zkn v) = true → av[j]? = some v → (i + j, zv a v) ∈ lv_args i (av.map (zv a))
  | [], j, i, v, _, h => by simp at h
  | w :: r, 0, i, v, h, hv => by
    have hv : some w = some v := hv
    cases hv
    simp only [List.map_cons, lv_args]
    exact List.mem_cons_self
  | w :: r, j + 1, i, v, h, hv => by
    simp only [List.all_cons, Bool.and_eq_true, Bool.not_eq_true'] at h
    have hc : ¬ (zv a w).category = 2 := by rw [zv_cat, zc2_cat h.1.1]; decide
    rw [List.getElem?_cons_succ] at hv
    have ih := zla_mem (a := a) (av := r) (j := j) (i := i + 1) (by simpa only [Bool.and_eq_true, Bool.not_eq_true'] using h.2) hv
    simp only [List.map_cons, lv_args, if_neg hc]
    rw [show i + (j + 1) = i + 1 + j by omega]
    exact List.mem_cons_of_mem _ ih
theorem zent_len {av : List Value} {n : Nat} (h : av.length ≤ n) : (zent av n).length = n := by
  unfold zent
  rw [List.length_append, List.length_replicate]
  omega
theorem zls_ent {a : Nat → Nat} {av : List Value} {n : Nat} {ls : Array Slot} (ha : zavok av n = true) (hl : lv_has ls n (lv_args 0 (av.map (zv a)))) : zls a ls (zent av n) := by
  unfold zavok at ha
  simp only [Bool.and_eq_true, decide_eq_true_eq] at ha
  refine ⟨by rw [zent_len ha.1]; exact hl.1, hl.2.1, fun i v hv hk => ?_⟩
  unfold zent at hv
  by_cases hi : i < av.length
  · rw [List.getElem?_append_left hi] at hv
    have := hl.2.2 _ (zla_mem (a := a) (i := 0) (j := i) (v := v) (by simpa only [Bool.and_eq_true, Bool.not_eq_true'] using ha.2) hv)
    rw [Nat.zero_add] at this
    exact this
  · rw [List.getElem?_append_right (by omega), List.getElem?_replicate] at hv
    split at hv
    · cases hv; cases hk
    · cases hv
set_option maxHeartbeats 4000000 in
theorem zcall_W (l : Launch) (tb : zTb) : ∀ (d q : Nat) (av : List Value) (h : zH) (r : Option Value) (h' : zH), zcall tb d q av h = some (r, h') → zCon l tb d q av h r h' := by
  intro d
  induction d with
  | zero => intro q av h r h' hc; cases hc
  | succ d ih =>
    intro q av h r h' hc e he D a cA sz
    obtain ⟨e', he', ha, n, hn⟩ := zcall_ex hc
    cases he.symm.trans he'
    obtain ⟨p1, p2, p3, p4, p5, p6, p7⟩ := zMs_ok e (List.mem_of_getElem? he)
    refine Met.ofW (cc := e.2.2.1) (maxL := e.1.2.2.1) (ret := e.2.2.2) p3 rfl ?_
    intro p env s m args below meth c s₁ B hml hv
    obtain ⟨rfl, hsz, hP, hD0, hG⟩ := hv
    subst hsz
    have hts := atoms_spec (ws := zws e) B.pre
    have hown : s.vm.findClass (zR e.1.1) = some m.cls := by rw [← p5]; exact findClass_of_methodNamed B.named
    have hlocks := B.notSynchronized
    have hr := B.returns
    rw [p4] at hr
    have ha0 := ha
    unfold zavok at ha0
    simp only [Bool.and_eq_true, decide_eq_true_eq] at ha0
    have hall : av.all (fun v => !(zc2 v) && zkn v) = true := by simpa only [Bool.and_eq_true, Bool.not_eq_true'] using ha0.2
    have hlen := zsl_len (a := a) hall
    have hl := lv_entry (av.map (zv a)) (n := e.1.2.2.1) (by rw [hlen]; exact ha0.1)
    rw [lg_entry_eq]
    generalize (lg_sl (av.map (zv a)) ++ List.replicate (e.1.2.2.1 - (lg_sl (av.map (zv a))).length) Slot.unset).toArray = ls at hl ⊢
    have C0 : zCx p (headSpec (zws e) (zrm (d + 1))).room s m (av.map (zv a)).toArray c 0 0 D a cA tb (va_A (zw a cA h) s.heap.size) e.1.1 d e.1.2.2.1 e.2.2.1 :=
      ⟨B.exec, B.bytes, hml, hown, fun w hw => hts w (List.mem_cons_of_mem _ hw), fun q h => Or.inr h, hG, ⟨Nat.zero_le _, Nat.zero_le _⟩, Nat.le_refl _, Nat.le_refl _⟩
    refine zex_W (Q := MQ below (zPost D a cA h s.heap.size r h') (av.map (zv a)).toArray s 0 0 (va_A (zw a cA h) s.heap.size)) C0 ih p1 ?_ n 0 (zent av e.1.2.2.1) [] h hn (zent_len ha0.1) s.heap [] ls ⟨hP, hD0.self, va_S.rf⟩ (zls_ent ha hl)
    intro pc len i st H locs ls hd hlo hz hI
    unfold zend at hz
    split at hz
    · split at hz
      · rename_i hc2
        simp only [Bool.and_eq_true, decide_eq_true_eq, List.isEmpty_iff] at hc2
        cases hz
        obtain ⟨hc2, rfl⟩ := hc2
        rw [hc2] at hr
        obtain rfl : len = 1 := of_decide_eq_true hlo
        exact W.vret B.exec B.bytes hr (fun t ht hW => ⟨⟨rfl, by rw [ht]; exact hI.1, hI.2.1⟩, hI.2.2.F ht⟩) hI.2.2.2.2 hd
      · cases hz
    · split at hz
      · rename_i v
        obtain rfl : len = 1 := of_decide_eq_true hlo
        split at hz
        · rename_i hc2
          cases hz
          rw [hc2] at hr
          exact W.iret (v := v) B.exec B.bytes hr (fun t ht hW => ⟨⟨rfl, by rw [ht]; exact hI.1, hI.2.1⟩, hI.2.2.F ht⟩) hI.2.2.2.2 hd
        · split at hz
          · rename_i hc2
            split at hz
            · rename_i hc3
              cases hz
              rw [hc2] at hr
              exact W.zret (v := v) (ty := .boolean) B.exec B.bytes hr (by show Value.int (v &&& 1) = _; rw [hc3]) (fun t ht hW => ⟨⟨rfl, by rw [ht]; exact hI.1, hI.2.1⟩, hI.2.2.F ht⟩) hI.2.2.2.2 hd
            · cases hz
          · cases hz
      · cases hz
    · cases hz
