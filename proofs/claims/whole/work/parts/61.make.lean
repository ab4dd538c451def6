/-! MAKING: the constructors' walks over heap positions; a new cell takes the next position. -/
def zcl1 (n : Nat) : Value → Bool
  | .ref k => decide (k < n) || decide (1000 ≤ k)
  | _ => true
def zce1 (n : Nat) : zE → Bool
  | .inl _ => true
  | .inr o => o.2.all (zcl1 n)
def zclo (n : Nat) (h : zH) (st lv : List Value) : Bool := h.all (zce1 n) && st.all (zcl1 n) && lv.all (zcl1 n)
section ZA
variable {a a' : Nat → Nat} {n : Nat} {cA : Nat → ClassId}
theorem zv_same (ha : ∀ k, k < n ∨ 1000 ≤ k → a' k = a k) {v : Value} (hv : zcl1 n v = true) : zv a' v = zv a v := by
  cases v with
  | ref k =>
    simp only [zcl1, Bool.or_eq_true, decide_eq_true_eq] at hv
    show Value.ref (a' k) = Value.ref (a k)
    rw [ha k hv]
  | _ => rfl
theorem zvs_same (ha : ∀ k, k < n ∨ 1000 ≤ k → a' k = a k) {l : List Value} (hv : l.all (zcl1 n) = true) : l.map (zv a') = l.map (zv a) := List.map_congr_left (fun v h => zv_same ha (List.all_eq_true.mp hv v h))
theorem zce_same (ha : ∀ k, k < n ∨ 1000 ≤ k → a' k = a k) {e : zE} (h : zce1 n e = true) : zce a' cA e = zce a cA e := by
  cases e with
  | inl x => rfl
  | inr o =>
    show Sum.inr (o.1, o.2.map (zv a')) = Sum.inr (o.1, o.2.map (zv a))
    rw [zvs_same ha h]
theorem zw_same (ha : ∀ k, k < n ∨ 1000 ≤ k → a' k = a k) {h : zH} (hn : h.length = n) (hh : h.all (zce1 n) = true) : zw a' cA h = zw a cA h := by
  apply List.ext_getElem?
  intro i
  simp only [zw, List.getElem?_mapIdx]
  cases hi : h[i]? with
  | none => rfl
  | some e =>
    have hl : i < n := by rw [← hn]; exact (List.getElem?_eq_some_iff.mp hi).1
    simp only [Option.map_some]
    rw [ha i (Or.inl hl), zce_same ha (List.all_eq_true.mp hh e (List.mem_of_getElem? hi))]
theorem zw_push {h : zH} {e : zE} : zw a cA (h ++ [e]) = zw a cA h ++ [(a h.length, zce a cA e)] := by
  unfold zw
  rw [List.mapIdx_append]
  simp
theorem zls_same (ha : ∀ k, k < n ∨ 1000 ≤ k → a' k = a k) {ls : Array Slot} {lv : List Value} (hl : zls a ls lv) (hv : lv.all (zcl1 n) = true) : zls a' ls lv := ⟨hl.1, hl.2.1, fun i v h1 h2 => by rw [zv_same ha (List.all_eq_true.mp hv v (List.mem_of_getElem? h1))]; exact hl.2.2 i v h1 h2⟩
theorem zG_a {D : va_G} {tb : zTb} {A : Nat → Prop} {U : State} {H : Heap} (ha : ∀ k, 1000 ≤ k → a' k = a k) (h : zG D a cA tb A U H) : zG D a' cA tb A U H :=
  ⟨h.1, fun t n f ht => by rw [ha (1000 + t) (by omega)]; exact h.2.1 t n f ht, by rw [ha 1000 (by omega)]; exact h.2.2.1, h.2.2.2⟩
end ZA
/-- one place more -/
def zax (a : Nat → Nat) (n q : Nat) : Nat → Nat := fun k => if k = n then q else a k
theorem zax_s (a : Nat → Nat) (n q : Nat) : zax a n q n = q := if_pos rfl
theorem zax_n {a : Nat → Nat} {n q : Nat} (hn : n < 1000) : ∀ k, k < n ∨ 1000 ≤ k → zax a n q k = a k := fun k hk => if_neg (by omega)
/-- the two constructors that only the nest may call -/
def zNs (U : State) : Prop := va_Nw (.methodLinkNest RX5 27 yX1_init RX5) U ∧ va_Nw (.methodLinkNest RX5 34 yX2_init RX5) U
def zV (p : Program) (l : Launch) (e : Env) (R : Room) (s : State) (m : MethodId) (args : Array Value) (below : List Frame) (meth : Method) (c : Code) (Q : State → Prop) (D : va_G) (cA : Nat → ClassId) (A : Nat → Prop) (a0 : Nat → Nat) (n0 : Nat) (cells slots pc : Nat) (lv st : List Value) (h : zH) : Prop :=
  ∀ (a : Nat → Nat), (∀ k, k < n0 ∨ 1000 ≤ k → a k = a0 k) → ∀ (H : Heap) (locs : List Loc) (ls : Array Slot), zIv D a cA A s h H locs → zls a ls lv → W p l e R s m args below meth c H locs cells slots Q (F0 m pc ls (st.map (zv a)))
def zPreI (D : va_G) (a : Nat → Nat) (cA : Nat → ClassId) (tb : zTb) (av : List Value) (h : zH) (sz : Nat) : Array Value → State → Prop := fun v U => zPre D a cA tb av h sz v U ∧ zNs U
def zPostI (D : va_G) (a : Nat → Nat) (cA : Nat → ClassId) (h : zH) (sz : Nat) (h' : zH) : Array Value → State → Outcome → State → Prop := fun _ st oc t =>
  (oc = .returned none ∧ ∃ a', (∀ k, k < h.length ∨ 1000 ≤ k → a' k = a k) ∧ va_P D vwCl (zw a' cA h') t.heap ∧ va_D (va_A (zw a cA h) sz) (zw a' cA h')) ∧ va_F (va_A (zw a cA h) sz) st t
def zConI (l : Launch) (tb : zTb) (d mc ms : Nat) (y : MethodName) (cy : ByteArray) (ml : Nat) (av : List Value) (h h' : zH) : Prop :=
  ∀ (D : va_G) (a : Nat → Nat) (cA : Nat → ClassId) (sz : Nat), Met l y (.code y cy ml none :: wsL_law) { frames := d, cells := mc, slots := ms, locals := 40 * d } (zPreI D a cA tb av h sz) (zPostI D a cA h sz h') mc ms (va_A (zw a cA h) sz)
theorem zNs_warm {s U : State} (hW : s.WarmedH U.vm) (h : zNs s) : zNs U := ⟨va_Nw.warmM hW h.1, va_Nw.warmM hW h.2⟩
theorem zPreI_blind {D : va_G} {a : Nat → Nat} {cA : Nat → ClassId} {tb : zTb} {av : List Value} {h : zH} {sz : Nat} : FrameBlind (zPreI D a cA tb av h sz) := by
  intro b U g mk q
  exact ⟨zPre_blind b U g mk q.1, va_Nw.same rfl (u := U) (U := U.calling g mk b) rfl q.2.1, va_Nw.same rfl (u := U) (U := U.calling g mk b) rfl q.2.2⟩
section ZM
variable {p : Program} {l : Launch} {e : Env} {R : Room} {s : State} {m : MethodId} {args : Array Value} {below : List Frame} {meth : Method} {c : Code} {Q : State → Prop}
variable {D : va_G} {a0 : Nat → Nat} {cA : Nat → ClassId} {tb : zTb} {A : Nat → Prop} {own d nL n0 cells slots : Nat} {cc : ByteArray} {pc : Nat} {lv st : List Value} {h : zH}
theorem zCx_a {a : Nat → Nat} (C : zCx p R s m args c 0 0 D a0 cA tb A own d nL cc) (ha : ∀ k, k < n0 ∨ 1000 ≤ k → a k = a0 k) (h1 : cells ≤ R.cells) (h2 : slots ≤ R.slots) : zCx p R s m args c cells slots D a cA tb A own d nL cc := by
  obtain ⟨c1, c2, c3, c4, c5, c6, c7, -, c9, c10⟩ := C
  exact ⟨c1, c2, c3, c4, c5, c6, zG_a (fun k hk => ha k (Or.inr hk)) c7, ⟨h1, h2⟩, c9, c10⟩
theorem zV_go {cd : zCd} (C : zCx p R s m args c 0 0 D a0 cA tb A own d nL cc) (hcd : ∀ q ∈ cd, ∀ x ∈ q.2, decode cc x.1 = .ok x.2 ∧ zlo x = true) (h1 : cells ≤ R.cells) (h2 : slots ≤ R.slots) : ∀ {n pc pc' : Nat} {lv st lv' st' : List Value} {h h' : zH}, zgo tb (zcall tb d) own 3 cd n pc lv st h = some (pc', lv', st', h') → lv.length = nL → zV p l e R s m args below meth c Q D cA A a0 n0 cells slots pc' lv' st' h' → zV p l e R s m args below meth c Q D cA A a0 n0 cells slots pc lv st h := by
  intro n
  induction n with
  | zero => intro pc pc' lv st lv' st' h h' q _ k; cases q; exact k
  | succ n ih =>
    intro pc pc' lv st lv' st' h h' q hln k a ha H locs ls hI hl
    unfold zgo at q
    cases g1 : zfe cd pc with
    | none => rw [g1] at q; cases q
    | some e1 =>
      obtain ⟨i, len⟩ := e1
      obtain ⟨qz, hz1, hz2⟩ := zfe_mem g1
      obtain ⟨hd, hlo⟩ := hcd qz hz1 _ hz2
      rw [g1] at q
      simp only at q
      cases g2 : zend 3 i st with
      | some v => rw [g2] at q; cases q
      | none =>
        rw [g2] at q
        simp only at q
        cases g3 : zstep tb (zcall tb d) own i len pc lv st h with
        | none => rw [g3] at q; cases q
        | some w =>
          obtain ⟨pc2, lv2, st2, h2'⟩ := w
          rw [g3] at q
          exact zstep_W (zCx_a C ha h1 h2) (fun q av h r h' hc => zcall_W l tb d q av h r h' hc) hd hlo g3 hln hI hl (fun H1 locs1 ls1 hI1 hl1 hln1 => ih q hln1 k a ha H1 locs1 ls1 hI1 hl1)
theorem zV_newa {at' : ArrayType} {ty : FieldType} {tag n : Nat} (C : zCx p R s m args c 0 0 D a0 cA tb A own d nL cc) (hd : decode cc pc = .ok (.newarray at', 2)) (hat : newarray.typeOf at' = ty) (ht : ∀ cA : Nat → ClassId, (zty cA)[tag]? = some (cA tag, ty)) (hw : Cond.arrayClass ty ∈ wsL_law) (h0 : defaultValue ty = .int 0) (hra : ∀ (U : State) (c1 c2 : ClassId), va_RA U c1 ty → va_RA U c2 ty → c1 = c2) (hn : n < 100000) (hby : n * componentBytes ty ≤ 536870912) (hc : cells + 1 ≤ R.cells) (hs : slots + n ≤ R.slots) (hcl : zclo h.length h st lv = true) (hlen : n0 ≤ h.length ∧ h.length < 1000)
    (k : zV p l e R s m args below meth c Q D cA A a0 n0 (cells + 1) (slots + n) (pc + 2) lv (.ref h.length :: st) (h ++ [.inl (tag, n, .inl (fun _ => 0))])) : zV p l e R s m args below meth c Q D cA A a0 n0 cells slots pc lv (.int (nI n) :: st) h := by
  intro a ha H locs ls hI hl
  obtain ⟨hx, hb, hml, hown, hts, hA, hg, -, -, -⟩ := C
  obtain ⟨hP, hD, hS⟩ := hI
  simp only [zclo, Bool.and_eq_true] at hcl
  obtain ⟨⟨cl1, cl2⟩, cl3⟩ := hcl
  refine va_newa (tys := zty cA) (n := nI n) (N' := n) (a0 := (n, .inl (fun _ => 0))) hx hb (by rw [hat]; exact hts _ hw) hat hg.1 hP hD hS hA (fun c1 => by rw [vp_cell_i, h0]) (nI_pos (by omega)) (nI_clamp (by omega)) hby hc hs hd (fun q c1 H1 hK1 hP1 hD1 hS1 => ?_)
  have e3 : (zty cA ++ [(c1, ty)])[3]? = some (c1, ty) := rfl
  have ec : c1 = cA tag := hra s c1 (cA tag) (hK1.2 3 _ e3).2 (hg.1.2 tag _ (ht cA)).2
  subst ec
  have e1 : zw (zax a h.length q) cA (h ++ [.inl (tag, n, .inl (fun _ => 0))]) = zw a cA h ++ [(q, .inl (cA tag, n, .inl (fun _ => 0)))] := by
    rw [zw_push, zw_same (a := a) (n := h.length) (zax_n hlen.2) rfl cl1, zax_s]
    rfl
  have := k (zax a h.length q) (fun j hj => (zax_n hlen.2 j (by omega)).trans (ha j hj)) H1 locs ls ⟨by rw [e1]; exact hP1, by rw [e1]; exact hD1, hS1⟩ (zls_same (a := a) (zax_n hlen.2) hl cl3)
  rw [List.map_cons, zvs_same (a := a) (zax_n hlen.2) cl2] at this
  have e2 : zv (zax a h.length q) (.ref h.length) = .ref q := by
    show Value.ref (zax a h.length q h.length) = _
    rw [zax_s]
  rw [e2] at this
  exact this
theorem zV_new {ci N idx : Nat} {Cn : String} {T : u_T} {ty : Nat → FieldType} {fs : List Value} (C : zCx p R s m args c 0 0 D a0 cA tb A own d nL cc) (hd : decode cc pc = .ok (.new idx, 3)) (hci : vwCl[ci]? = some (Cn, T, N)) (hty : ∀ k, k < N → parseFieldDescriptor (T k).2.2.1 = some (ty k)) (w1 : Cond.classLink (zR own) idx Cn ∈ wsL_law) (w2 : Cond.instantiable Cn N ∈ wsL_law) (w3 : Cond.initialized Cn ∈ wsL_law) (hfs : ∀ j, j < N → defaultValue (ty j) = vp_V fs j) (hz : ∀ a, fs.map (zv a) = fs) (hc : cells + 1 ≤ R.cells) (hs : slots + N ≤ R.slots) (hcl : zclo h.length h st lv = true) (hlen : n0 ≤ h.length ∧ h.length < 1000)
    (k : zV p l e R s m args below meth c Q D cA A a0 n0 (cells + 1) (slots + N) (pc + 3) lv (.ref h.length :: st) (h ++ [.inr (ci, fs)])) : zV p l e R s m args below meth c Q D cA A a0 n0 cells slots pc lv st h := by
  intro a ha H locs ls hI hl
  obtain ⟨hx, hb, hml, hown, hts, hA, hg, -, -, -⟩ := C
  obtain ⟨hP, hD, hS⟩ := hI
  simp only [zclo, Bool.and_eq_true] at hcl
  obtain ⟨⟨cl1, cl2⟩, cl3⟩ := hcl
  refine va_new (ci := ci) (fs := fs) hx hb hts (zcls_in hci) ty hty hown (hts _ w1) (hts _ w2) (hts _ w3) hg.1 hP hD hS hA hci hfs hc hs hd (fun q H1 hP1 hD1 hS1 => ?_)
  have e1 : zw (zax a h.length q) cA (h ++ [.inr (ci, fs)]) = zw a cA h ++ [(q, .inr (ci, fs))] := by
    rw [zw_push, zw_same (a := a) (n := h.length) (zax_n hlen.2) rfl cl1, zax_s]
    show _ ++ [(q, Sum.inr (ci, fs.map (zv (zax a h.length q))))] = _
    rw [hz]
  have := k (zax a h.length q) (fun j hj => (zax_n hlen.2 j (by omega)).trans (ha j hj)) H1 locs ls ⟨by rw [e1]; exact hP1, by rw [e1]; exact hD1, hS1⟩ (zls_same (a := a) (zax_n hlen.2) hl cl3)
  rw [List.map_cons, zvs_same (a := a) (zax_n hlen.2) cl2] at this
  have e2 : zv (zax a h.length q) (.ref h.length) = .ref q := by
    show Value.ref (zax a h.length q h.length) = _
    rw [zax_s]
  rw [e2] at this
  exact this
theorem zV_putF {ci N idx j x q : Nat} {Cn : String} {T : u_T} {ty : FieldType} {fs : List Value} (C : zCx p R s m args c 0 0 D a0 cA tb A own d nL cc) (hnm : meth.name = "<init>") (hd : decode cc pc = .ok (.putfield idx, 3)) (hci : vwCl[ci]? = some (Cn, T, N)) (hj : j < N) (w : Cond.fieldLink (zR own) idx Cn (T j).2.1 (T j).2.2.1 ∈ wsL_law) (hfin : (T j).2.2.2 = true) (hdecl : (T j).1 = zR own) (hcn : (T j).1 = Cn) (hp : parseFieldDescriptor (T j).2.2.1 = some ty) (hn : ∀ x : Nat, narrow ty (.ref x) = .ref x) (hft : ∀ x : Nat, fits ty (.ref x) = true) (ho : zobj h q ci = some fs) (hl' : j < fs.length)
    (k : zV p l e R s m args below meth c Q D cA A a0 n0 cells slots (pc + 3) lv st (h.set q (.inr (ci, fs.set j (.ref x))))) : zV p l e R s m args below meth c Q D cA A a0 n0 cells slots pc lv (.ref x :: .ref q :: st) h := by
  intro a ha H locs ls hI hl
  obtain ⟨hx, hb, hml, hown, hts, hA, hg, -, -, -⟩ := C
  obtain ⟨tys, t1, t2⟩ := zcls_ty hci
  have hwd := zw_at (a := a) (cA := cA) (zobj_ok ho)
  refine va_putF (D := D) (ci := ci) (v := .ref (a x)) (ty := ty) (C := Cn) (T := T) (N := N) (ref := Cn) hx hb hts (zcls_in hci) tys t1 t2 hown hg.1 hI.1 hI.2.1 hI.2.2 q hwd hci j hj (hts _ w) (fun _ h9 => by rw [hcn] at h9; exact h9) hfin hnm hdecl hp (hn _) (hft _) (by rw [List.length_map]; exact hl') hd (fun H1 locs1 hP hD hS => ?_)
  have e1 : (zw a cA h).set q (a q, .inr (ci, (fs.map (zv a)).set j (.ref (a x)))) = zw a cA (h.set q (.inr (ci, fs.set j (.ref x)))) := by
    rw [zw_set]
    simp only [zce, List.map_set, zv]
  rw [e1] at hP hD
  exact k a ha H1 locs1 ls ⟨hP, hD, hS⟩ hl
theorem zV_obj {idx q : Nat} (C : zCx p R s m args c 0 0 D a0 cA tb A own d nL cc) (hln : lv.length = nL) (hd : decode cc pc = .ok (.invokespecial idx, 3)) (w : Cond.methodLink (zR own) idx objectInit ∈ wsL_law) (w2 : Cond.instanceMethod objectInit ∈ wsL_law) (w3 : Cond.code objectInit ⟨#[0xb1]⟩ 1 none ∈ wsL_law) (hst : zsum st ≤ 8)
    (k : zV p l e R s m args below meth c Q D cA A a0 n0 cells slots (pc + 3) lv st h) : zV p l e R s m args below meth c Q D cA A a0 n0 cells slots pc lv (.ref q :: st) h := by
  intro a ha H locs ls hI hl
  obtain ⟨hx, hb, hml, hown, hts, hA, hg, -, hfr, hlo⟩ := C
  exact W.objInit hx hb hown (hts _ w) (hts _ w2) (hts _ w3) rfl (by rw [hml, ← hln]; exact hl.1) rfl hd (by omega) (by
    have := lv_room (m := m) (pc := pc) (ls := ls) (rest := [Value.ref (a q)]) (st := st.map (zv a)) (by rw [zsum_map]; exact hst)
    show 2 * (F0 m pc ls [Value.ref (a q)]).monitorRoom + _ + 12 ≤ R.locals
    omega) (k a ha H locs ls hI hl)
theorem zV_asto {i : Fin 4} {x : Nat} {lv' : List Value} (C : zCx p R s m args c 0 0 D a0 cA tb A own d nL cc) (hln : lv.length = nL) (hd : decode cc pc = .ok (.astore_n i, 1)) (hz : zst1 lv i (.ref x) = some lv')
    (k : zV p l e R s m args below meth c Q D cA A a0 n0 cells slots (pc + 1) lv' st h) : zV p l e R s m args below meth c Q D cA A a0 n0 cells slots pc lv (.ref x :: st) h := by
  intro a ha H locs ls hI hl
  obtain ⟨hx, hb, hml, hown, hts, hA, hg, -, hfr, hlo⟩ := C
  have hi : (i : Nat) < lv.length := by
    unfold zst1 at hz
    split at hz
    · rename_i hc
      simp only [Bool.and_eq_true, decide_eq_true_eq] at hc
      exact hc.2
    · cases hz
  exact lv_astore_n hx hb hd rfl (zls_has hl) hi rfl (fun ls' hl' => k a ha H locs ls' hI (zls_st1 hz hl').1)
end ZM
