/-! MAKING: calls, and a constructor's contract out of its walk. -/
theorem zl_fill {tb : zTb} {cal : zCal} {n k : Nat} {x : Int32} {f : Nat → Int32} (hn : n < 2 ^ 30) (hk : k < 1000) : ∀ c i (h : zH), i + c = n → zarr h k 0 = some (n, fun j => if j < i then x else f j) → zX tb cal 8 0 zk_J7_fill_53178 5 [.ref k, .int x, .int (nI i), .int (nI n)] [] h (none, h.set k (.inl (0, n, .inl (fun j => if j < n then x else f j)))) := by
  intro c
  induction c with
  | zero =>
    intro i h hi hz
    obtain rfl : i = n := by omega
    refine zX_go (c := 3) (pc' := if nI i < nI i then 10 else 20) (lv' := [.ref k, .int x, .int (nI i), .int (nI i)]) (st' := []) (h' := h) rfl ?_
    rw [if_neg (nI_nlt (by omega) (by omega))]
    have e : h.set k (.inl (0, i, .inl (fun j => if j < i then x else f j))) = h := by
      have hk' := zarr_ok hz
      obtain ⟨hl, he⟩ := List.getElem?_eq_some_iff.mp hk'
      rw [← he]
      exact List.set_getElem_self hl
    rw [e]
    exact zX_retv (len := 1) rfl
  | succ c ih =>
    intro i h hi hz
    have hk' := zarr_ok hz
    obtain ⟨hl, he⟩ := List.getElem?_eq_some_iff.mp hk'
    refine zX_go (c := 3) (pc' := if nI i < nI n then 10 else 20) (lv' := [.ref k, .int x, .int (nI i), .int (nI n)]) (st' := []) (h' := h) rfl ?_
    rw [if_pos (nI_lt (by omega) (by omega))]
    refine zX_go (c := 3) (pc' := 13) (lv' := [.ref k, .int x, .int (nI i), .int (nI n)]) (st' := [.int x, .int (nI i), .ref k]) (h' := h) rfl ?_
    have eu : upd (fun j => if j < i then x else f j) i x = fun j => if j < i + 1 then x else f j := by
      funext j
      by_cases c1 : j = i
      · subst c1
        rw [upd_s, if_pos (by omega)]
      · rw [upd_n _ _ c1]
        by_cases c2 : j < i
        · rw [if_pos c2, if_pos (by omega)]
        · rw [if_neg c2, if_neg (by omega)]
    refine zX_ias (A := some ()) (R := ()) (len := 1) (n := n) (k := k) (f := fun j => if j < i then x else f j) (i := nI i) (x := x) (h' := h.set k (.inl (0, n, .inl (fun j => if j < i + 1 then x else f j)))) rfl hz (by rw [zcl (n := i) (by omega), eu]) (by rw [zin_t (show i < n by omega) (by omega)]; rfl) (fun _ => ?_)
    refine zX_go (c := 2) (pc' := 5) (lv' := [.ref k, .int x, .int (nI i + nI 1), .int (nI n)]) (st' := []) (h' := h.set k (.inl (0, n, .inl (fun j => if j < i + 1 then x else f j)))) rfl ?_
    rw [nI_add]
    have := ih (i + 1) (h.set k (.inl (0, n, .inl (fun j => if j < i + 1 then x else f j)))) (by omega) (by
      unfold zarr
      rw [List.getElem?_set_self hl]
      simp)
    rw [List.set_set] at this
    exact this
theorem z_fill {tb : zTb} {d n k : Nat} {x : Int32} {f : Nat → Int32} {h : zH} (hn : n < 2 ^ 30) (hk : k < 1000) (hz : zarr h k 0 = some (n, f)) : zcall tb (d + 1) 147 [.ref k, .int x] h = some (none, h.set k (.inl (0, n, .inl (fun j => if j < n then x else f j)))) := by
  refine zcall_X (d := d) (e := zm_J7_fill_53178) rfl rfl ?_
  show zX tb (zcall tb d) 8 0 zk_J7_fill_53178 0 [.ref k, .int x, .retAddr 0, .retAddr 0] [] h _
  refine zX_go (c := 3) (pc' := 3) (lv' := [.ref k, .int x, .int (nI 0), .retAddr 0]) (st' := [.ref k]) (h' := h) rfl ?_
  refine zX_step (i := .arraylength) (len := 1) (pc' := 4) (lv' := [.ref k, .int x, .int (nI 0), .retAddr 0]) (st' := [.int (nI n)]) (h' := h) rfl rfl ?_ ?_
  · show (match zlenA tb h k with
      | some n => some (3 + 1, [Value.ref k, .int x, .int (nI 0), .retAddr 0], Value.int (Int32.ofNat n) :: [], h)
      | none => none) = _
    have : zlenA tb h k = some n := by
      unfold zlenA
      rw [if_pos hk, zarr_ok hz]
      rfl
    rw [this]
    rfl
  · refine zX_go (c := 1) (pc' := 5) (lv' := [.ref k, .int x, .int (nI 0), .int (nI n)]) (st' := []) (h' := h) rfl ?_
    refine zl_fill hn hk n 0 h (by omega) ?_
    rw [hz]
    congr 2
section ZN
variable {p : Program} {l : Launch} {e : Env} {R : Room} {s : State} {m : MethodId} {args : Array Value} {below : List Frame} {meth : Method} {c : Code} {Q : State → Prop}
variable {D : va_G} {a0 : Nat → Nat} {cA : Nat → ClassId} {tb : zTb} {A : Nat → Prop} {own d nL n0 cells slots : Nat} {cc : ByteArray} {pc : Nat} {lv st : List Value} {h : zH}
theorem zV_fill {idx k n : Nat} {x : Int32} {f : Nat → Int32} (C : zCx p R s m args c 0 0 D a0 cA tb A own (d + 1) nL cc) (hln : lv.length = nL) (hd : decode cc pc = .ok (.invokestatic idx, 3)) (w1 : Cond.methodLink (zR own) idx yJ7_fill_53178 ∈ wsL_law) (w2 : Cond.static yJ7_fill_53178 ∈ wsL_law) (w3 : Cond.initialized RJ7 ∈ wsL_law) (hn : n < 2 ^ 30) (hk : k < 1000) (hz : zarr h k 0 = some (n, f)) (hst : zsum st ≤ 8) (h1 : cells ≤ R.cells) (h2 : slots ≤ R.slots)
    (kk : zV p l e R s m args below meth c Q D cA A a0 n0 cells slots (pc + 3) lv st (h.set k (.inl (0, n, .inl (fun j => if j < n then x else f j))))) : zV p l e R s m args below meth c Q D cA A a0 n0 cells slots pc lv (.int x :: .ref k :: st) h := by
  intro a ha H locs ls hI hl
  have C0 := zCx_a C ha h1 h2
  obtain ⟨hx, hb, hml, hown, hts, hA, hg, hcs, hfr, hlc⟩ := id C0
  obtain ⟨p1, p2, p3, p4, p5, p6, p7⟩ := zp_J7_fill_53178
  have hM := zcall_W l tb (d + 1) 147 _ _ _ _ (z_fill (d := d) (x := x) hn hk hz) zm_J7_fill_53178 rfl D a cA H.size
  have hgood : GoodIn wsL_law (va_wsS (zR own) idx yJ7_fill_53178 (zws zm_J7_fill_53178)) := zgoodIn fun w hw => by
    unfold va_wsS at hw
    rcases List.mem_append.mp hw with hw | hw
    · simp only [List.mem_cons, List.not_mem_nil, or_false] at hw
      rcases hw with rfl | rfl | rfl
      · exact w1
      · exact w2
      · exact w3
    · unfold zws at hw
      rcases List.mem_cons.mp hw with rfl | hw
      · exact p2
      · exact hw
  have hrun := va_runS (l := l) (e := e) (R := R) (below := below) (meth := meth) (locs := locs) (cells := cells) (slots := slots) (g := F0 m pc ls ((Value.int x :: .ref k :: st).map (zv a))) (As := [.ref (a k), .int x]) (rest := st.map (zv a)) ⟨hx, hb, hml, hown, hts⟩ hM (va_cwS 2 hts hgood rfl rfl rfl ⟨p6.1, p6.2, by decide +kernel⟩ ⟨hfr, by
      show 8 + (4 + 11) + 40 * (d + 1) ≤ R.locals
      omega⟩) ⟨zPre_blind, fun U hU hW => za_pre (av := [.ref k, .int x]) C0 hI U hU hW⟩ rfl rfl (by rw [← hln]; exact hl.1) rfl (lv_room (by rw [zsum_map]; exact hst)) hd ⟨hcs.1, hcs.2⟩
  exact za_call hrun hI.2.2 (za_free hI hA) (za_free hI hA) (fun H1 locs1 hI1 => kk a ha H1 locs1 ls hI1 hl)
/-- a constructor is called -/
theorem zV_call {k mc ms : Nat} {As : List Value} {h' : zH} (C : zCx p R s m args c 0 0 D a0 cA tb A own d nL cc) (hN : zNs s) (h1 : cells ≤ R.cells) (h2 : slots ≤ R.slots) (hcl : zclo h.length h st lv = true) (hlen : n0 ≤ h.length)
    (hr : ∀ (a : Nat → Nat) (H : Heap) (locs : List Loc) (ls : Array Slot), ls.size = lv.length → PreS s H (zPreI D a cA tb (.ref k :: As) h H.size) (.ref (a k) :: As.map (zv a)) → va_Run p l e R s m args below meth c H locs cells slots mc ms (F0 m pc ls ((As.reverse ++ .ref k :: st).map (zv a))) (st.map (zv a)) (zPostI D a cA h H.size h' (Value.ref (a k) :: As.map (zv a)).toArray) (va_A (zw a cA h) H.size))
    (kk : zV p l e R s m args below meth c Q D cA A a0 n0 (cells + mc) (slots + ms) (pc + 3) lv st h') : zV p l e R s m args below meth c Q D cA A a0 n0 cells slots pc lv (As.reverse ++ .ref k :: st) h := by
  intro a ha H locs ls hI hl
  have C0 := zCx_a C ha h1 h2
  obtain ⟨hx, hb, hml, hown, hts, hA, hg, hcs, hfr, hlc⟩ := id C0
  simp only [zclo, Bool.and_eq_true] at hcl
  obtain ⟨⟨cl1, cl2⟩, cl3⟩ := hcl
  have hF := za_free hI hA
  have hrun := hr a H locs ls hl.1 ⟨zPreI_blind, fun U hU hW => ⟨za_pre (av := .ref k :: As) C0 hI U hU hW, zNs_warm hW hN⟩⟩
  intro T hT X
  obtain ⟨v, st₀, t, T', L, g0, X', hL, e1, e2, ⟨⟨hv, a', g1, g2, g3⟩, hz, hk⟩, st'⟩ := hrun T hT X
  cases hv
  rw [g0] at hz hk
  have hS := hI.2.2
  have := kk a' (fun j hj => (g1 j (by omega)).trans (ha j hj)) T'.heap (locs ++ L) ls ⟨by rw [e1]; exact g2, g3.weaken (fun _ _ _ z => hF _ z), Nat.le_trans hS.1 (by rw [e1]; exact hz), fun q z1 z2 => by rw [e1, hk q (Nat.lt_of_lt_of_le z1 hS.1) (fun z => z2 (hF q z))]; exact hS.2.1 q z1 z2, fun q hq => by
      rcases List.mem_append.mp hq with h | h
      · exact hS.2.2 q h
      · exact hF _ (hL q h)⟩ (zls_same (a := a) g1 hl cl3)
  rw [zvs_same (a := a) g1 cl2] at this
  obtain ⟨t2, a1, b1⟩ := this T' rfl X'
  exact ⟨t2, st' t2 a1, b1⟩
theorem zV_init {idx k dc mc ms ml : Nat} {y : MethodName} {cy : ByteArray} {As : List Value} {h' : zH} (C : zCx p R s m args c 0 0 D a0 cA tb A own d nL cc) (hN : zNs s) (hln : lv.length = nL) (hd : decode cc pc = .ok (.invokespecial idx, 3)) (hM : zConI l tb dc mc ms y cy ml (.ref k :: As) h h') (w1 : Cond.methodLink (zR own) idx y ∈ wsL_law) (w2 : Cond.instanceMethod y ∈ wsL_law) (w3 : Cond.initialized y.cls ∈ wsL_law) (w4 : Cond.code y cy ml none ∈ wsL_law) (hy : y.name = "<init>") (hp : y.cls ≠ "java/lang/invoke/MethodHandle" ∧ y.cls ≠ "java/lang/invoke/VarHandle" ∧ (parseMethodDescriptor y.desc).map (fun d => d.parameters.length) = some As.length) (hdc : dc ≤ d) (hml' : ml ≤ 20) (h1 : cells + mc ≤ R.cells) (h2 : slots + ms ≤ R.slots) (hst : zsum st ≤ 8) (hcl : zclo h.length h st lv = true) (hlen : n0 ≤ h.length)
    (kk : zV p l e R s m args below meth c Q D cA A a0 n0 (cells + mc) (slots + ms) (pc + 3) lv st h') : zV p l e R s m args below meth c Q D cA A a0 n0 cells slots pc lv (As.reverse ++ .ref k :: st) h := by
  obtain ⟨hx, hb, hml, hown, hts, hA, hg, hcs, hfr, hlc⟩ := id C
  have hgood : GoodIn wsL_law (.code y cy ml none :: wsL_law) := zgoodIn fun w hw => by
    rcases List.mem_cons.mp hw with rfl | hw
    · exact w4
    · exact hw
  refine zV_call C hN (by omega) (by omega) hcl hlen (fun a H locs ls hs hpre => ?_) kk
  exact va_runI (l := l) (e := e) (R := R) (below := below) (meth := meth) (locs := locs) (cells := cells) (slots := slots) (g := F0 m pc ls ((As.reverse ++ .ref k :: st).map (zv a))) (As := As.map (zv a)) (rest := st.map (zv a)) ⟨hx, hb, hml, hown, hts⟩ (hM D a cA H.size) (cwI As.length hts hgood rfl rfl rfl (hts _ w3) (hts _ w1) (hts _ w2) hy hp ⟨by show dc + 1 ≤ R.frames; omega, by show 8 + (ml + 11) + 40 * dc ≤ R.locals; omega⟩) hpre rfl (by rw [List.length_map]) (by rw [← hln]; exact hs) (by
    show (As.reverse ++ .ref k :: st).map (zv a) = _
    rw [List.map_append, List.map_reverse]
    rfl) (lv_room (by rw [zsum_map]; exact hst)) hd ⟨h1, h2⟩
theorem zV_initN {idx k dc mc ms ml : Nat} {y : MethodName} {cy : ByteArray} {As : List Value} {h' : zH} (C : zCx p R s m args c 0 0 D a0 cA tb A own d nL cc) (hN : zNs s) (hln : lv.length = nL) (hd : decode cc pc = .ok (.invokespecial idx, 3)) (hM : zConI l tb dc mc ms y cy ml (.ref k :: As) h h') (w1 : va_Nw (.methodLinkNest (zR own) idx y RX5) s) (w2 : Cond.instanceMethod y ∈ wsL_law) (w3 : Cond.initialized y.cls ∈ wsL_law) (w4 : Cond.code y cy ml none ∈ wsL_law) (hy : y.name = "<init>") (hp : y.cls ≠ "java/lang/invoke/MethodHandle" ∧ y.cls ≠ "java/lang/invoke/VarHandle" ∧ (parseMethodDescriptor y.desc).map (fun d => d.parameters.length) = some As.length) (hdc : dc ≤ d) (hml' : ml ≤ 20) (h1 : cells + mc ≤ R.cells) (h2 : slots + ms ≤ R.slots) (hst : zsum st ≤ 8) (hcl : zclo h.length h st lv = true) (hlen : n0 ≤ h.length)
    (kk : zV p l e R s m args below meth c Q D cA A a0 n0 (cells + mc) (slots + ms) (pc + 3) lv st h') : zV p l e R s m args below meth c Q D cA A a0 n0 cells slots pc lv (As.reverse ++ .ref k :: st) h := by
  obtain ⟨hx, hb, hml, hown, hts, hA, hg, hcs, hfr, hlc⟩ := id C
  have hgood : GoodIn wsL_law (.code y cy ml none :: wsL_law) := zgoodIn fun w hw => by
    rcases List.mem_cons.mp hw with rfl | hw
    · exact w4
    · exact hw
  refine zV_call C hN (by omega) (by omega) hcl hlen (fun a H locs ls hs hpre => ?_) kk
  exact va_runIN (l := l) (e := e) (R := R) (below := below) (meth := meth) (locs := locs) (cells := cells) (slots := slots) (g := F0 m pc ls ((As.reverse ++ .ref k :: st).map (zv a))) (As := As.map (zv a)) (rest := st.map (zv a)) ⟨hx, hb, hml, hown, hts⟩ (hM D a cA H.size) ⟨va_cnB As.length hts hgood rfl rfl rfl w1 (hts _ w3) hp ⟨by show dc + 1 ≤ R.frames; omega, by show 8 + (ml + 11) + 40 * dc ≤ R.locals; omega⟩, hy, hts _ w2⟩ hpre rfl (by rw [List.length_map]) (by rw [← hln]; exact hs) (by
    show (As.reverse ++ .ref k :: st).map (zv a) = _
    rw [List.map_append, List.map_reverse]
    rfl) (lv_room (by rw [zsum_map]; exact hst)) hd ⟨h1, h2⟩
end ZN
/-- a constructor's contract out of its walk -/
theorem zConI_of {l : Launch} {tb : zTb} {own d nL mc ms : Nat} {y : MethodName} {cc : ByteArray} {av : List Value} {h h' : zH} (hpn : plainName y.cls = true) (hcls : y.cls = zR own) (hy : y.name = "<init>") (hav : zavok av nL = true)
    (k : ∀ {p : Program} {e : Env} {R : Room} {s : State} {m : MethodId} {args : Array Value} {below : List Frame} {meth : Method} {c : Code} {Q : State → Prop} {D : va_G} {a0 : Nat → Nat} {cA : Nat → ClassId} {A : Nat → Prop}, zCx p R s m args c 0 0 D a0 cA tb A own d nL cc → zNs s → meth.name = "<init>" → R.cells = mc → R.slots = ms →
      (∀ (pc : Nat) (lv : List Value), decode cc pc = .ok (.return_, 1) → zV p l e R s m args below meth c Q D cA A a0 h.length mc ms pc lv [] h') → zV p l e R s m args below meth c Q D cA A a0 h.length 0 0 0 (zent av nL) [] h) : zConI l tb (d + 1) mc ms y cc nL av h h' := by
  intro D a cA sz
  refine Met.ofW (cc := cc) (maxL := nL) (ret := none) hpn rfl ?_
  intro p env s m args below meth c s₁ B hml hv
  obtain ⟨⟨rfl, hsz, hP, hD0, hG⟩, hN⟩ := hv
  subst hsz
  have hts := atoms_spec (ws := .code y cc nL none :: wsL_law) B.pre
  have hown : s.vm.findClass (zR own) = some m.cls := by rw [← hcls]; exact findClass_of_methodNamed B.named
  have hin : meth.name = "<init>" := (name_of_methodNamed B.named B.method).1.trans hy
  have hlocks := B.notSynchronized
  have hr := B.returns
  have ha0 := hav
  unfold zavok at ha0
  simp only [Bool.and_eq_true, decide_eq_true_eq] at ha0
  have hall : av.all (fun v => !(zc2 v) && zkn v) = true := by simpa only [Bool.and_eq_true, Bool.not_eq_true'] using ha0.2
  have hlen := zsl_len (a := a) hall
  have hl := lv_entry (av.map (zv a)) (n := nL) (by rw [hlen]; exact ha0.1)
  rw [lg_entry_eq]
  generalize (lg_sl (av.map (zv a)) ++ List.replicate (nL - (lg_sl (av.map (zv a))).length) Slot.unset).toArray = ls at hl ⊢
  have C0 : zCx p (headSpec (.code y cc nL none :: wsL_law) { frames := d + 1, cells := mc, slots := ms, locals := 40 * (d + 1) }).room s m (av.map (zv a)).toArray c 0 0 D a cA tb (va_A (zw a cA h) s.heap.size) own d nL cc :=
    ⟨B.exec, B.bytes, hml, hown, fun w hw => hts w (List.mem_cons_of_mem _ hw), fun q h => Or.inr h, hG, ⟨Nat.zero_le _, Nat.zero_le _⟩, Nat.le_refl _, Nat.le_refl _⟩
  refine k (Q := MQ below (zPostI D a cA h s.heap.size h') (av.map (zv a)).toArray s mc ms (va_A (zw a cA h) s.heap.size)) C0 hN hin rfl rfl ?_ a (fun _ _ => rfl) s.heap [] ls ⟨hP, hD0.self, va_S.rf⟩ (zls_ent hav hl)
  intro pc lv hd a' ha' H locs ls' hI hl'
  exact W.vret B.exec B.bytes hr (fun t ht hW => ⟨⟨rfl, a', ha', by rw [ht]; exact hI.1, hI.2.1⟩, hI.2.2.F ht⟩) hI.2.2.2.2 hd
