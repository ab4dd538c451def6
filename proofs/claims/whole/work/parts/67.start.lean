/-! THE START, by program (gen5.py): what the two constructors leave is as the invariant asks; the law's first instructions; whole_start. -/
def zs0 : zS := fun r => match r with
  | 8 => fun j => if j < 12 then (-1) else 0
  | 9 => fun j => if j < 12 then (-1) else 0
  | 15 => fun j => if j < 60 then (-1) else 0
  | 24 => fun j => if j < 500 then (-1) else 0
  | _ => fun _ => 0
def zt0 : zS := fun r => match r with
  | 4 => (upd (upd (upd (upd (upd (upd (upd (upd (upd (upd (upd (upd (fun _ => 0) 0 (-1)) 1 (-1)) 2 (-1)) 3 (-1)) 4 (-1)) 5 (-1)) 6 (-1)) 7 (-1)) 8 (-1)) 9 (-1)) 10 (-1)) 11 (-1))
  | 5 => (upd (upd (upd (upd (upd (upd (upd (upd (upd (upd (upd (upd (fun _ => 0) 0 (-1)) 1 (-1)) 2 (-1)) 3 (-1)) 4 (-1)) 5 (-1)) 6 (-1)) 7 (-1)) 8 (-1)) 9 (-1)) 10 (-1)) 11 (-1))
  | _ => fun _ => 0
theorem zt0_4 : ∀ j, j < 12 → zt0 4 j = -1 := by decide
theorem zt0_5 : ∀ j, j < 12 → zt0 5 j = -1 := by decide
theorem iv0 : Iv zs0 zt0 := by
  have en0 : ∀ j, enn (zt0 6) j = 0 := fun _ => rfl
  have ed0 : ∀ j c, ¬ edg (zt0 6) (zt0 8) j c := fun j c ⟨e, he, _⟩ => absurd he (by rw [en0]; omega)
  refine ⟨0, 0, 0, 0, ?_, ?_, ?_, ?_, ?_, ?_, ?_, ?_, ?_, ?_, ?_, ?_⟩
  · exact ⟨by omega, rfl, rfl, fun _ _ => rfl, fun _ _ => rfl, fun _ _ => rfl, fun _ _ => rfl, fun j hj => (if_pos hj).trans (zt0_4 j hj).symm, fun j hj => (if_pos hj).trans (zt0_5 j hj).symm, fun _ _ => rfl, fun _ _ => rfl, fun _ _ => rfl⟩
  · exact ⟨fun j hj => ⟨0, by omega, rfl⟩, fun j _ hj => ⟨rfl, zt0_4 j hj, zt0_5 j hj⟩, fun j hj => Or.inl (zt0_4 j hj), fun j hj => Or.inl (zt0_5 j hj), fun j e hj => absurd hj (by omega), fun j e e' hj => absurd hj (by omega), fun a b c d _ _ _ _ z => ed0 a b z.1⟩
  · exact ⟨⟨fun _ => 0, fun j hj => ⟨rfl, by show (0 : Nat) < 4096; decide, fun c hc => ⟨fun z => absurd z (by simp), fun z => absurd z (ed0 j c)⟩⟩⟩, fun j hj => Or.inr ⟨rfl, fun x hx => absurd hx (by omega)⟩, fun j hj => Or.inr ⟨rfl, fun x hx => absurd hx (by omega)⟩⟩
  · exact ⟨by omega, rfl, rfl, fun _ _ => rfl, fun _ _ => rfl, fun j hj => absurd hj (by omega)⟩
  · exact ⟨by omega, rfl, rfl, fun _ _ => rfl, fun _ _ => rfl, fun _ _ => rfl, fun j hj => absurd hj (by omega), fun j _ hj => if_pos hj, fun j hj => absurd hj (by omega), fun _ _ _ => rfl⟩
  · exact fun x hx => absurd hx (by omega)
  · exact ⟨fun j e hj => absurd hj (by omega), fun j e hj _ he => if_pos (by omega)⟩
  · exact ⟨Nat.zero_le _, rfl, rfl, fun j hj => absurd hj (by omega), fun j hj => absurd hj (by omega), fun k hk => absurd hk (by omega)⟩
  · exact ⟨fun _ _ => rfl, rfl⟩
  · exact ⟨0, by omega, rfl, rfl, fun j hj => absurd hj (by omega)⟩
  · refine ⟨fun j hj => ⟨0, by omega, rfl⟩, fun j c hj hc z => ?_⟩
    rw [zt0_4 j hj] at z
    exact absurd z.symm (nI_m1 (by omega))
  · exact fun q j => Nat.zero_le _
def zpl : List Nat := [0, 1, 21, 15, 24, 28, 32, 31, 2, 3, 4, 5, 6, 7, 8, 9, 10, 11, 12, 13, 14, 22, 23, 16, 17, 18, 19, 20, 25, 26, 27, 29, 30, 33, 34, 35, 36, 37, 38, 39, 40, 41, 42, 43, 44, 45, 46, 47, 48, 49, 50, 51, 52, 53, 54, 55, 56, 57, 58, 59]
def zpi (k : Nat) : Nat := zpl.getD k k
def zpm : zE → zE
  | .inl x => .inl x
  | .inr o => .inr (o.1, o.2.map (zv zpi))
theorem zpm_c (a : Nat → Nat) (cA : Nat → ClassId) (e : zE) : zce a cA (zpm e) = zce (fun k => a (zpi k)) cA e := by
  cases e with
  | inl x => rfl
  | inr o =>
    show Sum.inr (o.1, (o.2.map (zv zpi)).map (zv a)) = Sum.inr (o.1, o.2.map (zv (fun k => a (zpi k))))
    rw [List.map_map]
    congr 2
    apply List.map_congr_left
    intro v _
    cases v <;> rfl
set_option maxRecDepth 100000 in
set_option maxHeartbeats 8000000 in
theorem law_pm : zpl.map (fun i => zh_X6_b[i]?) = (zHp zs0 zt0).map (fun e => some (zpm e)) := rfl
theorem law_w (a : Nat → Nat) (cA : Nat → ClassId) : zpl.map (fun i => (zw a cA zh_X6_b)[i]?) = (zw (fun k => a (zpi k)) cA (zHp zs0 zt0)).map some := by
  apply List.ext_getElem?
  intro k
  have h := congrArg (fun l => l[k]?) law_pm
  simp only [List.getElem?_map] at h ⊢
  cases hz : (zHp zs0 zt0)[k]? with
  | none =>
    rw [hz] at h
    cases hp : zpl[k]? with
    | none => simp [zw, hz]
    | some i =>
      rw [hp] at h
      cases h
  | some e =>
    rw [hz] at h
    cases hp : zpl[k]? with
    | none =>
      rw [hp] at h
      cases h
    | some i =>
      rw [hp] at h
      have h : zh_X6_b[i]? = some (zpm e) := Option.some.inj h
      have hi : zpi k = i := by
        unfold zpi
        rw [List.getD_eq_getElem?_getD, hp]
        rfl
      rw [Option.map_some, zw_at h, zw_at hz, zpm_c]
      show some (some (a i, _)) = some (some (a (zpi k), _))
      rw [hi]
theorem law_f {α : Type} : ∀ {l : List Nat} {f : Nat → Option α} {ws : List α}, l.map f = ws.map some → l.filterMap f = ws
  | [], f, ws, h => by
    cases ws with
    | nil => rfl
    | cons w ws => cases h
  | k :: l, f, ws, h => by
    cases ws with
    | nil => cases h
    | cons w ws =>
      rw [List.map_cons, List.map_cons] at h
      obtain ⟨h1, h2⟩ := List.cons.inj h
      rw [List.filterMap_cons, h1, law_f h2]
theorem law_world {D : va_G} {a : Nat → Nat} {cA : Nat → ClassId} {A : Nat → Prop} {s : State} {H : Heap} {locs : List Loc} (hI : zIv D a cA A s zh_X6_b H locs) : zIv D (fun k => a (zpi k)) cA A s (zHp zs0 zt0) H locs :=
  ⟨hI.1.sub zpl (law_f (law_w a cA)), hI.2.1.sub zpl (by decide +kernel) (law_w a cA), hI.2.2⟩
def zk_L_pre : zCd := [(18, [(3, .dup, 1), (11, .dup, 1), (16, .iconst 0, 1), (17, .istore_n 3, 1)])]
theorem zkd_L_pre : ∀ q ∈ zk_L_pre, ∀ e ∈ q.2, decode cL_law e.1 = .ok e.2 ∧ zlo e = true := by decide +kernel
theorem zd_L_0 : decode cL_law 0 = .ok (.new 7, 3) := by decide +kernel
theorem zd_L_4 : decode cL_law 4 = .ok (.invokespecial 9, 3) := by decide +kernel
theorem zd_L_7 : decode cL_law 7 = .ok (.astore_n 1, 1) := by decide +kernel
theorem zd_L_8 : decode cL_law 8 = .ok (.new 10, 3) := by decide +kernel
theorem zd_L_12 : decode cL_law 12 = .ok (.invokespecial 12, 3) := by decide +kernel
theorem zd_L_15 : decode cL_law 15 = .ok (.astore_n 2, 1) := by decide +kernel
set_option maxRecDepth 100000 in
set_option maxHeartbeats 8000000 in
theorem law_pre {p : Program} {l : Launch} {e : Env} {R : Room} {s : State} {m : MethodId} {args : Array Value} {below : List Frame} {meth : Method} {c : Code} {Q : State → Prop} {D : va_G} {a0 : Nat → Nat} {cA : Nat → ClassId} {A : Nat → Prop} {tb : zTb} (C : zCx p R s m args c 0 0 D a0 cA tb A 7 30 4 cL_law) (hN : zNs s) (hRc : R.cells = 600000) (hRs : R.slots = 7302250)
    (k : zV p l e R s m args below meth c Q D cA A a0 0 60 9429 18 [.ref 1001, .ref 0, .ref 32, .int (nI 0)] [] zh_X6_b) : zV p l e R s m args below meth c Q D cA A a0 0 0 0 0 [.ref 1001, .retAddr 0, .retAddr 0, .retAddr 0] [] [] := by
  refine zV_new (ci := 5) (ty := tyX5) (fs := [.null, .null, .null, .null, .null, .null, .int 0]) C zd_L_0 rfl tyX5_ok (List.mem_of_getElem? (i := 0) rfl) (List.mem_of_getElem? (i := 1) rfl) (List.mem_of_getElem? (i := 2) rfl) (by decide) (fun _ => rfl) (by rw [hRc]; decide) (by rw [hRs]; decide) rfl ⟨by decide, by decide⟩ ?_
  refine zV_eq (st' := [.ref 0]) (h' := zh_X5_a) rfl rfl ?_
  refine zV_go (n := 1) (pc' := 4) (lv' := [.ref 1001, .retAddr 0, .retAddr 0, .retAddr 0]) (st' := [.ref 0, .ref 0]) (h' := zh_X5_a) C zkd_L_pre (by rw [hRc]; decide) (by rw [hRs]; decide) rfl rfl ?_
  refine zV_init (k := 0) (As := []) (st := [.ref 0]) C hN rfl zd_L_4 (c_X5_init l tb) (List.mem_of_getElem? (i := 6) rfl) (List.mem_of_getElem? (i := 7) rfl) (List.mem_of_getElem? (i := 2) rfl) (List.mem_of_getElem? (i := 8) rfl) rfl (by decide +kernel) (by decide) (by decide) (by rw [hRc]; decide) (by rw [hRs]; decide) (by decide) rfl (by decide) ?_
  refine zV_asto (lv' := [.ref 1001, .ref 0, .retAddr 0, .retAddr 0]) C rfl zd_L_7 rfl ?_
  refine zV_new (ci := 6) (ty := tyX6) (fs := [.int 0, .null, .null, .null, .null, .null, .null, .null, .null, .null, .null, .null, .int 0, .null, .null, .int 0, .null, .null, .null, .null, .null, .int 0, .null, .int 0, .null, .null, .null, .int 0, .null, .int 0, .null, .null, .int 0, .null, .null]) C zd_L_8 rfl tyX6_ok (List.mem_of_getElem? (i := 3) rfl) (List.mem_of_getElem? (i := 4) rfl) (List.mem_of_getElem? (i := 5) rfl) (by decide) (fun _ => rfl) (by rw [hRc]; decide) (by rw [hRs]; decide) rfl ⟨by decide, by decide⟩ ?_
  refine zV_eq (st' := [.ref 32]) (h' := zh_X6_a) rfl rfl ?_
  refine zV_go (n := 1) (pc' := 12) (lv' := [.ref 1001, .ref 0, .retAddr 0, .retAddr 0]) (st' := [.ref 32, .ref 32]) (h' := zh_X6_a) C zkd_L_pre (by rw [hRc]; decide) (by rw [hRs]; decide) rfl rfl ?_
  refine zV_init (k := 32) (As := []) (st := [.ref 32]) C hN rfl zd_L_12 (c_X6_init l tb) (List.mem_of_getElem? (i := 95) rfl) (List.mem_of_getElem? (i := 96) rfl) (List.mem_of_getElem? (i := 5) rfl) (List.mem_of_getElem? (i := 97) rfl) rfl (by decide +kernel) (by decide) (by decide) (by rw [hRc]; decide) (by rw [hRs]; decide) (by decide) rfl (by decide) ?_
  refine zV_asto (lv' := [.ref 1001, .ref 0, .ref 32, .retAddr 0]) C rfl zd_L_15 rfl ?_
  refine zV_go (n := 2) (pc' := 18) (lv' := [.ref 1001, .ref 0, .ref 32, .int (nI 0)]) (st' := []) (h' := zh_X6_b) C zkd_L_pre (by rw [hRc]; decide) (by rw [hRs]; decide) rfl rfl ?_
  exact k
theorem law_arr {s : State} {args : Array Value} {ty : FieldType} (h : (Cond.arrayClass ty).before args s = true) : ∃ cA : ClassId, ArrOfT s cA ty ∧ s.vm.findClass ("[" ++ ty.toString) = some cA := by
  obtain ⟨c, k, comp, h1, h2, h3⟩ := Cond.arrayClass_spec h
  exact ⟨c, fun n z => ⟨fun k h => (by cases h), k, h2, comp, h3⟩, h1⟩
set_option maxRecDepth 100000 in
set_option maxHeartbeats 8000000 in
theorem law_zG {s : State} {b L : Nat} {xs : Nat → Int32} (hL : L ≤ 2560) (htl : ∀ w ∈ lw_tbl, w.before #[Value.ref b] s = true) (hX : va_X b L xs s s.heap) (hbl : b < s.heap.size) (hgv : (Jvm.Cond.and given_1 narrow_1).before #[Value.ref b] s = true) : ∃ (D : va_G) (a : Nat → Nat) (cA : Nat → ClassId), a 1001 = b ∧ zG D a cA (ztb L xs) (fun q => s.heap.size ≤ q) s s.heap := by
  have hts : ∀ w ∈ wsL_law, w.before #[Value.ref b] s = true := fun w hw => htl w (wsL_law_in w hw)
  obtain ⟨c0, i0, hk0⟩ := u_known hts inlX0 (hts _ (List.mem_of_getElem? (i := 13) rfl))
  obtain ⟨c1, i1, hk1⟩ := u_known hts inlX1 (hts _ (List.mem_of_getElem? (i := 21) rfl))
  obtain ⟨c2, i2, hk2⟩ := u_known hts inlX2 (hts _ (List.mem_of_getElem? (i := 25) rfl))
  obtain ⟨c3, i3, hk3⟩ := u_known hts inlX3 (hts _ (List.mem_of_getElem? (i := 16) rfl))
  obtain ⟨c4, i4, hk4⟩ := u_known hts inlX4 (hts _ (List.mem_of_getElem? (i := 29) rfl))
  obtain ⟨c5, i5, hk5⟩ := u_known hts inlX5 (hts _ (List.mem_of_getElem? (i := 1) rfl))
  obtain ⟨c6, i6, hk6⟩ := u_known hts inlX6 (hts _ (List.mem_of_getElem? (i := 4) rfl))
  obtain ⟨ca0, ha0, hf0⟩ := law_arr (ty := .int) (hts _ (List.mem_of_getElem? (i := 32) rfl))
  obtain ⟨ca1, ha1, hf1⟩ := law_arr (ty := .boolean) (hts _ (List.mem_of_getElem? (i := 42) rfl))
  obtain ⟨ca2, ha2, hf2⟩ := law_arr (ty := .byte) (hts _ (List.mem_of_getElem? (i := 87) rfl))
  have hA : ∀ a : Nat, a < s.heap.size → ¬ (s.heap.size ≤ a) := fun a h => by omega
  have hs := flat_of_before _ hgv
  have e0 : (Term.elem (.static "MarkRules" "FITTING_TARGETS" "[I") (.int 0)).eval #[Value.ref b] s none [] s = some (.int 1) := va_eqt (hs _ (by decide +kernel))
  have e1 : (Term.elem (.static "MarkRules" "FITTING_TARGETS" "[I") (.int 1)).eval #[Value.ref b] s none [] s = some (.int 1) := va_eqt (hs _ (by decide +kernel))
  have e2 : (Term.elem (.static "MarkRules" "FITTING_TARGETS" "[I") (.int 2)).eval #[Value.ref b] s none [] s = some (.int 18) := va_eqt (hs _ (by decide +kernel))
  have e3 : (Term.elem (.static "MarkRules" "FITTING_TARGETS" "[I") (.int 3)).eval #[Value.ref b] s none [] s = some (.int 20) := va_eqt (hs _ (by decide +kernel))
  have e4 : (Term.elem (.static "MarkRules" "FITTING_TARGETS" "[I") (.int 4)).eval #[Value.ref b] s none [] s = some (.int 4) := va_eqt (hs _ (by decide +kernel))
  have e5 : (Term.elem (.static "MarkRules" "FITTING_TARGETS" "[I") (.int 5)).eval #[Value.ref b] s none [] s = some (.int 24) := va_eqt (hs _ (by decide +kernel))
  have elen : (Term.length (.static "MarkRules" "FITTING_TARGETS" "[I")).eval #[Value.ref b] s none [] s = some (.int 6) := va_eqt (hs _ (by decide +kernel))
  obtain ⟨t, ht, hT⟩ := va_Tof (ty := .int) (N := 6) (f := fun j => .int (zft j)) (A := fun q => s.heap.size ≤ q) (by decide) (hs (Cond.arrayOf (.static "MarkRules" "FITTING_TARGETS" "[I") .int) (by decide +kernel)) elen (fun j hj => by
    rcases (show j = 0 ∨ j = 1 ∨ j = 2 ∨ j = 3 ∨ j = 4 ∨ j = 5 by omega) with rfl | rfl | rfl | rfl | rfl | rfl
    · exact e0
    · exact e1
    · exact e2
    · exact e3
    · exact e4
    · exact e5) hA
  have hZ : va_Z RX5 "FITTING_TARGETS" "[I" (.ref t) (fun q => s.heap.size ≤ q) s s.heap := va_Zof (htl (.laysStatic "MarkRules" "FITTING_TARGETS" "[I") (by decide +kernel)) (hts _ (List.mem_of_getElem? (i := 2) rfl)) ht hA
  have hNw : va_Nw (.fieldLinkNest RX1 35 RX5 "FITTING_TARGETS" "[I" RX5) s := va_Nw.of rfl (htl (.fieldLinkNest "MarkRules$Places" 35 "MarkRules" "FITTING_TARGETS" "[I" "MarkRules") (by decide +kernel))
  refine ⟨(fun k => match k with
    | 0 => c0
    | 1 => c1
    | 2 => c2
    | 3 => c3
    | 4 => c4
    | 5 => c5
    | _ => c6, fun k => match k with
    | 0 => i0
    | 1 => i1
    | 2 => i2
    | 3 => i3
    | 4 => i4
    | 5 => i5
    | _ => i6), fun k => if k = 1000 then t else b, fun k => match k with
    | 0 => ca0
    | 1 => ca1
    | _ => ca2, if_neg (by decide), ⟨fun k q hq => ?_, fun k q hq => ?_⟩, fun k n f hk => ?_, ?_, hNw⟩
  · match k, hq with
    | 0, hq => cases hq; exact hk0
    | 1, hq => cases hq; exact hk1
    | 2, hq => cases hq; exact hk2
    | 3, hq => cases hq; exact hk3
    | 4, hq => cases hq; exact hk4
    | 5, hq => cases hq; exact hk5
    | 6, hq => cases hq; exact hk6
    | k + 7, hq => simp [vwCl] at hq
  · match k, hq with
    | 0, hq => cases hq; exact ⟨ha0, hf0⟩
    | 1, hq => cases hq; exact ⟨ha1, hf1⟩
    | 2, hq => cases hq; exact ⟨ha2, hf2⟩
    | k + 3, hq => simp [zty] at hq
  · match k, hk with
    | 0, hk =>
      cases hk
      exact hT
    | 1, hk =>
      cases hk
      obtain ⟨scr, g1, g2, g3, g4, g5⟩ := hX
      exact ⟨scr, g1, g2, g3, by omega, by rw [g4], g5, hA b hbl⟩
    | k + 2, hk => cases hk
  · exact hZ
set_option maxRecDepth 100000 in
set_option maxHeartbeats 8000000 in
theorem whole_start {p : Program} {e : Env} {s : State} {m : MethodId} {below : List Frame} {meth : Method} {c : Code} (l : Launch) {b L : Nat} {xs : Nat → Int32} (hL : L ≤ 2560) (C0 : lw_At p s m meth c b L xs) : W p l e room_1 s m #[Value.ref b] below meth c s.heap [] 0 0 (lw_Z below #[Value.ref b] s) (entryFrame m ([Value.ref b] : List Value).toArray 4) := by
  obtain ⟨hx, hb, hr, hml, hown, htl, hX, hbl, hlocks, hgv⟩ := C0
  obtain ⟨D, a, cA, ha, hG⟩ := law_zG hL htl hX hbl hgv
  have hts : ∀ w ∈ wsL_law, w.before #[Value.ref b] s = true := fun w hw => htl w (wsL_law_in w hw)
  have C : zCx p room_1 s m #[Value.ref b] c 0 0 D a cA (ztb L xs) (fun q => s.heap.size ≤ q) 7 30 4 cL_law := ⟨hx, hb, hml, hown, hts, fun q h => h, hG, ⟨Nat.zero_le _, Nat.zero_le _⟩, by decide, by decide⟩
  have hN : zNs s := ⟨va_Nw.of rfl (htl (.methodLinkNest "MarkRules" 27 ⟨"MarkRules$Places", "<init>", "()V"⟩ "MarkRules") (by decide +kernel)), va_Nw.of rfl (htl (.methodLinkNest "MarkRules" 34 ⟨"MarkRules$Standing", "<init>", "()V"⟩ "MarkRules") (by decide +kernel))⟩
  have hl := lv_entry ([Value.ref b]) (n := 4) (Nat.le_of_ble_eq_true rfl)
  rw [lg_entry_eq]
  generalize (lg_sl ([Value.ref b]) ++ List.replicate (4 - (lg_sl ([Value.ref b])).length) Slot.unset).toArray = ls at hl ⊢
  have hmap : ([Value.ref 1001] : List Value).map (zv a) = [Value.ref b] := by
    show [Value.ref (a 1001)] = _
    rw [ha]
  have hl' : zls a ls (zent [Value.ref 1001] 4) := zls_ent rfl (by rw [hmap]; exact hl)
  refine law_pre (Q := lw_Z below #[Value.ref b] s) C hN rfl rfl ?_ a (fun _ _ => rfl) s.heap [] ls ⟨fun k q hq => by simp [zw] at hq, ⟨fun i j p q hq => by simp [zw] at hq, fun k q hq => by simp [zw] at hq⟩, va_S.rf⟩ hl'
  intro a1 ha1 H locs ls1 hI hl1
  have hI := law_world hI
  have hls : zls (fun k => a1 (zpi k)) ls1 [.ref 1001, .ref 0, .ref 6, .int (nI 0)] := by
    refine ⟨hl1.1, hl1.2.1, fun i v hv hk => ?_⟩
    match i, hv with
    | 0, hv => cases hv; exact hl1.2.2 0 _ rfl rfl
    | 1, hv => cases hv; exact hl1.2.2 1 _ rfl rfl
    | 2, hv => cases hv; exact hl1.2.2 2 _ rfl rfl
    | 3, hv => cases hv; exact hl1.2.2 3 _ rfl rfl
    | i + 4, hv => simp at hv
  have C1 : zCx p room_1 s m #[Value.ref b] c 600000 7302250 D (fun k => a1 (zpi k)) cA (ztb L xs) (fun q => s.heap.size ≤ q) 7 30 4 cL_law := by
    refine zCx_a (n0 := 0) C (fun k hk => ?_) (by decide) (by decide)
    have hp : zpi k = k := by
      unfold zpi
      rw [List.getD_eq_getElem?_getD, List.getElem?_eq_none (by have : zpl.length = 60 := rfl; omega)]
      rfl
    show a1 (zpi k) = a k
    rw [hp]
    exact ha1 k hk
  obtain ⟨N, hNN⟩ : ∃ N, 9000000 ≤ N := ⟨9000000, Nat.le_refl _⟩
  obtain ⟨h', n, hn⟩ := lw_loop (N := N) (xs := xs) hL hNN 512 0 zs0 zt0 (by omega) (by omega) iv0
  refine va_forget (fun q hq => hI.2.2.2.2 q hq) ?_
  refine W.widen (k := 600000) (n := 7302250) (by decide) (by decide) ?_
  have := hI.2.2
  refine zex_W (Q := lw_Z below #[Value.ref b] s) C1 (fun q av h r h' hc => zcall_W l (ztb L xs) 30 q av h r h' hc) zkd_L_law ?_ n 18 _ [] (zHp zs0 zt0) hn rfl H [] ls1 ⟨hI.1, hI.2.1, this.1, this.2.1, fun q hq => by cases hq⟩ hls
  intro pc len i st H2 locs2 ls2 hd hlo hz hI2
  unfold zend at hz
  split at hz
  · split at hz <;> cases hz
  · split at hz
    · rename_i v
      obtain rfl : len = 1 := of_decide_eq_true hlo
      have hv : v = 1 := by
        split at hz
        · rename_i z
          exact absurd z (by decide)
        · split at hz
          · split at hz
            · cases hz
              rfl
            · cases hz
          · cases hz
      subst hv
      refine va_forget (fun q hq => hI2.2.2.2.2 q hq) ?_
      exact lw_ret hx hb hr hlocks hd
    · cases hz
  · cases hz
