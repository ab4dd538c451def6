/-! Step by step. -/
/-- what holds of the tables throughout: the classes, the tables that nobody writes, the one static field, the one link across the nest -/
def zG (D : va_G) (a : Nat → Nat) (cA : Nat → ClassId) (tb : zTb) (A : Nat → Prop) (U : State) (H : Heap) : Prop :=
  va_K D vwCl (zty cA) U ∧ (∀ (t n : Nat) (f : Nat → Int32), tb t = some (n, f) → va_T .int (a (1000 + t)) n (fun j => .int (f j)) A U H) ∧ va_Z RX5 "FITTING_TARGETS" "[I" (.ref (a 1000)) A U H ∧ va_Nw (.fieldLinkNest RX1 35 RX5 "FITTING_TARGETS" "[I" RX5) U
def zIv (D : va_G) (a : Nat → Nat) (cA : Nat → ClassId) (A : Nat → Prop) (s : State) (h : zH) (H : Heap) (locs : List Loc) : Prop := va_P D vwCl (zw a cA h) H ∧ va_D A (zw a cA h) ∧ va_S A s.heap H locs
/-- the ground on which a body is walked -/
def zCx (p : Program) (R : Room) (s : State) (m : MethodId) (args : Array Value) (c : Code) (cells slots : Nat) (D : va_G) (a : Nat → Nat) (cA : Nat → ClassId) (tb : zTb) (A : Nat → Prop) (own d nL : Nat) (cc : ByteArray) : Prop :=
  p.tables.exec = Jvm.exec ∧ c.code = cc ∧ c.maxLocals = nL ∧ s.vm.findClass (zR own) = some m.cls ∧ (∀ w ∈ wsL_law, w.before args s = true) ∧ (∀ q : Nat, s.heap.size ≤ q → A q) ∧ zG D a cA tb A s s.heap ∧ (cells ≤ R.cells ∧ slots ≤ R.slots) ∧ d + 1 ≤ R.frames ∧ 40 * (d + 1) ≤ R.locals
theorem zcls_in {ci : Nat} {q : vw_C} (h : vwCl[ci]? = some q) : ∀ w ∈ u_ws q.1 q.2.1 q.2.2, w ∈ wsL_law := by
  match ci, h with
  | 0, h => cases h; exact inlX0
  | 1, h => cases h; exact inlX1
  | 2, h => cases h; exact inlX2
  | 3, h => cases h; exact inlX3
  | 4, h => cases h; exact inlX4
  | 5, h => cases h; exact inlX5
  | 6, h => cases h; exact inlX6
  | n + 7, h => simp [vwCl] at h
theorem zcls_ty {ci : Nat} {q : vw_C} (h : vwCl[ci]? = some q) : ∃ ty : Nat → FieldType, (∀ k, k < q.2.2 → parseFieldDescriptor (q.2.1 k).2.2.1 = some (ty k)) ∧ ∀ a, a < q.2.2 → ∀ b, b < q.2.2 → a ≠ b → (q.2.1 a).2.1 ≠ (q.2.1 b).2.1 := by
  match ci, h with
  | 0, h => cases h; exact ⟨tyX0, tyX0_ok, nmX0⟩
  | 1, h => cases h; exact ⟨tyX1, tyX1_ok, nmX1⟩
  | 2, h => cases h; exact ⟨tyX2, tyX2_ok, nmX2⟩
  | 3, h => cases h; exact ⟨tyX3, tyX3_ok, nmX3⟩
  | 4, h => cases h; exact ⟨tyX4, tyX4_ok, nmX4⟩
  | 5, h => cases h; exact ⟨tyX5, tyX5_ok, nmX5⟩
  | 6, h => cases h; exact ⟨tyX6, tyX6_ok, nmX6⟩
  | n + 7, h => simp [vwCl] at h
theorem zcls_R {ci : Nat} (hc : ci < 7) : ∃ q : vw_C, vwCl[ci]? = some q ∧ q.1 = zR ci := by
  match ci, hc with
  | 0, _ => exact ⟨_, rfl, rfl⟩
  | 1, _ => exact ⟨_, rfl, rfl⟩
  | 2, _ => exact ⟨_, rfl, rfl⟩
  | 3, _ => exact ⟨_, rfl, rfl⟩
  | 4, _ => exact ⟨_, rfl, rfl⟩
  | 5, _ => exact ⟨_, rfl, rfl⟩
  | 6, _ => exact ⟨_, rfl, rfl⟩
/-- a contract: the method with these arguments on this heap gives r and leaves h' -/
def zPre (D : va_G) (a : Nat → Nat) (cA : Nat → ClassId) (tb : zTb) (av : List Value) (h : zH) (sz : Nat) : Array Value → State → Prop :=
  va_Pc (av.map (zv a)) (fun U => U.heap.size = sz ∧ va_P D vwCl (zw a cA h) U.heap ∧ va_D (fun _ => True) (zw a cA h) ∧ zG D a cA tb (va_A (zw a cA h) sz) U U.heap)
def zPost (D : va_G) (a : Nat → Nat) (cA : Nat → ClassId) (h : zH) (sz : Nat) (r : Option Value) (h' : zH) : Array Value → State → Outcome → State → Prop := fun _ st oc t =>
  (oc = .returned (r.map (zv a)) ∧ va_P D vwCl (zw a cA h') t.heap ∧ va_D (va_A (zw a cA h) sz) (zw a cA h')) ∧ va_F (va_A (zw a cA h) sz) st t
def zws (e : zMe) : List Cond := .code e.2.1 e.2.2.1 e.1.2.2.1 e.2.2.2 :: wsL_law
def zrm (d : Nat) : Room := { frames := d, cells := 0, slots := 0, locals := 40 * d }
def zCon (l : Launch) (tb : zTb) (d q : Nat) (av : List Value) (h : zH) (r : Option Value) (h' : zH) : Prop :=
  ∀ e, zMs[q]? = some e → ∀ (D : va_G) (a : Nat → Nat) (cA : Nat → ClassId) (sz : Nat), Met l e.2.1 (zws e) (zrm d) (zPre D a cA tb av h sz) (zPost D a cA h sz r h') 0 0 (va_A (zw a cA h) sz)
theorem zG_moved {D : va_G} {a : Nat → Nat} {cA : Nat → ClassId} {tb : zTb} {A B : Nat → Prop} {u U : State} {H H1 : Heap} (hW : u.WarmedH U.vm) (hq : ∀ x : Nat, x < H.size → ¬ A x → H1[x]? = H[x]?) (hAB : ∀ x, B x → A x) (h : zG D a cA tb A u H) : zG D a cA tb B U H1 :=
  ⟨va_K.moved hW.alike h.1, fun t n f ht => (((h.2.1 t n f ht).moved hW.alike).kept hq).narrow hAB, ((h.2.2.1.moved hW.alike).kept hq).narrow hAB, va_Nw.warmF hW h.2.2.2⟩
theorem zPre_blind {D : va_G} {a : Nat → Nat} {cA : Nat → ClassId} {tb : zTb} {av : List Value} {h : zH} {sz : Nat} : FrameBlind (zPre D a cA tb av h sz) := by
  intro b U g mk q
  obtain ⟨q0, q1, q2, q3, q4, q5, q6, q7⟩ := q
  exact ⟨q0, q1, q2, q3, va_K.moved (u := U) (U := U.calling g mk b) (Vm.Alike.refl U.vm) q4, fun t n f ht => (q5 t n f ht).moved (u := U) (U := U.calling g mk b) (Vm.Alike.refl U.vm), q6.moved (u := U) (U := U.calling g mk b) (Vm.Alike.refl U.vm), va_Nw.same rfl (u := U) (U := U.calling g mk b) rfl q7⟩
theorem zgoodIn {ws : List Cond} (h : ∀ w ∈ ws, w ∈ wsL_law) : GoodIn wsL_law ws := fun w hw => ⟨h w hw, (zT_good w (h w hw)).2⟩
section ZS
variable {p : Program} {l : Launch} {e : Env} {R : Room} {s : State} {m : MethodId} {args : Array Value} {below : List Frame} {meth : Method} {c : Code} {H : Heap} {locs : List Loc} {cells slots : Nat} {Q : State → Prop}
variable {D : va_G} {a : Nat → Nat} {cA : Nat → ClassId} {tb : zTb} {A : Nat → Prop} {own d nL : Nat} {cc : ByteArray} {ls : Array Slot} {lv st : List Value} {h : zH}
theorem za_call {pc sz : Nat} {st0 rest : List Value} {r : Option Value} {h' : zH} {av : Array Value} {free : Nat → Prop} (hr : va_Run p l e R s m args below meth c H locs cells slots 0 0 (F0 m pc ls st0) rest (zPost D a cA h sz r h' av) free) (hS : va_S A s.heap H locs) (hF : ∀ q, va_A (zw a cA h) sz q → A q) (hf : ∀ q, free q → A q)
    (kk : ∀ (H1 : Heap) (locs1 : List Loc), zIv D a cA A s h' H1 locs1 → W p l e R s m args below meth c H1 locs1 cells slots Q (F0 m (pc + 3) ls ((r.map (zv a)).toList ++ rest))) : W p l e R s m args below meth c H locs cells slots Q (F0 m pc ls st0) := by
  intro T hT X
  obtain ⟨v, st₀, t, T', L, h0, X', hL, e1, e2, ⟨⟨hv, hp, hd⟩, hz, hk⟩, st⟩ := hr T hT X
  cases hv
  rw [h0] at hz hk
  obtain ⟨t2, a1, b1⟩ := kk T'.heap (locs ++ L) ⟨by rw [e1]; exact hp, hd.weaken (fun _ _ _ z => hF _ z), Nat.le_trans hS.1 (by rw [e1]; exact hz), fun q h1 h2 => by rw [e1, hk q (Nat.lt_of_lt_of_le h1 hS.1) (fun z => h2 (hF q z))]; exact hS.2.1 q h1 h2, fun q hq => by
      rcases List.mem_append.mp hq with h | h
      · exact hS.2.2 q h
      · exact hf _ (hL q h)⟩ T' rfl X'
  exact ⟨t2, st t2 a1, b1⟩
theorem za_free (hI : zIv D a cA A s h H locs) (hA : ∀ q : Nat, s.heap.size ≤ q → A q) : ∀ q, va_A (zw a cA h) H.size q → A q := by
  intro q hq
  rcases hq with ⟨k, x, hk⟩ | hq
  · exact hI.2.1.2 k (q, x) hk
  · exact hA q (Nat.le_trans hI.2.2.1 hq)
theorem za_pre {av : List Value} (C0 : zCx p R s m args c cells slots D a cA tb A own d nL cc) (hI : zIv D a cA A s h H locs) : ∀ U : State, U.heap = H → s.WarmedH U.vm → zPre D a cA tb av h H.size (av.map (zv a)).toArray U := by
  obtain ⟨-, -, -, -, -, hA, hg, -⟩ := C0
  intro U hU hW
  refine ⟨rfl, by rw [hU], by rw [hU]; exact hI.1, hI.2.1.weaken (fun _ _ _ _ => trivial), ?_⟩
  rw [hU]
  exact zG_moved hW (fun x h1 h2 => hI.2.2.2.1 x h1 h2) (za_free hI hA) hg
end ZS
