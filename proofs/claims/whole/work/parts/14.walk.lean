/-! Walking the small machine: what it comes to. -/
def zX (tb : zTb) (cal : zCal) (own rt : Nat) (cd : zCd) (pc : Nat) (lv st : List Value) (h : zH) (r : Option Value × zH) : Prop := ∃ n, zex tb cal own rt cd n pc lv st h = some r
/-- c steps at once -/
def zgo (tb : zTb) (cal : zCal) (own rt : Nat) (cd : zCd) : Nat → Nat → List Value → List Value → zH → zT4
  | 0, pc, lv, st, h => some (pc, lv, st, h)
  | c + 1, pc, lv, st, h => match zfe cd pc with
    | none => none
    | some (i, len) => match zend rt i st with
      | some _ => none
      | none => match zstep tb cal own i len pc lv st h with
        | none => none
        | some (pc', lv', st', h') => zgo tb cal own rt cd c pc' lv' st' h'
abbrev zS : Type := Nat → Nat → Int32
def zup (s : zS) (r j : Nat) (v : Int32) : zS := fun r' => if r' = r then upd (s r) j v else s r'
def zq {α : Type} (b : Bool) (o : Option α) : Option α := if b = true then o else none
theorem zq_ok {α : Type} {b : Bool} {o : Option α} {r : α} (h : zq b o = some r) : b = true ∧ o = some r := by
  unfold zq at h
  split at h
  · exact ⟨by assumption, h⟩
  · cases h
def zbd {α β : Type} (o : Option α) (f : α → Option β) : Option β := match o with
  | some a => f a
  | none => none
theorem zbd_ok {α β : Type} {o : Option α} {f : α → Option β} {r : β} (h : zbd o f = some r) : ∃ a, o = some a ∧ f a = some r := by
  cases o with
  | none => cases h
  | some a => exact ⟨a, rfl, h⟩
section ZW
variable {tb : zTb} {cal : zCal} {own rt : Nat} {cd : zCd} {pc : Nat} {lv st : List Value} {h : zH} {r : Option Value × zH}
theorem zX_go {c pc' : Nat} {lv' st' : List Value} {h' : zH} : ∀ {pc : Nat} {lv st : List Value} {h : zH}, zgo tb cal own rt cd c pc lv st h = some (pc', lv', st', h') → zX tb cal own rt cd pc' lv' st' h' r → zX tb cal own rt cd pc lv st h r := by
  induction c with
  | zero => intro pc lv st h q k; cases q; exact k
  | succ c ih =>
    intro pc lv st h q k
    unfold zgo at q
    cases h1 : zfe cd pc with
    | none => rw [h1] at q; cases q
    | some e =>
      obtain ⟨i, len⟩ := e
      rw [h1] at q
      simp only at q
      cases h2 : zend rt i st with
      | some v => rw [h2] at q; cases q
      | none =>
        rw [h2] at q
        simp only at q
        cases h3 : zstep tb cal own i len pc lv st h with
        | none => rw [h3] at q; cases q
        | some w =>
          obtain ⟨pc2, lv2, st2, h2'⟩ := w
          rw [h3] at q
          obtain ⟨n, hn⟩ := ih q k
          refine ⟨n + 1, ?_⟩
          unfold zex
          simp only [h1, h2, h3]
          exact hn
theorem zX_step {i : zI} {len pc' : Nat} {lv' st' : List Value} {h' : zH} (h1 : zfe cd pc = some (i, len)) (h2 : zend rt i st = none) (h3 : zstep tb cal own i len pc lv st h = some (pc', lv', st', h')) (k : zX tb cal own rt cd pc' lv' st' h' r) : zX tb cal own rt cd pc lv st h r := by
  obtain ⟨n, hn⟩ := k
  refine ⟨n + 1, ?_⟩
  unfold zex
  simp only [h1, h2, h3]
  exact hn
theorem zX_ret {i : zI} {len : Nat} {v : Option Value} (h1 : zfe cd pc = some (i, len)) (h2 : zend rt i st = some v) : zX tb cal own rt cd pc lv st h (v, h) := by
  refine ⟨1, ?_⟩
  unfold zex
  simp only [h1, h2]
theorem zX_reti {len : Nat} {v : Int32} (h1 : zfe cd pc = some (.ireturn, len)) : zX tb cal own 1 cd pc lv [.int v] h (some (.int v), h) := zX_ret h1 rfl
theorem zX_retz {len : Nat} {v : Int32} (h1 : zfe cd pc = some (.ireturn, len)) (hv : v &&& 1 = v) : zX tb cal own 2 cd pc lv [.int v] h (some (.int v), h) := zX_ret h1 (by
  show (if (2 : Nat) = 1 then some (some (Value.int v)) else if (2 : Nat) = 2 then (if v &&& 1 = v then some (some (.int v)) else none) else none) = some (some (.int v))
  rw [if_neg (by decide), if_pos rfl, if_pos hv])
theorem zX_retv {len : Nat} (h1 : zfe cd pc = some (.return_, len)) : zX tb cal own 0 cd pc lv [] h (none, h) := zX_ret h1 rfl
theorem zX_ite {α : Type} {c : Prop} [Decidable c] {A B : Option α} {R : α} {p1 p2 : Nat} (hF : (if c then A else B) = some R) (k1 : c → A = some R → zX tb cal own rt cd p1 lv st h r) (k2 : ¬ c → B = some R → zX tb cal own rt cd p2 lv st h r) : zX tb cal own rt cd (if c then p1 else p2) lv st h r := by
  by_cases hc : c
  · rw [if_pos hc] at hF ⊢
    exact k1 hc hF
  · rw [if_neg hc] at hF ⊢
    exact k2 hc hF
theorem zX_ial {α : Type} {A : Option α} {R : α} {len n k : Nat} {f : Nat → Int32} {i : Int32} (h1 : zfe cd pc = some (.iaload, len)) (h2 : zrd tb h k = some (n, f)) (hF : zq (zin i n) A = some R) (kk : A = some R → zX tb cal own rt cd (pc + len) lv (.int (f i.toNatClampNeg) :: st) h r) : zX tb cal own rt cd pc lv (.int i :: .ref k :: st) h r := by
  obtain ⟨hz, hA⟩ := zq_ok hF
  exact zX_step h1 rfl (by
    show zial tb len pc lv (.int i :: .ref k :: st) h = _
    unfold zial
    simp only [h2, hz, if_true]) (kk hA)
theorem zX_bal {α : Type} {A : Option α} {R : α} {len t n k : Nat} {f : Nat → Int32} {i : Int32} (h1 : zfe cd pc = some (.baload, len)) (h2 : zbar h k = some (t, n, f)) (hF : zq (zin i n) A = some R) (kk : A = some R → zX tb cal own rt cd (pc + len) lv (.int (f i.toNatClampNeg) :: st) h r) : zX tb cal own rt cd pc lv (.int i :: .ref k :: st) h r := by
  obtain ⟨hz, hA⟩ := zq_ok hF
  exact zX_step h1 rfl (by
    show zbal len pc lv (.int i :: .ref k :: st) h = _
    unfold zbal
    simp only [h2, hz, if_true]) (kk hA)
theorem zX_ias {α : Type} {A : Option α} {R : α} {len n k : Nat} {f : Nat → Int32} {i x : Int32} {h' : zH} (h1 : zfe cd pc = some (.iastore, len)) (h2 : zarr h k 0 = some (n, f)) (h3 : h.set k (.inl (0, n, .inl (upd f i.toNatClampNeg x))) = h') (hF : zq (zin i n) A = some R) (kk : A = some R → zX tb cal own rt cd (pc + len) lv st h' r) : zX tb cal own rt cd pc lv (.int x :: .int i :: .ref k :: st) h r := by
  obtain ⟨hz, hA⟩ := zq_ok hF
  subst h3
  exact zX_step h1 rfl (by
    show zias len pc lv (.int x :: .int i :: .ref k :: st) h = _
    unfold zias
    simp only [h2, hz, if_true]) (kk hA)
theorem zX_bas {α : Type} {A : Option α} {R : α} {len t n k : Nat} {f : Nat → Int32} {i x : Int32} {h' : zH} (h1 : zfe cd pc = some (.bastore, len)) (h2 : zbar h k = some (t, n, f)) (h3 : h.set k (.inl (t, n, .inl (upd f i.toNatClampNeg (zbn t x)))) = h') (hF : zq (zin i n) A = some R) (kk : A = some R → zX tb cal own rt cd (pc + len) lv st h' r) : zX tb cal own rt cd pc lv (.int x :: .int i :: .ref k :: st) h r := by
  obtain ⟨hz, hA⟩ := zq_ok hF
  subst h3
  exact zX_step h1 rfl (by
    show zbas len pc lv (.int x :: .int i :: .ref k :: st) h = _
    unfold zbas
    simp only [h2, hz, if_true]) (kk hA)
theorem zX_inv {idx len mm nn ci k : Nat} {x : Nat × Nat × Nat × Nat} {st0 : List Value} {fs : List Value} {v : Option Value} {h' : zH} {av : List Value} (h1 : zfe cd pc = some (.invokevirtual idx, len)) (h2 : zlook (zvT own) idx = some (mm, nn, ci, x)) (h3 : st0.drop nn = .ref k :: st) (h4 : zobj h k ci = some fs) (h5 : (decide ((st0.take nn).length = nn) && decide (zsum st ≤ 8) && decide (k < 1000)) = true) (h6 : Value.ref k :: (st0.take nn).reverse = av) (hc : cal mm av h = some (v, h')) (kk : zX tb cal own rt cd (pc + len) lv (v.toList ++ st) h' r) : zX tb cal own rt cd pc lv st0 h r := by
  subst h6
  exact zX_step h1 rfl (by
    show zinv cal own idx len pc lv st0 h = _
    unfold zinv
    simp only [h2, h3, h4, h5, if_true, hc, zback]) kk
theorem zX_ins {idx len mm nn : Nat} {x : Nat × Nat × Nat} {st0 : List Value} {v : Option Value} {h' : zH} {av : List Value} (h1 : zfe cd pc = some (.invokestatic idx, len)) (h0 : zlook (zaT own) idx = none) (h2 : zlook (zsT own) idx = some (mm, nn, x)) (h3 : st0.drop nn = st) (h5 : (decide ((st0.take nn).length = nn) && decide (zsum (st0.drop nn) ≤ 8)) = true) (h6 : (st0.take nn).reverse = av) (hc : cal mm av h = some (v, h')) (kk : zX tb cal own rt cd (pc + len) lv (v.toList ++ st) h' r) : zX tb cal own rt cd pc lv st0 h r := by
  subst h6
  subst h3
  exact zX_step h1 rfl (by
    show zins cal own idx len pc lv st0 h = _
    unfold zins
    simp only [h0, h2, h5, if_true, hc, zback]) kk
theorem zcall_X {d q : Nat} {av : List Value} {e : zMe} (he : zMs[q]? = some e) (ha : zavok av e.1.2.2.1 = true) (hr : zX tb (zcall tb d) e.1.1 e.1.2.1 e.1.2.2.2 0 (zent av e.1.2.2.1) [] h r) : zcall tb (d + 1) q av h = some r := by
  obtain ⟨n, hn⟩ := hr
  exact zcall_of he ha hn
theorem zX_ldi {α : Type} {A : Option α} {R : α} {len : Nat} {x y : Int64} (h1 : zfe cd pc = some (.ldiv, len)) (hF : zq (!(y == 0)) A = some R) (kk : A = some R → zX tb cal own rt cd (pc + len) lv (.long (x / y) :: st) h r) : zX tb cal own rt cd pc lv (.long y :: .long x :: st) h r := by
  obtain ⟨hz, hA⟩ := zq_ok hF
  have hy : ¬ y = 0 := by simpa using hz
  exact zX_step h1 rfl (by
    show zbinl (fun x y => x / y) len pc lv (.long y :: .long x :: st) h = _
    unfold zbinl
    simp only [if_neg hy]) (kk hA)
theorem zX_lre {α : Type} {A : Option α} {R : α} {len : Nat} {x y : Int64} (h1 : zfe cd pc = some (.lrem, len)) (hF : zq (!(y == 0)) A = some R) (kk : A = some R → zX tb cal own rt cd (pc + len) lv (.long (x - x / y * y) :: st) h r) : zX tb cal own rt cd pc lv (.long y :: .long x :: st) h r := by
  obtain ⟨hz, hA⟩ := zq_ok hF
  have hy : ¬ y = 0 := by simpa using hz
  exact zX_step h1 rfl (by
    show zbinl (fun x y => x - x / y * y) len pc lv (.long y :: .long x :: st) h = _
    unfold zbinl
    simp only [if_neg hy]) (kk hA)
end ZW
