/-! THE RUN of the small machine. -/
def zload (i len pc : Nat) (lv st : List Value) (h : zH) : zT4 := match lv[i]? with
  | some (.int x) => some (pc + len, lv, .int x :: st, h)
  | _ => none
def zloadl (i len pc : Nat) (lv st : List Value) (h : zH) : zT4 := match lv[i]? with
  | some (.long x) => some (pc + len, lv, .long x :: st, h)
  | _ => none
def zloada (i len pc : Nat) (lv st : List Value) (h : zH) : zT4 := match lv[i]? with
  | some (.ref x) => some (pc + len, lv, .ref x :: st, h)
  | _ => none
def zstore (i len pc : Nat) (lv st : List Value) (h : zH) : zT4 := match st with
  | .int x :: r => (zst1 lv i (.int x)).bind fun lv' => some (pc + len, lv', r, h)
  | _ => none
def zstorel (i len pc : Nat) (lv st : List Value) (h : zH) : zT4 := match st with
  | .long x :: r => (zst2 lv i (.long x)).bind fun lv' => some (pc + len, lv', r, h)
  | _ => none
def zbin (f : Int32 → Int32 → Int32) (len pc : Nat) (lv st : List Value) (h : zH) : zT4 := match st with
  | .int y :: .int x :: r => some (pc + len, lv, .int (f x y) :: r, h)
  | _ => none
def zun (f : Int32 → Int32) (len pc : Nat) (lv st : List Value) (h : zH) : zT4 := match st with
  | .int x :: r => some (pc + len, lv, .int (f x) :: r, h)
  | _ => none
def zbinl (f : Int64 → Int64 → Int64) (len pc : Nat) (lv st : List Value) (h : zH) : zT4 := match st with
  | .long y :: .long x :: r => if y = 0 then none else some (pc + len, lv, .long (f x y) :: r, h)
  | _ => none
/-- behind a call: what came back stands on the stack -/
def zback (pc : Nat) (lv r : List Value) (o : zO) : zT4 := match o with
  | some (v, h) => some (pc, lv, v.toList ++ r, h)
  | none => none
def zinv (cal : zCal) (own idx len pc : Nat) (lv st : List Value) (h : zH) : zT4 := match zlook (zvT own) idx with
  | some (m, n, ci, _) => match st.drop n with
    | .ref k :: r => match zobj h k ci with
      | some _ => if (decide ((st.take n).length = n) && decide (zsum r ≤ 8) && decide (k < 1000)) = true then zback (pc + len) lv r (cal m (.ref k :: (st.take n).reverse) h) else none
      | none => none
    | _ => none
  | none => none
def zins (cal : zCal) (own idx len pc : Nat) (lv st : List Value) (h : zH) : zT4 := match zlook (zaT own) idx with
  | some _ => match st with
    | .long x :: r => if decide (zsum r ≤ 8) = true then some (pc + len, lv, .long (if 0 < x then x else -x) :: r, h) else none
    | _ => none
  | none => match zlook (zsT own) idx with
    | some (m, n, _) => if (decide ((st.take n).length = n) && decide (zsum (st.drop n) ≤ 8)) = true then zback (pc + len) lv (st.drop n) (cal m ((st.take n).reverse) h) else none
    | none => none
abbrev zTb : Type := Nat → Option (Nat × (Nat → Int32))
def zgetf (own idx len pc : Nat) (lv st : List Value) (h : zH) : zT4 := match st with
  | .ref k :: r => match zlook (zfT own) idx with
    | some (ci, j, _) => match zobj h k ci with
      | some fs => match fs[j]? with
        | some v => some (pc + len, lv, v :: r, h)
        | none => none
      | none => none
    | none => none
  | _ => none
def zputf (own idx len pc : Nat) (lv st : List Value) (h : zH) : zT4 := match st with
  | .int x :: .ref k :: r => match zlook (zfT own) idx with
    | some (ci, j, ty, _) => match zobj h k ci with
      | some fs => if (zfit ty x && decide (j < fs.length)) = true then some (pc + len, lv, r, h.set k (.inr (ci, fs.set j (.int x)))) else none
      | none => none
    | none => none
  | _ => none
def zial (tb : zTb) (len pc : Nat) (lv st : List Value) (h : zH) : zT4 := match st with
  | .int i :: .ref k :: r => match zrd tb h k with
    | some (n, f) => if zin i n = true then some (pc + len, lv, .int (f i.toNatClampNeg) :: r, h) else none
    | none => none
  | _ => none
def zbal (len pc : Nat) (lv st : List Value) (h : zH) : zT4 := match st with
  | .int i :: .ref k :: r => match zbar h k with
    | some (_, n, f) => if zin i n = true then some (pc + len, lv, .int (f i.toNatClampNeg) :: r, h) else none
    | none => none
  | _ => none
def zias (len pc : Nat) (lv st : List Value) (h : zH) : zT4 := match st with
  | .int x :: .int i :: .ref k :: r => match zarr h k 0 with
    | some (n, f) => if zin i n = true then some (pc + len, lv, r, h.set k (.inl (0, n, .inl (upd f i.toNatClampNeg x)))) else none
    | none => none
  | _ => none
def zbas (len pc : Nat) (lv st : List Value) (h : zH) : zT4 := match st with
  | .int x :: .int i :: .ref k :: r => match zbar h k with
    | some (t, n, f) => if zin i n = true then some (pc + len, lv, r, h.set k (.inl (t, n, .inl (upd f i.toNatClampNeg (zbn t x))))) else none
    | none => none
  | _ => none
def zstep (tb : zTb) (cal : zCal) (own : Nat) (i : zI) (len pc : Nat) (lv st : List Value) (h : zH) : zT4 := match i with
  | .iconst n => some (pc + len, lv, .int (zki n) :: st, h)
  | .bipush n => some (pc + len, lv, .int (zkb n) :: st, h)
  | .sipush n => some (pc + len, lv, .int (zks n) :: st, h)
  | .lconst n => some (pc + len, lv, .long (Int64.ofNat (n : Nat)) :: st, h)
  | .ldc2_w idx => match zlook (zlT own) idx with
    | some (v, _) => some (pc + len, lv, .long v :: st, h)
    | none => none
  | .iload_n k => zload k len pc lv st h
  | .iload k => zload k len pc lv st h
  | .lload_n k => zloadl k len pc lv st h
  | .aload_n k => zloada k len pc lv st h
  | .istore_n k => zstore k len pc lv st h
  | .istore k => zstore k len pc lv st h
  | .lstore_n k => zstorel k len pc lv st h
  | .iinc k n => match lv[k]? with
    | some (.int x) => match zst1 lv k (.int (x + zki n)) with
      | some lv' => some (pc + len, lv', st, h)
      | none => none
    | _ => none
  | .iadd => zbin (fun x y => x + y) len pc lv st h
  | .isub => zbin (fun x y => x - y) len pc lv st h
  | .imul => zbin (fun x y => x * y) len pc lv st h
  | .iand => zbin (fun x y => x &&& y) len pc lv st h
  | .ior => zbin (fun x y => x ||| y) len pc lv st h
  | .ixor => zbin (fun x y => x ^^^ y) len pc lv st h
  | .ishl => zbin (fun x y => x <<< (y &&& 31)) len pc lv st h
  | .ldiv => zbinl (fun x y => x / y) len pc lv st h
  | .lrem => zbinl (fun x y => x - x / y * y) len pc lv st h
  | .lneg => match st with
    | .long x :: r => some (pc + len, lv, .long (-x) :: r, h)
    | _ => none
  | .lcmp => match st with
    | .long y :: .long x :: r => some (pc + len, lv, .int (lg_cmp x y) :: r, h)
    | _ => none
  | .i2l => match st with
    | .int x :: r => some (pc + len, lv, .long x.toInt64 :: r, h)
    | _ => none
  | .l2i => match st with
    | .long x :: r => some (pc + len, lv, .int x.toInt32 :: r, h)
    | _ => none
  | .i2b => zun (fun x => x.toInt8.toInt32) len pc lv st h
  | .dup => match st with
    | v :: r => if zc2 v = true then none else some (pc + len, lv, v :: v :: r, h)
    | _ => none
  | .dup2 => match st with
    | v :: w :: r => if (zc2 v || zc2 w) = true then none else some (pc + len, lv, v :: w :: v :: w :: r, h)
    | _ => none
  | .pop => match st with
    | v :: r => if zc2 v = true then none else some (pc + len, lv, r, h)
    | _ => none
  | .goto off => some (zto pc off, lv, st, h)
  | .ifCond c off => match st with
    | .int x :: r => some (zcmp c x 0 (zto pc off) (pc + len), lv, r, h)
    | _ => none
  | .if_icmp c off => match st with
    | .int y :: .int x :: r => some (zcmp c x y (zto pc off) (pc + len), lv, r, h)
    | _ => none
  | .tableswitch d lo _ offs => match st with
    | .int x :: r => some (zsw pc (ztp lo offs.toList) d x, lv, r, h)
    | _ => none
  | .lookupswitch d ps => match st with
    | .int x :: r => some (zsw pc ps.toList d x, lv, r, h)
    | _ => none
  | .getfield idx => zgetf own idx len pc lv st h
  | .putfield idx => zputf own idx len pc lv st h
  | .getstatic idx => if (decide (own = 1) && decide (idx = 35)) = true then some (pc + len, lv, .ref 1000 :: st, h) else none
  | .iaload => zial tb len pc lv st h
  | .baload => zbal len pc lv st h
  | .iastore => zias len pc lv st h
  | .bastore => zbas len pc lv st h
  | .arraylength => match st with
    | .ref k :: r => match zlenA tb h k with
      | some n => some (pc + len, lv, .int (Int32.ofNat n) :: r, h)
      | none => none
    | _ => none
  | .invokevirtual idx => zinv cal own idx len pc lv st h
  | .invokestatic idx => zins cal own idx len pc lv st h
  | _ => none
/-- the method's end -/
def zend (rt : Nat) (i : zI) (st : List Value) : Option (Option Value) := match i with
  | .return_ => if (decide (rt = 0) && st.isEmpty) = true then some none else none
  | .ireturn => match st with
    | [.int v] => if rt = 1 then some (some (.int v)) else if rt = 2 then (if v &&& 1 = v then some (some (.int v)) else none) else none
    | _ => none
  | _ => none
def zex (tb : zTb) (cal : zCal) (own rt : Nat) (cd : zCd) : Nat → Nat → List Value → List Value → zH → zO
  | 0, _, _, _, _ => none
  | n + 1, pc, lv, st, h => match zfe cd pc with
    | none => none
    | some (i, len) => match zend rt i st with
      | some v => some (v, h)
      | none => match zstep tb cal own i len pc lv st h with
        | none => none
        | some (pc', lv', st', h') => zex tb cal own rt cd n pc' lv' st' h'
theorem zex_mono {tb : zTb} {cal : zCal} {own rt : Nat} {cd : zCd} : ∀ {n pc : Nat} {lv st : List Value} {h : zH} {r : Option Value × zH}, zex tb cal own rt cd n pc lv st h = some r → ∀ k, zex tb cal own rt cd (n + k) pc lv st h = some r := by
  intro n
  induction n with
  | zero => intro pc lv st h r q; cases q
  | succ n ih =>
    intro pc lv st h r q k
    rw [show n + 1 + k = (n + k) + 1 by omega]
    unfold zex at q ⊢
    cases h1 : zfe cd pc with
    | none => rw [h1] at q; cases q
    | some e =>
      obtain ⟨i, len⟩ := e
      rw [h1] at q
      simp only at q ⊢
      cases h2 : zend rt i st with
      | some v => rw [h2] at q; exact q
      | none =>
        rw [h2] at q
        simp only at q ⊢
        cases h3 : zstep tb cal own i len pc lv st h with
        | none => rw [h3] at q; cases q
        | some w =>
          obtain ⟨pc', lv', st', h'⟩ := w
          rw [h3] at q
          exact ih q k
/-- a run's answer, if it has one -/
noncomputable def zrun (f : Nat → zO) : zO := @dite _ (∃ n, ∃ r, f n = some r) (Classical.propDecidable _) (fun h => f (Classical.choose h)) (fun _ => none)
theorem zrun_ex {f : Nat → zO} {r : Option Value × zH} (h : zrun f = some r) : ∃ n, f n = some r := by
  unfold zrun at h
  split at h
  · exact ⟨_, h⟩
  · cases h
theorem zrun_of {f : Nat → zO} (hm : ∀ n r, f n = some r → ∀ k, f (n + k) = some r) {n : Nat} {r : Option Value × zH} (h : f n = some r) : zrun f = some r := by
  have hx : ∃ n, ∃ r, f n = some r := ⟨n, r, h⟩
  unfold zrun
  rw [dif_pos hx]
  obtain ⟨r', h'⟩ := Classical.choose_spec hx
  have a := hm n r h (Classical.choose hx)
  have b := hm (Classical.choose hx) r' h' n
  rw [Nat.add_comm] at b
  rw [h', ← b, a]
/-- the locals at a method's entry -/
def zent (av : List Value) (m : Nat) : List Value := av ++ List.replicate (m - av.length) (.retAddr 0)
def zavok (av : List Value) (m : Nat) : Bool := decide (av.length ≤ m) && av.all (fun v => !(zc2 v) && zkn v)
noncomputable def zcall (tb : zTb) : Nat → zCal
  | 0 => fun _ _ _ => none
  | d + 1 => fun q av h => match zMs[q]? with
    | some e => if zavok av e.1.2.2.1 = true then zrun (fun n => zex tb (zcall tb d) e.1.1 e.1.2.1 e.1.2.2.2 n 0 (zent av e.1.2.2.1) [] h) else none
    | none => none
theorem zcall_of {tb : zTb} {d q : Nat} {av : List Value} {h : zH} {e : zMe} {n : Nat} {r : Option Value × zH} (he : zMs[q]? = some e) (ha : zavok av e.1.2.2.1 = true) (hr : zex tb (zcall tb d) e.1.1 e.1.2.1 e.1.2.2.2 n 0 (zent av e.1.2.2.1) [] h = some r) : zcall tb (d + 1) q av h = some r := by
  show (match zMs[q]? with
    | some e => if zavok av e.1.2.2.1 = true then zrun (fun n => zex tb (zcall tb d) e.1.1 e.1.2.1 e.1.2.2.2 n 0 (zent av e.1.2.2.1) [] h) else none
    | none => none) = some r
  rw [he]
  show (if zavok av e.1.2.2.1 = true then _ else _) = _
  rw [if_pos ha]
  exact zrun_of (f := fun n => zex tb (zcall tb d) e.1.1 e.1.2.1 e.1.2.2.2 n 0 (zent av e.1.2.2.1) [] h) (fun n r q k => zex_mono q k) hr
theorem zcall_ex {tb : zTb} {d q : Nat} {av : List Value} {h : zH} {r : Option Value × zH} (hc : zcall tb (d + 1) q av h = some r) : ∃ e, zMs[q]? = some e ∧ zavok av e.1.2.2.1 = true ∧ ∃ n, zex tb (zcall tb d) e.1.1 e.1.2.1 e.1.2.2.2 n 0 (zent av e.1.2.2.1) [] h = some r := by
  have hc : (match zMs[q]? with
    | some e => if zavok av e.1.2.2.1 = true then zrun (fun n => zex tb (zcall tb d) e.1.1 e.1.2.1 e.1.2.2.2 n 0 (zent av e.1.2.2.1) [] h) else none
    | none => none) = some r := hc
  cases he : zMs[q]? with
  | none => rw [he] at hc; cases hc
  | some e =>
    rw [he] at hc
    have hc : (if zavok av e.1.2.2.1 = true then zrun (fun n => zex tb (zcall tb d) e.1.1 e.1.2.1 e.1.2.2.2 n 0 (zent av e.1.2.2.1) [] h) else none) = some r := hc
    by_cases ha : zavok av e.1.2.2.1 = true
    · rw [if_pos ha] at hc
      exact ⟨e, rfl, ha, zrun_ex hc⟩
    · rw [if_neg ha] at hc
      cases hc
/-! more callees, more answers -/
theorem zstep_cal {tb : zTb} {cal cal' : zCal} (hc : ∀ q av h r, cal q av h = some r → cal' q av h = some r) {own : Nat} {i : zI} {len pc : Nat} {lv st : List Value} {h : zH} {w : Nat × List Value × List Value × zH} (hz : zstep tb cal own i len pc lv st h = some w) : zstep tb cal' own i len pc lv st h = some w := by
  cases i
  case invokevirtual idx =>
    show zinv cal' own idx len pc lv st h = some w
    have hz : zinv cal own idx len pc lv st h = some w := hz
    unfold zinv at hz ⊢
    split at hz
    · split at hz
      · split at hz
        · split at hz
          · rename_i hk
            simp only [*] at hz ⊢
            unfold zback at hz ⊢
            split at hz
            · rename_i hv
              rw [hc _ _ _ _ hv]
              simpa using hz
            · cases hz
          · cases hz
        · cases hz
      · cases hz
    · cases hz
  case invokestatic idx =>
    show zins cal' own idx len pc lv st h = some w
    have hz : zins cal own idx len pc lv st h = some w := hz
    unfold zins at hz ⊢
    split at hz
    · simp only [*] at hz ⊢
    · split at hz
      · split at hz
        · simp only [*] at hz ⊢
          unfold zback at hz ⊢
          split at hz
          · rename_i hv
            rw [hc _ _ _ _ hv]
            simpa using hz
          · cases hz
        · cases hz
      · cases hz
  all_goals exact hz
theorem zex_cal {tb : zTb} {cal cal' : zCal} (hc : ∀ q av h r, cal q av h = some r → cal' q av h = some r) {own rt : Nat} {cd : zCd} : ∀ {n pc : Nat} {lv st : List Value} {h : zH} {r : Option Value × zH}, zex tb cal own rt cd n pc lv st h = some r → zex tb cal' own rt cd n pc lv st h = some r := by
  intro n
  induction n with
  | zero => intro pc lv st h r q; cases q
  | succ n ih =>
    intro pc lv st h r q
    unfold zex at q ⊢
    cases h1 : zfe cd pc with
    | none => rw [h1] at q; cases q
    | some e =>
      obtain ⟨i, len⟩ := e
      rw [h1] at q
      simp only at q ⊢
      cases h2 : zend rt i st with
      | some v => rw [h2] at q; exact q
      | none =>
        rw [h2] at q
        simp only at q ⊢
        cases h3 : zstep tb cal own i len pc lv st h with
        | none => rw [h3] at q; cases q
        | some w =>
          rw [zstep_cal hc h3]
          obtain ⟨pc', lv', st', h'⟩ := w
          rw [h3] at q
          exact ih q
theorem zcall_s {tb : zTb} : ∀ (d : Nat) {q : Nat} {av : List Value} {h : zH} {r : Option Value × zH}, zcall tb d q av h = some r → zcall tb (d + 1) q av h = some r := by
  intro d
  induction d with
  | zero => intro q av h r hc; cases hc
  | succ d ih =>
    intro q av h r hc
    obtain ⟨e, he, ha, n, hn⟩ := zcall_ex hc
    exact zcall_of he ha (zex_cal (fun _ _ _ _ z => ih z) hn)
theorem zcall_le {tb : zTb} {d d' q : Nat} {av : List Value} {h : zH} {r : Option Value × zH} (hc : zcall tb d q av h = some r) (hd : d ≤ d') : zcall tb d' q av h = some r := by
  obtain ⟨k, rfl⟩ := Nat.exists_eq_add_of_le hd
  induction k with
  | zero => exact hc
  | succ k ih => exact zcall_s (d + k) (ih (by omega))
