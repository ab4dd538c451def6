/-! A small machine over abstract cells: heap positions stand for addresses, no cell is made. zex runs a method's instructions from a place, zcall a method from its entry. What it answers, the Java machine answers (part 12). A reference .ref k with k < 1000 is the cell at position k, one from 1000 on a table that nobody writes. -/
abbrev zE : Type := (Nat × vp_A) ⊕ (Nat × List Value)
abbrev zH : Type := List zE
abbrev zO : Type := Option (Option Value × zH)
abbrev zCal : Type := Nat → List Value → zH → zO
abbrev zI : Type := Jvm.ClassFile.Instr
/-- is an index in its row -/
def zin (i : Int32) (n : Nat) : Bool := !(decide (i < 0)) && decide (i.toNatClampNeg < n)
theorem zin_vp {i : Int32} {n : Nat} (h : zin i n = true) : vp_in i n := by
  simp only [zin, Bool.and_eq_true, Bool.not_eq_true', decide_eq_false_iff_not, decide_eq_true_eq] at h
  rintro (q | q)
  · exact h.1 q
  · exact absurd h.2 (Nat.not_lt.mpr q)
/-- where a jump goes -/
def zto (pc : Nat) (off : Int) : Nat := ((pc : Int) + off).toNat
def ztok (pc : Nat) (off : Int) : Bool := decide (0 ≤ (pc : Int) + off)
theorem zto_ok {pc : Nat} {off : Int} (h : ztok pc off = true) : (pc : Int) + off = (zto pc off : Int) := by
  simp only [ztok, decide_eq_true_eq] at h
  simp only [zto]
  omega
/-- which way of a switch -/
def zki (n : Int) : Int32 := Int32.ofInt n
def zkb (n : Int) : Int32 := (Int8.ofInt n).toInt32
def zks (n : Int) : Int32 := (Int16.ofInt n).toInt32
def zsw (pc : Nat) : List (Int × Int) → Int → Int32 → Nat
  | [], d, _ => zto pc d
  | (k, o) :: r, d, x => if x = zki k then zto pc o else zsw pc r d x
/-- a table's ways as pairs -/
def ztp : Int → List Int → List (Int × Int)
  | _, [] => []
  | k, o :: r => (k, o) :: ztp (k + 1) r
/-- locals: a place that holds nothing known holds .retAddr -/
def zkn : Value → Bool
  | .retAddr _ => false
  | _ => true
def zc2 : Value → Bool
  | .long _ => true
  | .double _ => true
  | _ => false
/-- no long begins at the place ahead -/
def zfree (lv : List Value) : Nat → Bool
  | 0 => true
  | i + 1 => match lv[i]? with
    | some v => !(zc2 v)
    | none => true
def zst1 (lv : List Value) (i : Nat) (v : Value) : Option (List Value) := if (zfree lv i && decide (i < lv.length)) = true then some (lv.set i v) else none
def zst2 (lv : List Value) (i : Nat) (v : Value) : Option (List Value) := if (zfree lv i && decide (i + 1 < lv.length)) = true then some ((lv.set i v).set (i + 1) (.retAddr 0)) else none
def zcmp : Jvm.ClassFile.Cond → Int32 → Int32 → Nat → Nat → Nat
  | .eq, x, y, t, f => if x = y then t else f
  | .ne, x, y, t, f => if x = y then f else t
  | .lt, x, y, t, f => if x < y then t else f
  | .ge, x, y, t, f => if x < y then f else t
  | .gt, x, y, t, f => if y < x then t else f
  | .le, x, y, t, f => if y < x then f else t
/-- a cell that is an object of class ci; an array of ints (tag 0), of booleans (1), of bytes (2) -/
def zobj (h : zH) (k ci : Nat) : Option (List Value) := match h[k]? with
  | some (.inr (c, fs)) => if c = ci then some fs else none
  | _ => none
def zarr (h : zH) (k t : Nat) : Option (Nat × (Nat → Int32)) := match h[k]? with
  | some (.inl (t', n, .inl f)) => if t' = t then some (n, f) else none
  | _ => none
theorem zobj_ok {h : zH} {k ci : Nat} {fs : List Value} (q : zobj h k ci = some fs) : h[k]? = some (.inr (ci, fs)) := by
  unfold zobj at q
  split at q
  · rename_i c fs' hk
    split at q
    · rename_i hc
      cases q
      rw [hk, hc]
    · cases q
  · cases q
theorem zarr_ok {h : zH} {k t : Nat} {nf : Nat × (Nat → Int32)} (q : zarr h k t = some nf) : h[k]? = some (.inl (t, nf.1, .inl nf.2)) := by
  unfold zarr at q
  split at q
  · rename_i t' n f hk
    split at q
    · rename_i hc
      cases q
      rw [hk, hc]
    · cases q
  · cases q
/-- an array of booleans or of bytes -/
def zbar (h : zH) (k : Nat) : Option (Nat × Nat × (Nat → Int32)) := match zarr h k 1 with
  | some nf => some (1, nf)
  | none => match zarr h k 2 with
    | some nf => some (2, nf)
    | none => none
def zbn (t : Nat) (x : Int32) : Int32 := if t = 1 then vp_nar .boolean x else vp_nar .byte x
/-- an array that is read: a cell, or a table -/
def zrd (tb : Nat → Option (Nat × (Nat → Int32))) (h : zH) (k : Nat) : Option (Nat × (Nat → Int32)) := if k < 1000 then zarr h k 0 else tb (k - 1000)
def zlenA (tb : Nat → Option (Nat × (Nat → Int32))) (h : zH) (k : Nat) : Option Nat := if k < 1000 then (match h[k]? with
  | some (.inl (t, n, .inl _)) => if t < 3 then some n else none
  | _ => none) else (tb (k - 1000)).map (fun nf => nf.1)
def zfit (ty : Nat) (x : Int32) : Bool := decide (ty = 0) || (decide (ty = 1) && (x == 0 || x == 1))
def zsum (l : List Value) : Nat := (l.map fun v => v.category).sum
abbrev zT4 : Type := Option (Nat × List Value × List Value × zH)
def zlook {α : Type} : List (Nat × α) → Nat → Option α
  | [], _ => none
  | (k, v) :: r, i => cond (Nat.beq k i) (some v) (zlook r i)
theorem zlook_mem {α : Type} : ∀ {l : List (Nat × α)} {i : Nat} {v : α}, zlook l i = some v → (i, v) ∈ l
  | [], _, _, h => by cases h
  | (k, w) :: r, i, v, h => by
    unfold zlook at h
    cases hb : Nat.beq k i with
    | true =>
      rw [hb] at h
      have hk : k = i := Nat.eq_of_beq_eq_true hb
      cases h
      rw [hk]
      exact List.mem_cons_self
    | false =>
      rw [hb] at h
      exact List.mem_cons_of_mem _ (zlook_mem h)
/-- a method's code in pieces: each with a bound above its places -/
abbrev zCd : Type := List (Nat × List (Nat × zI × Nat))
def zfe : zCd → Nat → Option (zI × Nat)
  | [], _ => none
  | (u, l) :: r, i => cond (Nat.blt i u) (zlook l i) (zfe r i)
theorem zfe_mem : ∀ {cd : zCd} {i : Nat} {v : zI × Nat}, zfe cd i = some v → ∃ q ∈ cd, (i, v) ∈ q.2
  | [], _, _, h => by cases h
  | (u, l) :: r, i, v, h => by
    unfold zfe at h
    cases hb : Nat.blt i u with
    | true =>
      rw [hb] at h
      exact ⟨(u, l), List.mem_cons_self, zlook_mem h⟩
    | false =>
      rw [hb] at h
      obtain ⟨q, h1, h2⟩ := zfe_mem (cd := r) h
      exact ⟨q, List.mem_cons_of_mem _ h1, h2⟩
/-- the lengths of the instructions, and jumps that stay at places -/
def zlo (e : Nat × zI × Nat) : Bool := match e.2.1 with
  | .iload_n _ | .aload_n _ | .iconst _ | .iaload | .ireturn | .iadd | .istore_n _ | .iastore | .isub | .baload | .imul | .return_ | .dup | .dup2 | .bastore | .lload_n _ | .iand | .lstore_n _ | .lconst _ | .lcmp | .ishl | .ior | .i2l | .lrem | .lneg | .ldiv | .l2i | .ixor | .arraylength | .pop | .i2b => decide (e.2.2 = 1)
  | .iload _ | .bipush _ | .istore _ => decide (e.2.2 = 2)
  | .getfield _ | .putfield _ | .invokevirtual _ | .invokestatic _ | .sipush _ | .ldc2_w _ | .getstatic _ | .iinc _ _ => decide (e.2.2 = 3)
  | .if_icmp _ off | .ifCond _ off | .goto off => decide (e.2.2 = 3) && ztok e.1 off
  | .tableswitch d lo hi offs => ztok e.1 d && offs.toList.all (ztok e.1) && decide (hi = lo + offs.toList.length - 1) && decide (-1000 ≤ lo) && decide (hi ≤ 1000)
  | .lookupswitch d ps => ztok e.1 d && ps.toList.all (fun q => ztok e.1 q.2 && decide (-1000 ≤ q.1) && decide (q.1 ≤ 1000)) && (ps.toList.zip (ps.toList.drop 1)).all (fun (a, next) => a.1 < next.1)
  | _ => false
def zR : Nat → String
  | 0 => RX0
  | 1 => RX1
  | 2 => RX2
  | 3 => RX3
  | 4 => RX4
  | 5 => RX5
  | 6 => RX6
  | 7 => RL
  | _ => RJ7
/-- what a method gives back: 0 nothing, 1 an int, 2 a boolean -/
def zrt : Nat → Option FieldType
  | 0 => none
  | 1 => some .int
  | _ => some .boolean
/-- a method: its class, what it gives, its locals, its code; its name and bytes -/
abbrev zMe : Type := (Nat × Nat × Nat × zCd) × (MethodName × ByteArray × Option FieldType)
def zP (e : zMe) : Prop := (∀ q ∈ e.1.2.2.2, ∀ x ∈ q.2, decode e.2.2.1 x.1 = .ok x.2 ∧ zlo x = true) ∧ Cond.code e.2.1 e.2.2.1 e.1.2.2.1 e.2.2.2 ∈ wsL_law ∧ plainName e.2.1.cls = true ∧ e.2.2.2 = zrt e.1.2.1 ∧ e.2.1.cls = zR e.1.1 ∧ (e.2.1.cls ≠ "java/lang/invoke/MethodHandle" ∧ e.2.1.cls ≠ "java/lang/invoke/VarHandle") ∧ e.1.2.2.1 ≤ 20
