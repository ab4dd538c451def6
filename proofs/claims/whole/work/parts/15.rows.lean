/-! The cells of the class and of the reference: their arrays' and numbers' rows are s (the class) and t (the reference). By program (gen2.py). -/
def zHp (s t : zS) : zH := [
  .inr (5, [.ref 1, .ref 2, .ref 3, .ref 4, .ref 5, .ref 7, .int (s 1 0)]),
  .inr (0, [.int (s 2 0), .ref 8, .ref 9, .ref 10, .ref 11, .ref 12, .ref 13, .ref 14, .ref 15, .ref 16, .ref 17, .ref 18, .ref 19, .ref 20]),
  .inr (1, [.int (s 16 0), .ref 21, .ref 22]),
  .inr (3, [.ref 1, .int (s 19 0), .ref 23, .ref 24, .ref 25, .ref 26, .ref 27]),
  .inr (2, [.int (s 25 0), .ref 28, .ref 29, .ref 30]),
  .inr (4, [.ref 1, .ref 3, .ref 31, .int (s 30 0), .ref 32, .int (s 32 0), .int (s 33 0)]),
  .inr (6, [.int (t 0 0), .ref 33, .ref 34, .ref 35, .ref 36, .ref 37, .ref 38, .ref 39, .ref 40, .ref 41, .ref 42, .ref 43, .int (t 12 0), .ref 44, .ref 45, .int (t 15 0), .ref 46, .ref 47, .ref 48, .ref 49, .ref 50, .int (t 21 0), .ref 51, .int (t 23 0), .ref 52, .ref 53, .ref 54, .int (t 27 0), .ref 55, .int (t 29 0), .ref 56, .ref 57, .int (t 32 0), .ref 58, .ref 59]),
  .inl (0, 4, .inl (s 0)),
  .inl (0, 12, .inl (s 3)),
  .inl (0, 12, .inl (s 4)),
  .inl (1, 12, .inl (s 5)),
  .inl (0, 12, .inl (s 6)),
  .inl (0, 12, .inl (s 7)),
  .inl (0, 12, .inl (s 8)),
  .inl (0, 12, .inl (s 9)),
  .inl (1, 12, .inl (s 10)),
  .inl (1, 12, .inl (s 11)),
  .inl (0, 60, .inl (s 12)),
  .inl (0, 60, .inl (s 13)),
  .inl (1, 60, .inl (s 14)),
  .inl (0, 60, .inl (s 15)),
  .inl (0, 40, .inl (s 17)),
  .inl (0, 40, .inl (s 18)),
  .inl (0, 100, .inl (s 20)),
  .inl (0, 100, .inl (s 21)),
  .inl (0, 100, .inl (s 22)),
  .inl (1, 100, .inl (s 23)),
  .inl (0, 500, .inl (s 24)),
  .inl (0, 100, .inl (s 26)),
  .inl (0, 100, .inl (s 27)),
  .inl (0, 100, .inl (s 28)),
  .inl (2, 2000, .inl (s 29)),
  .inl (0, 10, .inl (s 31)),
  .inl (0, 12, .inl (t 1)),
  .inl (0, 12, .inl (t 2)),
  .inl (1, 12, .inl (t 3)),
  .inl (0, 12, .inl (t 4)),
  .inl (0, 12, .inl (t 5)),
  .inl (0, 12, .inl (t 6)),
  .inl (0, 60, .inl (t 7)),
  .inl (0, 60, .inl (t 8)),
  .inl (1, 60, .inl (t 9)),
  .inl (0, 60, .inl (t 10)),
  .inl (0, 12, .inl (t 11)),
  .inl (0, 40, .inl (t 13)),
  .inl (0, 40, .inl (t 14)),
  .inl (0, 100, .inl (t 16)),
  .inl (0, 100, .inl (t 17)),
  .inl (0, 100, .inl (t 18)),
  .inl (1, 100, .inl (t 19)),
  .inl (0, 500, .inl (t 20)),
  .inl (0, 4, .inl (t 22)),
  .inl (0, 64, .inl (t 24)),
  .inl (0, 64, .inl (t 25)),
  .inl (0, 64, .inl (t 26)),
  .inl (0, 2000, .inl (t 28)),
  .inl (0, 2000, .inl (t 30)),
  .inl (0, 10, .inl (t 31)),
  .inl (0, 100, .inl (t 33)),
  .inl (0, 100, .inl (t 34))]
/-- the static table of the targets that fit -/
def zft (j : Nat) : Int32 := match j with
  | 0 => 1
  | 1 => 1
  | 2 => 18
  | 3 => 20
  | 4 => 4
  | _ => 24
def ztb (L : Nat) (xs : Nat → Int32) : zTb := fun t => match t with
  | 0 => some (6, zft)
  | 1 => some (L, xs)
  | _ => none
theorem zst_0_6 (s t : zS) (v : Int32) : (zHp s t).set 0 (.inr (5, [.ref 1, .ref 2, .ref 3, .ref 4, .ref 5, .ref 7, .int (s 1 0)].set 6 (.int v))) = zHp (zup s 1 0 v) t := rfl
theorem zst_1_0 (s t : zS) (v : Int32) : (zHp s t).set 1 (.inr (0, [.int (s 2 0), .ref 8, .ref 9, .ref 10, .ref 11, .ref 12, .ref 13, .ref 14, .ref 15, .ref 16, .ref 17, .ref 18, .ref 19, .ref 20].set 0 (.int v))) = zHp (zup s 2 0 v) t := rfl
theorem zst_2_0 (s t : zS) (v : Int32) : (zHp s t).set 2 (.inr (1, [.int (s 16 0), .ref 21, .ref 22].set 0 (.int v))) = zHp (zup s 16 0 v) t := rfl
theorem zst_3_1 (s t : zS) (v : Int32) : (zHp s t).set 3 (.inr (3, [.ref 1, .int (s 19 0), .ref 23, .ref 24, .ref 25, .ref 26, .ref 27].set 1 (.int v))) = zHp (zup s 19 0 v) t := rfl
theorem zst_4_0 (s t : zS) (v : Int32) : (zHp s t).set 4 (.inr (2, [.int (s 25 0), .ref 28, .ref 29, .ref 30].set 0 (.int v))) = zHp (zup s 25 0 v) t := rfl
theorem zst_5_3 (s t : zS) (v : Int32) : (zHp s t).set 5 (.inr (4, [.ref 1, .ref 3, .ref 31, .int (s 30 0), .ref 32, .int (s 32 0), .int (s 33 0)].set 3 (.int v))) = zHp (zup s 30 0 v) t := rfl
theorem zst_5_5 (s t : zS) (v : Int32) : (zHp s t).set 5 (.inr (4, [.ref 1, .ref 3, .ref 31, .int (s 30 0), .ref 32, .int (s 32 0), .int (s 33 0)].set 5 (.int v))) = zHp (zup s 32 0 v) t := rfl
theorem zst_5_6 (s t : zS) (v : Int32) : (zHp s t).set 5 (.inr (4, [.ref 1, .ref 3, .ref 31, .int (s 30 0), .ref 32, .int (s 32 0), .int (s 33 0)].set 6 (.int v))) = zHp (zup s 33 0 v) t := rfl
theorem zst_6_0 (s t : zS) (v : Int32) : (zHp s t).set 6 (.inr (6, [.int (t 0 0), .ref 33, .ref 34, .ref 35, .ref 36, .ref 37, .ref 38, .ref 39, .ref 40, .ref 41, .ref 42, .ref 43, .int (t 12 0), .ref 44, .ref 45, .int (t 15 0), .ref 46, .ref 47, .ref 48, .ref 49, .ref 50, .int (t 21 0), .ref 51, .int (t 23 0), .ref 52, .ref 53, .ref 54, .int (t 27 0), .ref 55, .int (t 29 0), .ref 56, .ref 57, .int (t 32 0), .ref 58, .ref 59].set 0 (.int v))) = zHp s (zup t 0 0 v) := rfl
theorem zst_6_12 (s t : zS) (v : Int32) : (zHp s t).set 6 (.inr (6, [.int (t 0 0), .ref 33, .ref 34, .ref 35, .ref 36, .ref 37, .ref 38, .ref 39, .ref 40, .ref 41, .ref 42, .ref 43, .int (t 12 0), .ref 44, .ref 45, .int (t 15 0), .ref 46, .ref 47, .ref 48, .ref 49, .ref 50, .int (t 21 0), .ref 51, .int (t 23 0), .ref 52, .ref 53, .ref 54, .int (t 27 0), .ref 55, .int (t 29 0), .ref 56, .ref 57, .int (t 32 0), .ref 58, .ref 59].set 12 (.int v))) = zHp s (zup t 12 0 v) := rfl
theorem zst_6_15 (s t : zS) (v : Int32) : (zHp s t).set 6 (.inr (6, [.int (t 0 0), .ref 33, .ref 34, .ref 35, .ref 36, .ref 37, .ref 38, .ref 39, .ref 40, .ref 41, .ref 42, .ref 43, .int (t 12 0), .ref 44, .ref 45, .int (t 15 0), .ref 46, .ref 47, .ref 48, .ref 49, .ref 50, .int (t 21 0), .ref 51, .int (t 23 0), .ref 52, .ref 53, .ref 54, .int (t 27 0), .ref 55, .int (t 29 0), .ref 56, .ref 57, .int (t 32 0), .ref 58, .ref 59].set 15 (.int v))) = zHp s (zup t 15 0 v) := rfl
theorem zst_6_21 (s t : zS) (v : Int32) : (zHp s t).set 6 (.inr (6, [.int (t 0 0), .ref 33, .ref 34, .ref 35, .ref 36, .ref 37, .ref 38, .ref 39, .ref 40, .ref 41, .ref 42, .ref 43, .int (t 12 0), .ref 44, .ref 45, .int (t 15 0), .ref 46, .ref 47, .ref 48, .ref 49, .ref 50, .int (t 21 0), .ref 51, .int (t 23 0), .ref 52, .ref 53, .ref 54, .int (t 27 0), .ref 55, .int (t 29 0), .ref 56, .ref 57, .int (t 32 0), .ref 58, .ref 59].set 21 (.int v))) = zHp s (zup t 21 0 v) := rfl
theorem zst_6_23 (s t : zS) (v : Int32) : (zHp s t).set 6 (.inr (6, [.int (t 0 0), .ref 33, .ref 34, .ref 35, .ref 36, .ref 37, .ref 38, .ref 39, .ref 40, .ref 41, .ref 42, .ref 43, .int (t 12 0), .ref 44, .ref 45, .int (t 15 0), .ref 46, .ref 47, .ref 48, .ref 49, .ref 50, .int (t 21 0), .ref 51, .int (t 23 0), .ref 52, .ref 53, .ref 54, .int (t 27 0), .ref 55, .int (t 29 0), .ref 56, .ref 57, .int (t 32 0), .ref 58, .ref 59].set 23 (.int v))) = zHp s (zup t 23 0 v) := rfl
theorem zst_6_27 (s t : zS) (v : Int32) : (zHp s t).set 6 (.inr (6, [.int (t 0 0), .ref 33, .ref 34, .ref 35, .ref 36, .ref 37, .ref 38, .ref 39, .ref 40, .ref 41, .ref 42, .ref 43, .int (t 12 0), .ref 44, .ref 45, .int (t 15 0), .ref 46, .ref 47, .ref 48, .ref 49, .ref 50, .int (t 21 0), .ref 51, .int (t 23 0), .ref 52, .ref 53, .ref 54, .int (t 27 0), .ref 55, .int (t 29 0), .ref 56, .ref 57, .int (t 32 0), .ref 58, .ref 59].set 27 (.int v))) = zHp s (zup t 27 0 v) := rfl
theorem zst_6_29 (s t : zS) (v : Int32) : (zHp s t).set 6 (.inr (6, [.int (t 0 0), .ref 33, .ref 34, .ref 35, .ref 36, .ref 37, .ref 38, .ref 39, .ref 40, .ref 41, .ref 42, .ref 43, .int (t 12 0), .ref 44, .ref 45, .int (t 15 0), .ref 46, .ref 47, .ref 48, .ref 49, .ref 50, .int (t 21 0), .ref 51, .int (t 23 0), .ref 52, .ref 53, .ref 54, .int (t 27 0), .ref 55, .int (t 29 0), .ref 56, .ref 57, .int (t 32 0), .ref 58, .ref 59].set 29 (.int v))) = zHp s (zup t 29 0 v) := rfl
theorem zst_6_32 (s t : zS) (v : Int32) : (zHp s t).set 6 (.inr (6, [.int (t 0 0), .ref 33, .ref 34, .ref 35, .ref 36, .ref 37, .ref 38, .ref 39, .ref 40, .ref 41, .ref 42, .ref 43, .int (t 12 0), .ref 44, .ref 45, .int (t 15 0), .ref 46, .ref 47, .ref 48, .ref 49, .ref 50, .int (t 21 0), .ref 51, .int (t 23 0), .ref 52, .ref 53, .ref 54, .int (t 27 0), .ref 55, .int (t 29 0), .ref 56, .ref 57, .int (t 32 0), .ref 58, .ref 59].set 32 (.int v))) = zHp s (zup t 32 0 v) := rfl
theorem zst_7 (s t : zS) (j : Nat) (v : Int32) : (zHp s t).set 7 (.inl (0, 4, .inl (upd (s 0) j v))) = zHp (zup s 0 j v) t := rfl
theorem zst_8 (s t : zS) (j : Nat) (v : Int32) : (zHp s t).set 8 (.inl (0, 12, .inl (upd (s 3) j v))) = zHp (zup s 3 j v) t := rfl
theorem zst_9 (s t : zS) (j : Nat) (v : Int32) : (zHp s t).set 9 (.inl (0, 12, .inl (upd (s 4) j v))) = zHp (zup s 4 j v) t := rfl
theorem zst_10 (s t : zS) (j : Nat) (v : Int32) : (zHp s t).set 10 (.inl (1, 12, .inl (upd (s 5) j v))) = zHp (zup s 5 j v) t := rfl
theorem zst_11 (s t : zS) (j : Nat) (v : Int32) : (zHp s t).set 11 (.inl (0, 12, .inl (upd (s 6) j v))) = zHp (zup s 6 j v) t := rfl
theorem zst_12 (s t : zS) (j : Nat) (v : Int32) : (zHp s t).set 12 (.inl (0, 12, .inl (upd (s 7) j v))) = zHp (zup s 7 j v) t := rfl
theorem zst_13 (s t : zS) (j : Nat) (v : Int32) : (zHp s t).set 13 (.inl (0, 12, .inl (upd (s 8) j v))) = zHp (zup s 8 j v) t := rfl
theorem zst_14 (s t : zS) (j : Nat) (v : Int32) : (zHp s t).set 14 (.inl (0, 12, .inl (upd (s 9) j v))) = zHp (zup s 9 j v) t := rfl
theorem zst_15 (s t : zS) (j : Nat) (v : Int32) : (zHp s t).set 15 (.inl (1, 12, .inl (upd (s 10) j v))) = zHp (zup s 10 j v) t := rfl
theorem zst_16 (s t : zS) (j : Nat) (v : Int32) : (zHp s t).set 16 (.inl (1, 12, .inl (upd (s 11) j v))) = zHp (zup s 11 j v) t := rfl
theorem zst_17 (s t : zS) (j : Nat) (v : Int32) : (zHp s t).set 17 (.inl (0, 60, .inl (upd (s 12) j v))) = zHp (zup s 12 j v) t := rfl
theorem zst_18 (s t : zS) (j : Nat) (v : Int32) : (zHp s t).set 18 (.inl (0, 60, .inl (upd (s 13) j v))) = zHp (zup s 13 j v) t := rfl
theorem zst_19 (s t : zS) (j : Nat) (v : Int32) : (zHp s t).set 19 (.inl (1, 60, .inl (upd (s 14) j v))) = zHp (zup s 14 j v) t := rfl
theorem zst_20 (s t : zS) (j : Nat) (v : Int32) : (zHp s t).set 20 (.inl (0, 60, .inl (upd (s 15) j v))) = zHp (zup s 15 j v) t := rfl
theorem zst_21 (s t : zS) (j : Nat) (v : Int32) : (zHp s t).set 21 (.inl (0, 40, .inl (upd (s 17) j v))) = zHp (zup s 17 j v) t := rfl
theorem zst_22 (s t : zS) (j : Nat) (v : Int32) : (zHp s t).set 22 (.inl (0, 40, .inl (upd (s 18) j v))) = zHp (zup s 18 j v) t := rfl
theorem zst_23 (s t : zS) (j : Nat) (v : Int32) : (zHp s t).set 23 (.inl (0, 100, .inl (upd (s 20) j v))) = zHp (zup s 20 j v) t := rfl
theorem zst_24 (s t : zS) (j : Nat) (v : Int32) : (zHp s t).set 24 (.inl (0, 100, .inl (upd (s 21) j v))) = zHp (zup s 21 j v) t := rfl
theorem zst_25 (s t : zS) (j : Nat) (v : Int32) : (zHp s t).set 25 (.inl (0, 100, .inl (upd (s 22) j v))) = zHp (zup s 22 j v) t := rfl
theorem zst_26 (s t : zS) (j : Nat) (v : Int32) : (zHp s t).set 26 (.inl (1, 100, .inl (upd (s 23) j v))) = zHp (zup s 23 j v) t := rfl
theorem zst_27 (s t : zS) (j : Nat) (v : Int32) : (zHp s t).set 27 (.inl (0, 500, .inl (upd (s 24) j v))) = zHp (zup s 24 j v) t := rfl
theorem zst_28 (s t : zS) (j : Nat) (v : Int32) : (zHp s t).set 28 (.inl (0, 100, .inl (upd (s 26) j v))) = zHp (zup s 26 j v) t := rfl
theorem zst_29 (s t : zS) (j : Nat) (v : Int32) : (zHp s t).set 29 (.inl (0, 100, .inl (upd (s 27) j v))) = zHp (zup s 27 j v) t := rfl
theorem zst_30 (s t : zS) (j : Nat) (v : Int32) : (zHp s t).set 30 (.inl (0, 100, .inl (upd (s 28) j v))) = zHp (zup s 28 j v) t := rfl
theorem zst_31 (s t : zS) (j : Nat) (v : Int32) : (zHp s t).set 31 (.inl (2, 2000, .inl (upd (s 29) j v))) = zHp (zup s 29 j v) t := rfl
theorem zst_32 (s t : zS) (j : Nat) (v : Int32) : (zHp s t).set 32 (.inl (0, 10, .inl (upd (s 31) j v))) = zHp (zup s 31 j v) t := rfl
theorem zst_33 (s t : zS) (j : Nat) (v : Int32) : (zHp s t).set 33 (.inl (0, 12, .inl (upd (t 1) j v))) = zHp s (zup t 1 j v) := rfl
theorem zst_34 (s t : zS) (j : Nat) (v : Int32) : (zHp s t).set 34 (.inl (0, 12, .inl (upd (t 2) j v))) = zHp s (zup t 2 j v) := rfl
theorem zst_35 (s t : zS) (j : Nat) (v : Int32) : (zHp s t).set 35 (.inl (1, 12, .inl (upd (t 3) j v))) = zHp s (zup t 3 j v) := rfl
theorem zst_36 (s t : zS) (j : Nat) (v : Int32) : (zHp s t).set 36 (.inl (0, 12, .inl (upd (t 4) j v))) = zHp s (zup t 4 j v) := rfl
theorem zst_37 (s t : zS) (j : Nat) (v : Int32) : (zHp s t).set 37 (.inl (0, 12, .inl (upd (t 5) j v))) = zHp s (zup t 5 j v) := rfl
theorem zst_38 (s t : zS) (j : Nat) (v : Int32) : (zHp s t).set 38 (.inl (0, 12, .inl (upd (t 6) j v))) = zHp s (zup t 6 j v) := rfl
theorem zst_39 (s t : zS) (j : Nat) (v : Int32) : (zHp s t).set 39 (.inl (0, 60, .inl (upd (t 7) j v))) = zHp s (zup t 7 j v) := rfl
theorem zst_40 (s t : zS) (j : Nat) (v : Int32) : (zHp s t).set 40 (.inl (0, 60, .inl (upd (t 8) j v))) = zHp s (zup t 8 j v) := rfl
theorem zst_41 (s t : zS) (j : Nat) (v : Int32) : (zHp s t).set 41 (.inl (1, 60, .inl (upd (t 9) j v))) = zHp s (zup t 9 j v) := rfl
theorem zst_42 (s t : zS) (j : Nat) (v : Int32) : (zHp s t).set 42 (.inl (0, 60, .inl (upd (t 10) j v))) = zHp s (zup t 10 j v) := rfl
theorem zst_43 (s t : zS) (j : Nat) (v : Int32) : (zHp s t).set 43 (.inl (0, 12, .inl (upd (t 11) j v))) = zHp s (zup t 11 j v) := rfl
theorem zst_44 (s t : zS) (j : Nat) (v : Int32) : (zHp s t).set 44 (.inl (0, 40, .inl (upd (t 13) j v))) = zHp s (zup t 13 j v) := rfl
theorem zst_45 (s t : zS) (j : Nat) (v : Int32) : (zHp s t).set 45 (.inl (0, 40, .inl (upd (t 14) j v))) = zHp s (zup t 14 j v) := rfl
theorem zst_46 (s t : zS) (j : Nat) (v : Int32) : (zHp s t).set 46 (.inl (0, 100, .inl (upd (t 16) j v))) = zHp s (zup t 16 j v) := rfl
theorem zst_47 (s t : zS) (j : Nat) (v : Int32) : (zHp s t).set 47 (.inl (0, 100, .inl (upd (t 17) j v))) = zHp s (zup t 17 j v) := rfl
theorem zst_48 (s t : zS) (j : Nat) (v : Int32) : (zHp s t).set 48 (.inl (0, 100, .inl (upd (t 18) j v))) = zHp s (zup t 18 j v) := rfl
theorem zst_49 (s t : zS) (j : Nat) (v : Int32) : (zHp s t).set 49 (.inl (1, 100, .inl (upd (t 19) j v))) = zHp s (zup t 19 j v) := rfl
theorem zst_50 (s t : zS) (j : Nat) (v : Int32) : (zHp s t).set 50 (.inl (0, 500, .inl (upd (t 20) j v))) = zHp s (zup t 20 j v) := rfl
theorem zst_51 (s t : zS) (j : Nat) (v : Int32) : (zHp s t).set 51 (.inl (0, 4, .inl (upd (t 22) j v))) = zHp s (zup t 22 j v) := rfl
theorem zst_52 (s t : zS) (j : Nat) (v : Int32) : (zHp s t).set 52 (.inl (0, 64, .inl (upd (t 24) j v))) = zHp s (zup t 24 j v) := rfl
theorem zst_53 (s t : zS) (j : Nat) (v : Int32) : (zHp s t).set 53 (.inl (0, 64, .inl (upd (t 25) j v))) = zHp s (zup t 25 j v) := rfl
theorem zst_54 (s t : zS) (j : Nat) (v : Int32) : (zHp s t).set 54 (.inl (0, 64, .inl (upd (t 26) j v))) = zHp s (zup t 26 j v) := rfl
theorem zst_55 (s t : zS) (j : Nat) (v : Int32) : (zHp s t).set 55 (.inl (0, 2000, .inl (upd (t 28) j v))) = zHp s (zup t 28 j v) := rfl
theorem zst_56 (s t : zS) (j : Nat) (v : Int32) : (zHp s t).set 56 (.inl (0, 2000, .inl (upd (t 30) j v))) = zHp s (zup t 30 j v) := rfl
theorem zst_57 (s t : zS) (j : Nat) (v : Int32) : (zHp s t).set 57 (.inl (0, 10, .inl (upd (t 31) j v))) = zHp s (zup t 31 j v) := rfl
theorem zst_58 (s t : zS) (j : Nat) (v : Int32) : (zHp s t).set 58 (.inl (0, 100, .inl (upd (t 33) j v))) = zHp s (zup t 33 j v) := rfl
theorem zst_59 (s t : zS) (j : Nat) (v : Int32) : (zHp s t).set 59 (.inl (0, 100, .inl (upd (t 34) j v))) = zHp s (zup t 34 j v) := rfl
theorem zX_pfi {tb : zTb} {cal : zCal} {own rt : Nat} {cd : zCd} {pc : Nat} {lv st : List Value} {h : zH} {r : Option Value × zH} {idx len k ci j : Nat} {y : Nat} {fs : List Value} {x : Int32} {h' : zH} (h1 : zfe cd pc = some (.putfield idx, len)) (h2 : zlook (zfT own) idx = some (ci, j, 0, y)) (h3 : zobj h k ci = some fs) (h4 : decide (j < fs.length) = true) (h5 : h.set k (.inr (ci, fs.set j (.int x))) = h') (kk : zX tb cal own rt cd (pc + len) lv st h' r) : zX tb cal own rt cd pc lv (.int x :: .ref k :: st) h r := by
  subst h5
  exact zX_step h1 rfl (by
    show zputf own idx len pc lv (.int x :: .ref k :: st) h = _
    unfold zputf
    have hc : (zfit 0 x && decide (j < fs.length)) = true := by rw [h4]; simp [zfit]
    simp only [h2, h3, hc, if_true]) kk
theorem zX_pfz {α : Type} {A : Option α} {R : α} {tb : zTb} {cal : zCal} {own rt : Nat} {cd : zCd} {pc : Nat} {lv st : List Value} {h : zH} {r : Option Value × zH} {idx len k ci j : Nat} {y : Nat} {fs : List Value} {x : Int32} {h' : zH} (h1 : zfe cd pc = some (.putfield idx, len)) (h2 : zlook (zfT own) idx = some (ci, j, 1, y)) (h3 : zobj h k ci = some fs) (h4 : decide (j < fs.length) = true) (h5 : h.set k (.inr (ci, fs.set j (.int x))) = h') (hF : zq (x == 0 || x == 1) A = some R) (kk : A = some R → zX tb cal own rt cd (pc + len) lv st h' r) : zX tb cal own rt cd pc lv (.int x :: .ref k :: st) h r := by
  obtain ⟨hz, hA⟩ := zq_ok hF
  subst h5
  exact zX_step h1 rfl (by
    show zputf own idx len pc lv (.int x :: .ref k :: st) h = _
    unfold zputf
    have hc : (zfit 1 x && decide (j < fs.length)) = true := by rw [h4]; simpa [zfit] using hz
    simp only [h2, h3, hc, if_true]) (kk hA)
