/-! What the methods answer, and that the small machine answers so: by program (gen2.py). -/
def f_X3_has (M : Nat) (s : zS) (x1 : Int32) : Option (Int32) :=
  if x1 < 0 then
   some (nI 0)
  else
   if x1 < (s 19 0) then
    some (nI 1)
   else
    some (nI 0)
set_option maxRecDepth 100000 in
set_option maxHeartbeats 4000000 in
theorem t_X3_has {L : Nat} {xs : Nat → Int32} (M : Nat) (s t : zS) (x1 : Int32) (R : Int32) (hF : f_X3_has M s x1 = some R) : zcall (ztb L xs) 1 24 [.ref 3, .int x1] (zHp s t) = some (some (.int R), zHp s t) := by
  unfold f_X3_has at hF
  refine zcall_X (d := 0) (e := zm_X3_has) rfl rfl ?_
  show zX (ztb L xs) (zcall (ztb L xs) 0) 3 2 zk_X3_has 0 [.ref 3, .int x1] [] (zHp s t) _
  refine zX_go (c := 2) (pc' := if x1 < 0 then 16 else 4) (lv' := [.ref 3, .int x1]) (st' := []) (h' := zHp s t) rfl ?_
  refine zX_ite hF (fun c0 hF => ?_) (fun c0 hF => ?_)
  · refine zX_go (c := 1) (pc' := 17) (lv' := [.ref 3, .int x1]) (st' := [.int (nI 0)]) (h' := zHp s t) rfl ?_
    obtain rfl := Option.some.inj hF
    exact zX_retz rfl (by decide)
  · refine zX_go (c := 4) (pc' := if x1 < (s 19 0) then 12 else 16) (lv' := [.ref 3, .int x1]) (st' := []) (h' := zHp s t) rfl ?_
    refine zX_ite hF (fun c0 hF => ?_) (fun c0 hF => ?_)
    · refine zX_go (c := 2) (pc' := 17) (lv' := [.ref 3, .int x1]) (st' := [.int (nI 1)]) (h' := zHp s t) rfl ?_
      obtain rfl := Option.some.inj hF
      exact zX_retz rfl (by decide)
    · refine zX_go (c := 1) (pc' := 17) (lv' := [.ref 3, .int x1]) (st' := [.int (nI 0)]) (h' := zHp s t) rfl ?_
      obtain rfl := Option.some.inj hF
      exact zX_retz rfl (by decide)
def f_X3_isSort (M : Nat) (s : zS) (x1 x2 : Int32) : Option (Int32) :=
  zbd (f_X3_has M s x1) (fun q1 =>
   if q1 = 0 then
    some (nI 0)
   else
    zq (zin x1 100) <|
    if (s 20 x1.toNatClampNeg) = x2 then
     some (nI 1)
    else
     some (nI 0))
set_option maxRecDepth 100000 in
set_option maxHeartbeats 4000000 in
theorem t_X3_isSort {L : Nat} {xs : Nat → Int32} (M : Nat) (s t : zS) (x1 x2 : Int32) (R : Int32) (hF : f_X3_isSort M s x1 x2 = some R) : zcall (ztb L xs) 2 25 [.ref 3, .int x1, .int x2] (zHp s t) = some (some (.int R), zHp s t) := by
  unfold f_X3_isSort at hF
  refine zcall_X (d := 1) (e := zm_X3_isSort) rfl rfl ?_
  show zX (ztb L xs) (zcall (ztb L xs) 1) 3 2 zk_X3_isSort 0 [.ref 3, .int x1, .int x2] [] (zHp s t) _
  refine zX_go (c := 2) (pc' := 2) (lv' := [.ref 3, .int x1, .int x2]) (st' := [.int x1, .ref 3]) (h' := zHp s t) rfl ?_
  obtain ⟨q1, hq, hF⟩ := zbd_ok hF
  refine zX_inv (av := [.ref 3, .int x1]) (st := []) (h' := zHp s t) rfl rfl rfl rfl rfl rfl (zcall_le (t_X3_has M _ _ _ _ hq) (by decide)) ?_
  refine zX_go (c := 1) (pc' := if q1 = 0 then 22 else 8) (lv' := [.ref 3, .int x1, .int x2]) (st' := []) (h' := zHp s t) rfl ?_
  refine zX_ite hF (fun c0 hF => ?_) (fun c0 hF => ?_)
  · refine zX_go (c := 1) (pc' := 23) (lv' := [.ref 3, .int x1, .int x2]) (st' := [.int (nI 0)]) (h' := zHp s t) rfl ?_
    obtain rfl := Option.some.inj hF
    exact zX_retz rfl (by decide)
  · refine zX_go (c := 3) (pc' := 13) (lv' := [.ref 3, .int x1, .int x2]) (st' := [.int x1, .ref 23]) (h' := zHp s t) rfl ?_
    refine zX_ial (n := 100) rfl rfl hF (fun hF => ?_)
    refine zX_go (c := 2) (pc' := if (s 20 x1.toNatClampNeg) = x2 then 18 else 22) (lv' := [.ref 3, .int x1, .int x2]) (st' := []) (h' := zHp s t) rfl ?_
    refine zX_ite hF (fun c0 hF => ?_) (fun c0 hF => ?_)
    · refine zX_go (c := 2) (pc' := 23) (lv' := [.ref 3, .int x1, .int x2]) (st' := [.int (nI 1)]) (h' := zHp s t) rfl ?_
      obtain rfl := Option.some.inj hF
      exact zX_retz rfl (by decide)
    · refine zX_go (c := 1) (pc' := 23) (lv' := [.ref 3, .int x1, .int x2]) (st' := [.int (nI 0)]) (h' := zHp s t) rfl ?_
      obtain rfl := Option.some.inj hF
      exact zX_retz rfl (by decide)
def f_X3_isOfKind (M : Nat) (s : zS) (x1 x2 : Int32) : Option (Int32) :=
  zbd (f_X3_has M s x1) (fun q1 =>
   if q1 = 0 then
    some (nI 0)
   else
    zq (zin x1 100) <|
    if (s 20 x1.toNatClampNeg) = (nI 1) then
     some (nI 0)
    else
     zq (zin x1 100) <|
     if (s 21 x1.toNatClampNeg) = x2 then
      some (nI 1)
     else
      some (nI 0))
set_option maxRecDepth 100000 in
set_option maxHeartbeats 4000000 in
theorem t_X3_isOfKind {L : Nat} {xs : Nat → Int32} (M : Nat) (s t : zS) (x1 x2 : Int32) (R : Int32) (hF : f_X3_isOfKind M s x1 x2 = some R) : zcall (ztb L xs) 2 26 [.ref 3, .int x1, .int x2] (zHp s t) = some (some (.int R), zHp s t) := by
  unfold f_X3_isOfKind at hF
  refine zcall_X (d := 1) (e := zm_X3_isOfKind) rfl rfl ?_
  show zX (ztb L xs) (zcall (ztb L xs) 1) 3 2 zk_X3_isOfKind 0 [.ref 3, .int x1, .int x2] [] (zHp s t) _
  refine zX_go (c := 2) (pc' := 2) (lv' := [.ref 3, .int x1, .int x2]) (st' := [.int x1, .ref 3]) (h' := zHp s t) rfl ?_
  obtain ⟨q1, hq, hF⟩ := zbd_ok hF
  refine zX_inv (av := [.ref 3, .int x1]) (st := []) (h' := zHp s t) rfl rfl rfl rfl rfl rfl (zcall_le (t_X3_has M _ _ _ _ hq) (by decide)) ?_
  refine zX_go (c := 1) (pc' := if q1 = 0 then 32 else 8) (lv' := [.ref 3, .int x1, .int x2]) (st' := []) (h' := zHp s t) rfl ?_
  refine zX_ite hF (fun c0 hF => ?_) (fun c0 hF => ?_)
  · refine zX_go (c := 1) (pc' := 33) (lv' := [.ref 3, .int x1, .int x2]) (st' := [.int (nI 0)]) (h' := zHp s t) rfl ?_
    obtain rfl := Option.some.inj hF
    exact zX_retz rfl (by decide)
  · refine zX_go (c := 3) (pc' := 13) (lv' := [.ref 3, .int x1, .int x2]) (st' := [.int x1, .ref 23]) (h' := zHp s t) rfl ?_
    refine zX_ial (n := 100) rfl rfl hF (fun hF => ?_)
    refine zX_go (c := 2) (pc' := if (s 20 x1.toNatClampNeg) = (nI 1) then 32 else 18) (lv' := [.ref 3, .int x1, .int x2]) (st' := []) (h' := zHp s t) rfl ?_
    refine zX_ite hF (fun c0 hF => ?_) (fun c0 hF => ?_)
    · refine zX_go (c := 1) (pc' := 33) (lv' := [.ref 3, .int x1, .int x2]) (st' := [.int (nI 0)]) (h' := zHp s t) rfl ?_
      obtain rfl := Option.some.inj hF
      exact zX_retz rfl (by decide)
    · refine zX_go (c := 3) (pc' := 23) (lv' := [.ref 3, .int x1, .int x2]) (st' := [.int x1, .ref 24]) (h' := zHp s t) rfl ?_
      refine zX_ial (n := 100) rfl rfl hF (fun hF => ?_)
      refine zX_go (c := 2) (pc' := if (s 21 x1.toNatClampNeg) = x2 then 28 else 32) (lv' := [.ref 3, .int x1, .int x2]) (st' := []) (h' := zHp s t) rfl ?_
      refine zX_ite hF (fun c0 hF => ?_) (fun c0 hF => ?_)
      · refine zX_go (c := 2) (pc' := 33) (lv' := [.ref 3, .int x1, .int x2]) (st' := [.int (nI 1)]) (h' := zHp s t) rfl ?_
        obtain rfl := Option.some.inj hF
        exact zX_retz rfl (by decide)
      · refine zX_go (c := 1) (pc' := 33) (lv' := [.ref 3, .int x1, .int x2]) (st' := [.int (nI 0)]) (h' := zHp s t) rfl ?_
        obtain rfl := Option.some.inj hF
        exact zX_retz rfl (by decide)
def f_X3_isRowOf (M : Nat) (s : zS) (x1 x2 : Int32) : Option (Int32) :=
  zbd (f_X3_isSort M s x1 (nI 1)) (fun q1 =>
   if q1 = 0 then
    some (nI 0)
   else
    zq (zin x1 100) <|
    if (s 21 x1.toNatClampNeg) = x2 then
     some (nI 1)
    else
     some (nI 0))
set_option maxRecDepth 100000 in
set_option maxHeartbeats 4000000 in
theorem t_X3_isRowOf {L : Nat} {xs : Nat → Int32} (M : Nat) (s t : zS) (x1 x2 : Int32) (R : Int32) (hF : f_X3_isRowOf M s x1 x2 = some R) : zcall (ztb L xs) 3 27 [.ref 3, .int x1, .int x2] (zHp s t) = some (some (.int R), zHp s t) := by
  unfold f_X3_isRowOf at hF
  refine zcall_X (d := 2) (e := zm_X3_isRowOf) rfl rfl ?_
  show zX (ztb L xs) (zcall (ztb L xs) 2) 3 2 zk_X3_isRowOf 0 [.ref 3, .int x1, .int x2] [] (zHp s t) _
  refine zX_go (c := 3) (pc' := 3) (lv' := [.ref 3, .int x1, .int x2]) (st' := [.int (nI 1), .int x1, .ref 3]) (h' := zHp s t) rfl ?_
  obtain ⟨q1, hq, hF⟩ := zbd_ok hF
  refine zX_inv (av := [.ref 3, .int x1, .int (nI 1)]) (st := []) (h' := zHp s t) rfl rfl rfl rfl rfl rfl (zcall_le (t_X3_isSort M _ _ _ _ _ hq) (by decide)) ?_
  refine zX_go (c := 1) (pc' := if q1 = 0 then 23 else 9) (lv' := [.ref 3, .int x1, .int x2]) (st' := []) (h' := zHp s t) rfl ?_
  refine zX_ite hF (fun c0 hF => ?_) (fun c0 hF => ?_)
  · refine zX_go (c := 1) (pc' := 24) (lv' := [.ref 3, .int x1, .int x2]) (st' := [.int (nI 0)]) (h' := zHp s t) rfl ?_
    obtain rfl := Option.some.inj hF
    exact zX_retz rfl (by decide)
  · refine zX_go (c := 3) (pc' := 14) (lv' := [.ref 3, .int x1, .int x2]) (st' := [.int x1, .ref 24]) (h' := zHp s t) rfl ?_
    refine zX_ial (n := 100) rfl rfl hF (fun hF => ?_)
    refine zX_go (c := 2) (pc' := if (s 21 x1.toNatClampNeg) = x2 then 19 else 23) (lv' := [.ref 3, .int x1, .int x2]) (st' := []) (h' := zHp s t) rfl ?_
    refine zX_ite hF (fun c0 hF => ?_) (fun c0 hF => ?_)
    · refine zX_go (c := 2) (pc' := 24) (lv' := [.ref 3, .int x1, .int x2]) (st' := [.int (nI 1)]) (h' := zHp s t) rfl ?_
      obtain rfl := Option.some.inj hF
      exact zX_retz rfl (by decide)
    · refine zX_go (c := 1) (pc' := 24) (lv' := [.ref 3, .int x1, .int x2]) (st' := [.int (nI 0)]) (h' := zHp s t) rfl ?_
      obtain rfl := Option.some.inj hF
      exact zX_retz rfl (by decide)
def f_X3_markOf (M : Nat) (s : zS) (x1 : Int32) : Option (Int32) :=
  zq (zin x1 100) <|
  some ((s 21 x1.toNatClampNeg) - (nI 10))
set_option maxRecDepth 100000 in
set_option maxHeartbeats 4000000 in
theorem t_X3_markOf {L : Nat} {xs : Nat → Int32} (M : Nat) (s t : zS) (x1 : Int32) (R : Int32) (hF : f_X3_markOf M s x1 = some R) : zcall (ztb L xs) 1 28 [.ref 3, .int x1] (zHp s t) = some (some (.int R), zHp s t) := by
  unfold f_X3_markOf at hF
  refine zcall_X (d := 0) (e := zm_X3_markOf) rfl rfl ?_
  show zX (ztb L xs) (zcall (ztb L xs) 0) 3 1 zk_X3_markOf 0 [.ref 3, .int x1] [] (zHp s t) _
  refine zX_go (c := 3) (pc' := 5) (lv' := [.ref 3, .int x1]) (st' := [.int x1, .ref 24]) (h' := zHp s t) rfl ?_
  refine zX_ial (n := 100) rfl rfl hF (fun hF => ?_)
  refine zX_go (c := 2) (pc' := 9) (lv' := [.ref 3, .int x1]) (st' := [.int ((s 21 x1.toNatClampNeg) - (nI 10))]) (h' := zHp s t) rfl ?_
  obtain rfl := Option.some.inj hF
  exact zX_reti rfl
def f_X3_add (M : Nat) (s : zS) (x1 x2 x3 : Int32) : Option (Int32 × zS) :=
  if (s 19 0) < (nI 100) then
   zq (zin (s 19 0) 100) <|
   zq (zin (s 19 0) 100) <|
   zq (zin (s 19 0) 100) <|
   some (((s 19 0) + (nI 1)) - (nI 1), zup (zup (zup (zup s 20 (s 19 0).toNatClampNeg x1) 21 (s 19 0).toNatClampNeg x2) 22 (s 19 0).toNatClampNeg x3) 19 0 ((s 19 0) + (nI 1)))
  else
   some ((-3), s)
set_option maxRecDepth 100000 in
set_option maxHeartbeats 4000000 in
theorem t_X3_add {L : Nat} {xs : Nat → Int32} (M : Nat) (s t : zS) (x1 x2 x3 : Int32) (R : Int32 × zS) (hF : f_X3_add M s x1 x2 x3 = some R) : zcall (ztb L xs) 1 29 [.ref 3, .int x1, .int x2, .int x3] (zHp s t) = some (some (.int R.1), zHp R.2 t) := by
  unfold f_X3_add at hF
  refine zcall_X (d := 0) (e := zm_X3_add) rfl rfl ?_
  show zX (ztb L xs) (zcall (ztb L xs) 0) 3 1 zk_X3_add 0 [.ref 3, .int x1, .int x2, .int x3] [] (zHp s t) _
  refine zX_go (c := 4) (pc' := if (s 19 0) < (nI 100) then 12 else 9) (lv' := [.ref 3, .int x1, .int x2, .int x3]) (st' := []) (h' := zHp s t) rfl ?_
  refine zX_ite hF (fun c0 hF => ?_) (fun c0 hF => ?_)
  · refine zX_go (c := 5) (pc' := 21) (lv' := [.ref 3, .int x1, .int x2, .int x3]) (st' := [.int x1, .int (s 19 0), .ref 23]) (h' := zHp s t) rfl ?_
    refine zX_ias (n := 100) (h' := zHp (zup s 20 (s 19 0).toNatClampNeg x1) t) rfl rfl (zst_23 _ _ _ _) hF (fun hF => ?_)
    refine zX_go (c := 5) (pc' := 31) (lv' := [.ref 3, .int x1, .int x2, .int x3]) (st' := [.int x2, .int (s 19 0), .ref 24]) (h' := zHp (zup s 20 (s 19 0).toNatClampNeg x1) t) rfl ?_
    refine zX_ias (n := 100) (h' := zHp (zup (zup s 20 (s 19 0).toNatClampNeg x1) 21 (s 19 0).toNatClampNeg x2) t) rfl rfl (zst_24 _ _ _ _) hF (fun hF => ?_)
    refine zX_go (c := 5) (pc' := 41) (lv' := [.ref 3, .int x1, .int x2, .int x3]) (st' := [.int x3, .int (s 19 0), .ref 25]) (h' := zHp (zup (zup s 20 (s 19 0).toNatClampNeg x1) 21 (s 19 0).toNatClampNeg x2) t) rfl ?_
    refine zX_ias (n := 100) (h' := zHp (zup (zup (zup s 20 (s 19 0).toNatClampNeg x1) 21 (s 19 0).toNatClampNeg x2) 22 (s 19 0).toNatClampNeg x3) t) rfl rfl (zst_25 _ _ _ _) hF (fun hF => ?_)
    refine zX_go (c := 5) (pc' := 49) (lv' := [.ref 3, .int x1, .int x2, .int x3]) (st' := [.int ((s 19 0) + (nI 1)), .ref 3]) (h' := zHp (zup (zup (zup s 20 (s 19 0).toNatClampNeg x1) 21 (s 19 0).toNatClampNeg x2) 22 (s 19 0).toNatClampNeg x3) t) rfl ?_
    refine zX_pfi (h' := zHp (zup (zup (zup (zup s 20 (s 19 0).toNatClampNeg x1) 21 (s 19 0).toNatClampNeg x2) 22 (s 19 0).toNatClampNeg x3) 19 0 ((s 19 0) + (nI 1))) t) rfl rfl rfl rfl (zst_3_1 _ _ _) ?_
    refine zX_go (c := 4) (pc' := 58) (lv' := [.ref 3, .int x1, .int x2, .int x3]) (st' := [.int (((s 19 0) + (nI 1)) - (nI 1))]) (h' := zHp (zup (zup (zup (zup s 20 (s 19 0).toNatClampNeg x1) 21 (s 19 0).toNatClampNeg x2) 22 (s 19 0).toNatClampNeg x3) 19 0 ((s 19 0) + (nI 1))) t) rfl ?_
    obtain rfl := Option.some.inj hF
    exact zX_reti rfl
  · refine zX_go (c := 1) (pc' := 11) (lv' := [.ref 3, .int x1, .int x2, .int x3]) (st' := [.int (-3)]) (h' := zHp s t) rfl ?_
    obtain rfl := Option.some.inj hF
    exact zX_reti rfl
def f_X3_finish (M : Nat) (s : zS) (x1 : Int32) : Option (zS) :=
  zq (zin x1 100) <|
  if (s 20 x1.toNatClampNeg) = 0 then
   zq (zin x1 100) <|
   some (zup s 23 x1.toNatClampNeg (zbn 1 (nI 0)))
  else
   zq (zin x1 100) <|
   some (zup s 23 x1.toNatClampNeg (zbn 1 (nI 1)))
set_option maxRecDepth 100000 in
set_option maxHeartbeats 4000000 in
theorem t_X3_finish {L : Nat} {xs : Nat → Int32} (M : Nat) (s t : zS) (x1 : Int32) (R : zS) (hF : f_X3_finish M s x1 = some R) : zcall (ztb L xs) 1 33 [.ref 3, .int x1] (zHp s t) = some (none, zHp R t) := by
  unfold f_X3_finish at hF
  refine zcall_X (d := 0) (e := zm_X3_finish) rfl rfl ?_
  show zX (ztb L xs) (zcall (ztb L xs) 0) 3 0 zk_X3_finish 0 [.ref 3, .int x1] [] (zHp s t) _
  refine zX_go (c := 6) (pc' := 10) (lv' := [.ref 3, .int x1]) (st' := [.int x1, .ref 23, .int x1, .ref 26]) (h' := zHp s t) rfl ?_
  refine zX_ial (n := 100) rfl rfl hF (fun hF => ?_)
  refine zX_go (c := 1) (pc' := if (s 20 x1.toNatClampNeg) = 0 then 18 else 14) (lv' := [.ref 3, .int x1]) (st' := [.int x1, .ref 26]) (h' := zHp s t) rfl ?_
  refine zX_ite hF (fun c0 hF => ?_) (fun c0 hF => ?_)
  · refine zX_go (c := 1) (pc' := 19) (lv' := [.ref 3, .int x1]) (st' := [.int (nI 0), .int x1, .ref 26]) (h' := zHp s t) rfl ?_
    refine zX_bas (n := 100) (h' := zHp (zup s 23 x1.toNatClampNeg (zbn 1 (nI 0))) t) rfl rfl (zst_26 _ _ _ _) hF (fun hF => ?_)
    obtain rfl := Option.some.inj hF
    exact zX_retv rfl
  · refine zX_go (c := 2) (pc' := 19) (lv' := [.ref 3, .int x1]) (st' := [.int (nI 1), .int x1, .ref 26]) (h' := zHp s t) rfl ?_
    refine zX_bas (n := 100) (h' := zHp (zup s 23 x1.toNatClampNeg (zbn 1 (nI 1))) t) rfl rfl (zst_26 _ _ _ _) hF (fun hF => ?_)
    obtain rfl := Option.some.inj hF
    exact zX_retv rfl
def f_X3_append (M : Nat) (s : zS) (x1 x2 : Int32) : Option (Int32 × zS) :=
  zq (zin x1 100) <|
  zq (zin ((x1 * (nI 5)) + (s 22 x1.toNatClampNeg)) 500) <|
  zq (zin x1 100) <|
  zq (zin x1 100) <|
  zbd (f_X3_finish M (zup (zup s 24 ((x1 * (nI 5)) + (s 22 x1.toNatClampNeg)).toNatClampNeg x2) 22 x1.toNatClampNeg ((s 22 x1.toNatClampNeg) + (nI 1))) x2) (fun q1 =>
   zq (zin x1 100) <|
   some (q1 22 x1.toNatClampNeg, q1))
set_option maxRecDepth 100000 in
set_option maxHeartbeats 4000000 in
theorem t_X3_append {L : Nat} {xs : Nat → Int32} (M : Nat) (s t : zS) (x1 x2 : Int32) (R : Int32 × zS) (hF : f_X3_append M s x1 x2 = some R) : zcall (ztb L xs) 2 31 [.ref 3, .int x1, .int x2] (zHp s t) = some (some (.int R.1), zHp R.2 t) := by
  unfold f_X3_append at hF
  refine zcall_X (d := 1) (e := zm_X3_append) rfl rfl ?_
  show zX (ztb L xs) (zcall (ztb L xs) 1) 3 1 zk_X3_append 0 [.ref 3, .int x1, .int x2] [] (zHp s t) _
  refine zX_go (c := 8) (pc' := 12) (lv' := [.ref 3, .int x1, .int x2]) (st' := [.int x1, .ref 25, .int (x1 * (nI 5)), .ref 27]) (h' := zHp s t) rfl ?_
  refine zX_ial (n := 100) rfl rfl hF (fun hF => ?_)
  refine zX_go (c := 2) (pc' := 15) (lv' := [.ref 3, .int x1, .int x2]) (st' := [.int x2, .int ((x1 * (nI 5)) + (s 22 x1.toNatClampNeg)), .ref 27]) (h' := zHp s t) rfl ?_
  refine zX_ias (n := 500) (h' := zHp (zup s 24 ((x1 * (nI 5)) + (s 22 x1.toNatClampNeg)).toNatClampNeg x2) t) rfl rfl (zst_27 _ _ _ _) hF (fun hF => ?_)
  refine zX_go (c := 4) (pc' := 22) (lv' := [.ref 3, .int x1, .int x2]) (st' := [.int x1, .ref 25, .int x1, .ref 25]) (h' := zHp (zup s 24 ((x1 * (nI 5)) + (s 22 x1.toNatClampNeg)).toNatClampNeg x2) t) rfl ?_
  refine zX_ial (n := 100) rfl rfl hF (fun hF => ?_)
  refine zX_go (c := 2) (pc' := 25) (lv' := [.ref 3, .int x1, .int x2]) (st' := [.int ((s 22 x1.toNatClampNeg) + (nI 1)), .int x1, .ref 25]) (h' := zHp (zup s 24 ((x1 * (nI 5)) + (s 22 x1.toNatClampNeg)).toNatClampNeg x2) t) rfl ?_
  refine zX_ias (n := 100) (h' := zHp (zup (zup s 24 ((x1 * (nI 5)) + (s 22 x1.toNatClampNeg)).toNatClampNeg x2) 22 x1.toNatClampNeg ((s 22 x1.toNatClampNeg) + (nI 1))) t) rfl rfl (zst_25 _ _ _ _) hF (fun hF => ?_)
  refine zX_go (c := 2) (pc' := 28) (lv' := [.ref 3, .int x1, .int x2]) (st' := [.int x2, .ref 3]) (h' := zHp (zup (zup s 24 ((x1 * (nI 5)) + (s 22 x1.toNatClampNeg)).toNatClampNeg x2) 22 x1.toNatClampNeg ((s 22 x1.toNatClampNeg) + (nI 1))) t) rfl ?_
  obtain ⟨q1, hq, hF⟩ := zbd_ok hF
  refine zX_inv (av := [.ref 3, .int x2]) (st := []) (h' := zHp q1 t) rfl rfl rfl rfl rfl rfl (zcall_le (t_X3_finish M _ _ _ _ hq) (by decide)) ?_
  refine zX_go (c := 3) (pc' := 36) (lv' := [.ref 3, .int x1, .int x2]) (st' := [.int x1, .ref 25]) (h' := zHp q1 t) rfl ?_
  refine zX_ial (n := 100) rfl rfl hF (fun hF => ?_)
  obtain rfl := Option.some.inj hF
  exact zX_reti rfl
def f_X3_addRowOfOne (M : Nat) (s : zS) (x1 x2 : Int32) : Option (Int32 × zS) :=
  zbd (f_X3_add M s (nI 1) x1 (nI 0)) (fun q1 =>
   if q1.1 = (-3) then
    some (q1.1, q1.2)
   else
    zbd (f_X3_append M q1.2 q1.1 x2) (fun q2 =>
     some (q1.1, q2.2)))
set_option maxRecDepth 100000 in
set_option maxHeartbeats 4000000 in
theorem t_X3_addRowOfOne {L : Nat} {xs : Nat → Int32} (M : Nat) (s t : zS) (x1 x2 : Int32) (R : Int32 × zS) (hF : f_X3_addRowOfOne M s x1 x2 = some R) : zcall (ztb L xs) 3 30 [.ref 3, .int x1, .int x2] (zHp s t) = some (some (.int R.1), zHp R.2 t) := by
  unfold f_X3_addRowOfOne at hF
  refine zcall_X (d := 2) (e := zm_X3_addRowOfOne) rfl rfl ?_
  show zX (ztb L xs) (zcall (ztb L xs) 2) 3 1 zk_X3_addRowOfOne 0 [.ref 3, .int x1, .int x2, .retAddr 0] [] (zHp s t) _
  refine zX_go (c := 4) (pc' := 4) (lv' := [.ref 3, .int x1, .int x2, .retAddr 0]) (st' := [.int (nI 0), .int x1, .int (nI 1), .ref 3]) (h' := zHp s t) rfl ?_
  obtain ⟨q1, hq, hF⟩ := zbd_ok hF
  refine zX_inv (av := [.ref 3, .int (nI 1), .int x1, .int (nI 0)]) (st := []) (h' := zHp q1.2 t) rfl rfl rfl rfl rfl rfl (zcall_le (t_X3_add M _ _ _ _ _ _ hq) (by decide)) ?_
  refine zX_go (c := 4) (pc' := if q1.1 = (-3) then 21 else 14) (lv' := [.ref 3, .int x1, .int x2, .int q1.1]) (st' := []) (h' := zHp q1.2 t) rfl ?_
  refine zX_ite hF (fun c0 hF => ?_) (fun c0 hF => ?_)
  · refine zX_go (c := 1) (pc' := 22) (lv' := [.ref 3, .int x1, .int x2, .int q1.1]) (st' := [.int q1.1]) (h' := zHp q1.2 t) rfl ?_
    obtain rfl := Option.some.inj hF
    exact zX_reti rfl
  · refine zX_go (c := 3) (pc' := 17) (lv' := [.ref 3, .int x1, .int x2, .int q1.1]) (st' := [.int x2, .int q1.1, .ref 3]) (h' := zHp q1.2 t) rfl ?_
    obtain ⟨q2, hq, hF⟩ := zbd_ok hF
    refine zX_inv (av := [.ref 3, .int q1.1, .int x2]) (st := []) (h' := zHp q2.2 t) rfl rfl rfl rfl rfl rfl (zcall_le (t_X3_append M _ _ _ _ _ hq) (by decide)) ?_
    refine zX_go (c := 2) (pc' := 22) (lv' := [.ref 3, .int x1, .int x2, .int q1.1]) (st' := [.int q1.1]) (h' := zHp q2.2 t) rfl ?_
    obtain rfl := Option.some.inj hF
    exact zX_reti rfl
def f_X3_setElement (M : Nat) (s : zS) (x1 x2 x3 : Int32) : Option (zS) :=
  zq (zin ((x1 * (nI 5)) + x2) 500) <|
  zq (zin x1 100) <|
  zq (zin x1 100) <|
  some (zup (zup s 24 ((x1 * (nI 5)) + x2).toNatClampNeg x3) 22 x1.toNatClampNeg ((s 22 x1.toNatClampNeg) + (nI 1)))
set_option maxRecDepth 100000 in
set_option maxHeartbeats 4000000 in
theorem t_X3_setElement {L : Nat} {xs : Nat → Int32} (M : Nat) (s t : zS) (x1 x2 x3 : Int32) (R : zS) (hF : f_X3_setElement M s x1 x2 x3 = some R) : zcall (ztb L xs) 1 32 [.ref 3, .int x1, .int x2, .int x3] (zHp s t) = some (none, zHp R t) := by
  unfold f_X3_setElement at hF
  refine zcall_X (d := 0) (e := zm_X3_setElement) rfl rfl ?_
  show zX (ztb L xs) (zcall (ztb L xs) 0) 3 0 zk_X3_setElement 0 [.ref 3, .int x1, .int x2, .int x3] [] (zHp s t) _
  refine zX_go (c := 8) (pc' := 10) (lv' := [.ref 3, .int x1, .int x2, .int x3]) (st' := [.int x3, .int ((x1 * (nI 5)) + x2), .ref 27]) (h' := zHp s t) rfl ?_
  refine zX_ias (n := 500) (h' := zHp (zup s 24 ((x1 * (nI 5)) + x2).toNatClampNeg x3) t) rfl rfl (zst_27 _ _ _ _) hF (fun hF => ?_)
  refine zX_go (c := 4) (pc' := 17) (lv' := [.ref 3, .int x1, .int x2, .int x3]) (st' := [.int x1, .ref 25, .int x1, .ref 25]) (h' := zHp (zup s 24 ((x1 * (nI 5)) + x2).toNatClampNeg x3) t) rfl ?_
  refine zX_ial (n := 100) rfl rfl hF (fun hF => ?_)
  refine zX_go (c := 2) (pc' := 20) (lv' := [.ref 3, .int x1, .int x2, .int x3]) (st' := [.int ((s 22 x1.toNatClampNeg) + (nI 1)), .int x1, .ref 25]) (h' := zHp (zup s 24 ((x1 * (nI 5)) + x2).toNatClampNeg x3) t) rfl ?_
  refine zX_ias (n := 100) (h' := zHp (zup (zup s 24 ((x1 * (nI 5)) + x2).toNatClampNeg x3) 22 x1.toNatClampNeg ((s 22 x1.toNatClampNeg) + (nI 1))) t) rfl rfl (zst_25 _ _ _ _) hF (fun hF => ?_)
  obtain rfl := Option.some.inj hF
  exact zX_retv rfl
def f_X3_partAt (M : Nat) (s : zS) (x1 x2 : Int32) : Option (Int32) :=
  zq (zin ((x1 * (nI 5)) + x2) 500) <|
  some (s 24 ((x1 * (nI 5)) + x2).toNatClampNeg)
set_option maxRecDepth 100000 in
set_option maxHeartbeats 4000000 in
theorem t_X3_partAt {L : Nat} {xs : Nat → Int32} (M : Nat) (s t : zS) (x1 x2 : Int32) (R : Int32) (hF : f_X3_partAt M s x1 x2 = some R) : zcall (ztb L xs) 1 34 [.ref 3, .int x1, .int x2] (zHp s t) = some (some (.int R), zHp s t) := by
  unfold f_X3_partAt at hF
  refine zcall_X (d := 0) (e := zm_X3_partAt) rfl rfl ?_
  show zX (ztb L xs) (zcall (ztb L xs) 0) 3 1 zk_X3_partAt 0 [.ref 3, .int x1, .int x2] [] (zHp s t) _
  refine zX_go (c := 7) (pc' := 9) (lv' := [.ref 3, .int x1, .int x2]) (st' := [.int ((x1 * (nI 5)) + x2), .ref 27]) (h' := zHp s t) rfl ?_
  refine zX_ial (n := 500) rfl rfl hF (fun hF => ?_)
  obtain rfl := Option.some.inj hF
  exact zX_reti rfl
def f_X3_inRow (M : Nat) (s : zS) (x1 x2 : Int32) : Option (Int32) :=
  zbd (f_X3_isSort M s x1 (nI 1)) (fun q1 =>
   if q1 = 0 then
    some (-1)
   else
    if x2 < 0 then
     some (-1)
    else
     zq (zin x1 100) <|
     if x2 < (s 22 x1.toNatClampNeg) then
      zbd (f_X3_partAt M s x1 x2) (fun q2 =>
       some q2)
     else
      some (-1))
set_option maxRecDepth 100000 in
set_option maxHeartbeats 4000000 in
theorem t_X3_inRow {L : Nat} {xs : Nat → Int32} (M : Nat) (s t : zS) (x1 x2 : Int32) (R : Int32) (hF : f_X3_inRow M s x1 x2 = some R) : zcall (ztb L xs) 3 35 [.ref 3, .int x1, .int x2] (zHp s t) = some (some (.int R), zHp s t) := by
  unfold f_X3_inRow at hF
  refine zcall_X (d := 2) (e := zm_X3_inRow) rfl rfl ?_
  show zX (ztb L xs) (zcall (ztb L xs) 2) 3 1 zk_X3_inRow 0 [.ref 3, .int x1, .int x2] [] (zHp s t) _
  refine zX_go (c := 3) (pc' := 3) (lv' := [.ref 3, .int x1, .int x2]) (st' := [.int (nI 1), .int x1, .ref 3]) (h' := zHp s t) rfl ?_
  obtain ⟨q1, hq, hF⟩ := zbd_ok hF
  refine zX_inv (av := [.ref 3, .int x1, .int (nI 1)]) (st := []) (h' := zHp s t) rfl rfl rfl rfl rfl rfl (zcall_le (t_X3_isSort M _ _ _ _ _ hq) (by decide)) ?_
  refine zX_go (c := 1) (pc' := if q1 = 0 then 32 else 9) (lv' := [.ref 3, .int x1, .int x2]) (st' := []) (h' := zHp s t) rfl ?_
  refine zX_ite hF (fun c0 hF => ?_) (fun c0 hF => ?_)
  · refine zX_go (c := 1) (pc' := 33) (lv' := [.ref 3, .int x1, .int x2]) (st' := [.int (-1)]) (h' := zHp s t) rfl ?_
    obtain rfl := Option.some.inj hF
    exact zX_reti rfl
  · refine zX_go (c := 2) (pc' := if x2 < 0 then 32 else 13) (lv' := [.ref 3, .int x1, .int x2]) (st' := []) (h' := zHp s t) rfl ?_
    refine zX_ite hF (fun c0 hF => ?_) (fun c0 hF => ?_)
    · refine zX_go (c := 1) (pc' := 33) (lv' := [.ref 3, .int x1, .int x2]) (st' := [.int (-1)]) (h' := zHp s t) rfl ?_
      obtain rfl := Option.some.inj hF
      exact zX_reti rfl
    · refine zX_go (c := 4) (pc' := 19) (lv' := [.ref 3, .int x1, .int x2]) (st' := [.int x1, .ref 25, .int x2]) (h' := zHp s t) rfl ?_
      refine zX_ial (n := 100) rfl rfl hF (fun hF => ?_)
      refine zX_go (c := 1) (pc' := if x2 < (s 22 x1.toNatClampNeg) then 23 else 32) (lv' := [.ref 3, .int x1, .int x2]) (st' := []) (h' := zHp s t) rfl ?_
      refine zX_ite hF (fun c0 hF => ?_) (fun c0 hF => ?_)
      · refine zX_go (c := 3) (pc' := 26) (lv' := [.ref 3, .int x1, .int x2]) (st' := [.int x2, .int x1, .ref 3]) (h' := zHp s t) rfl ?_
        obtain ⟨q2, hq, hF⟩ := zbd_ok hF
        refine zX_inv (av := [.ref 3, .int x1, .int x2]) (st := []) (h' := zHp s t) rfl rfl rfl rfl rfl rfl (zcall_le (t_X3_partAt M _ _ _ _ _ hq) (by decide)) ?_
        refine zX_go (c := 1) (pc' := 33) (lv' := [.ref 3, .int x1, .int x2]) (st' := [.int q2]) (h' := zHp s t) rfl ?_
        obtain rfl := Option.some.inj hF
        exact zX_reti rfl
      · refine zX_go (c := 1) (pc' := 33) (lv' := [.ref 3, .int x1, .int x2]) (st' := [.int (-1)]) (h' := zHp s t) rfl ?_
        obtain rfl := Option.some.inj hF
        exact zX_reti rfl
def f_X3_elementAt (M : Nat) (s : zS) (x1 x2 : Int32) : Option (Int32) :=
  zbd (f_X3_partAt M s x1 x2) (fun q1 =>
   if q1 = (-1) then
    zbd (f_X3_markOf M s x1) (fun q2 =>
     zq (zin ((q2 * (nI 5)) + x2) 60) <|
     some (s 15 ((q2 * (nI 5)) + x2).toNatClampNeg))
   else
    some q1)
set_option maxRecDepth 100000 in
set_option maxHeartbeats 4000000 in
theorem t_X3_elementAt {L : Nat} {xs : Nat → Int32} (M : Nat) (s t : zS) (x1 x2 : Int32) (R : Int32) (hF : f_X3_elementAt M s x1 x2 = some R) : zcall (ztb L xs) 2 36 [.ref 3, .int x1, .int x2] (zHp s t) = some (some (.int R), zHp s t) := by
  unfold f_X3_elementAt at hF
  refine zcall_X (d := 1) (e := zm_X3_elementAt) rfl rfl ?_
  show zX (ztb L xs) (zcall (ztb L xs) 1) 3 1 zk_X3_elementAt 0 [.ref 3, .int x1, .int x2, .retAddr 0] [] (zHp s t) _
  refine zX_go (c := 3) (pc' := 3) (lv' := [.ref 3, .int x1, .int x2, .retAddr 0]) (st' := [.int x2, .int x1, .ref 3]) (h' := zHp s t) rfl ?_
  obtain ⟨q1, hq, hF⟩ := zbd_ok hF
  refine zX_inv (av := [.ref 3, .int x1, .int x2]) (st := []) (h' := zHp s t) rfl rfl rfl rfl rfl rfl (zcall_le (t_X3_partAt M _ _ _ _ _ hq) (by decide)) ?_
  refine zX_go (c := 4) (pc' := if q1 = (-1) then 16 else 12) (lv' := [.ref 3, .int x1, .int x2, .int q1]) (st' := []) (h' := zHp s t) rfl ?_
  refine zX_ite hF (fun c0 hF => ?_) (fun c0 hF => ?_)
  · refine zX_go (c := 5) (pc' := 25) (lv' := [.ref 3, .int x1, .int x2, .int q1]) (st' := [.int x1, .ref 3, .ref 20]) (h' := zHp s t) rfl ?_
    obtain ⟨q2, hq, hF⟩ := zbd_ok hF
    refine zX_inv (av := [.ref 3, .int x1]) (st := [.ref 20]) (h' := zHp s t) rfl rfl rfl rfl rfl rfl (zcall_le (t_X3_markOf M _ _ _ _ hq) (by decide)) ?_
    refine zX_go (c := 4) (pc' := 32) (lv' := [.ref 3, .int x1, .int x2, .int q1]) (st' := [.int ((q2 * (nI 5)) + x2), .ref 20]) (h' := zHp s t) rfl ?_
    refine zX_ial (n := 60) rfl rfl hF (fun hF => ?_)
    obtain rfl := Option.some.inj hF
    exact zX_reti rfl
  · refine zX_go (c := 2) (pc' := 33) (lv' := [.ref 3, .int x1, .int x2, .int q1]) (st' := [.int q1]) (h' := zHp s t) rfl ?_
    obtain rfl := Option.some.inj hF
    exact zX_reti rfl
def f_X3_elementByName (M : Nat) (s : zS) (x1 x2 : Int32) : Option (Int32) :=
  zbd (f_X3_markOf M s x1) (fun q1 =>
   zbd (f_X0_positionOf M s q1 x2) (fun q2 =>
    if q2 = (-1) then
     some (-1)
    else
     zbd (f_X3_elementAt M s x1 q2) (fun q3 =>
      some q3)))
set_option maxRecDepth 100000 in
set_option maxHeartbeats 4000000 in
theorem t_X3_elementByName {L : Nat} {xs : Nat → Int32} (M : Nat) (s t : zS) (x1 x2 : Int32) (R : Int32) (hF : f_X3_elementByName M s x1 x2 = some R) : zcall (ztb L xs) 3 37 [.ref 3, .int x1, .int x2] (zHp s t) = some (some (.int R), zHp s t) := by
  unfold f_X3_elementByName at hF
  refine zcall_X (d := 2) (e := zm_X3_elementByName) rfl rfl ?_
  show zX (ztb L xs) (zcall (ztb L xs) 2) 3 1 zk_X3_elementByName 0 [.ref 3, .int x1, .int x2, .retAddr 0] [] (zHp s t) _
  refine zX_go (c := 4) (pc' := 6) (lv' := [.ref 3, .int x1, .int x2, .retAddr 0]) (st' := [.int x1, .ref 3, .ref 1]) (h' := zHp s t) rfl ?_
  obtain ⟨q1, hq, hF⟩ := zbd_ok hF
  refine zX_inv (av := [.ref 3, .int x1]) (st := [.ref 1]) (h' := zHp s t) rfl rfl rfl rfl rfl rfl (zcall_le (t_X3_markOf M _ _ _ _ hq) (by decide)) ?_
  refine zX_go (c := 1) (pc' := 10) (lv' := [.ref 3, .int x1, .int x2, .retAddr 0]) (st' := [.int x2, .int q1, .ref 1]) (h' := zHp s t) rfl ?_
  obtain ⟨q2, hq, hF⟩ := zbd_ok hF
  refine zX_inv (av := [.ref 1, .int q1, .int x2]) (st := []) (h' := zHp s t) rfl rfl rfl rfl rfl rfl (zcall_le (t_X0_positionOf M _ _ _ _ _ hq) (by decide)) ?_
  refine zX_go (c := 4) (pc' := if q2 = (-1) then 19 else 23) (lv' := [.ref 3, .int x1, .int x2, .int q2]) (st' := []) (h' := zHp s t) rfl ?_
  refine zX_ite hF (fun c0 hF => ?_) (fun c0 hF => ?_)
  · refine zX_go (c := 2) (pc' := 29) (lv' := [.ref 3, .int x1, .int x2, .int q2]) (st' := [.int (-1)]) (h' := zHp s t) rfl ?_
    obtain rfl := Option.some.inj hF
    exact zX_reti rfl
  · refine zX_go (c := 3) (pc' := 26) (lv' := [.ref 3, .int x1, .int x2, .int q2]) (st' := [.int q2, .int x1, .ref 3]) (h' := zHp s t) rfl ?_
    obtain ⟨q3, hq, hF⟩ := zbd_ok hF
    refine zX_inv (av := [.ref 3, .int x1, .int q2]) (st := []) (h' := zHp s t) rfl rfl rfl rfl rfl rfl (zcall_le (t_X3_elementAt M _ _ _ _ _ hq) (by decide)) ?_
    obtain rfl := Option.some.inj hF
    exact zX_reti rfl
def f_X3_howManyElements (M : Nat) (s : zS) (x1 : Int32) : Option (Int32) :=
  zbd (f_X3_markOf M s x1) (fun q1 =>
   zq (zin q1 12) <|
   some (s 6 q1.toNatClampNeg))
set_option maxRecDepth 100000 in
set_option maxHeartbeats 4000000 in
theorem t_X3_howManyElements {L : Nat} {xs : Nat → Int32} (M : Nat) (s t : zS) (x1 : Int32) (R : Int32) (hF : f_X3_howManyElements M s x1 = some R) : zcall (ztb L xs) 2 38 [.ref 3, .int x1] (zHp s t) = some (some (.int R), zHp s t) := by
  unfold f_X3_howManyElements at hF
  refine zcall_X (d := 1) (e := zm_X3_howManyElements) rfl rfl ?_
  show zX (ztb L xs) (zcall (ztb L xs) 1) 3 1 zk_X3_howManyElements 0 [.ref 3, .int x1] [] (zHp s t) _
  refine zX_go (c := 5) (pc' := 9) (lv' := [.ref 3, .int x1]) (st' := [.int x1, .ref 3, .ref 11]) (h' := zHp s t) rfl ?_
  obtain ⟨q1, hq, hF⟩ := zbd_ok hF
  refine zX_inv (av := [.ref 3, .int x1]) (st := [.ref 11]) (h' := zHp s t) rfl rfl rfl rfl rfl rfl (zcall_le (t_X3_markOf M _ _ _ _ hq) (by decide)) ?_
  refine zX_ial (n := 12) rfl rfl hF (fun hF => ?_)
  obtain rfl := Option.some.inj hF
  exact zX_reti rfl
def b_X3_isWhole (M : Nat) (rec : Nat → zS → Int32 → Int32 → Option (Int32)) (s : zS) (x1 x2 : Int32) : Option (Int32) :=
  zbd (f_X3_has M s x1) (fun q1 =>
   if q1 = 0 then
    some (nI 0)
   else
    if (nI 16) < x2 then
     some (nI 0)
    else
     zq (zin x1 100) <|
     if (s 20 x1.toNatClampNeg) = (nI 1) then
      zbd (rec 1 s x1 x2) (fun q2 =>
       zq (q2 &&& 1 == q2) <|
       some q2)
     else
      if (s 20 x1.toNatClampNeg) = (nI 2) then
       zbd (rec 2 s x1 x2) (fun q3 =>
        zq (q3 &&& 1 == q3) <|
        some q3)
      else
       some (nI 1))
set_option maxRecDepth 100000 in
set_option maxHeartbeats 4000000 in
theorem tb_X3_isWhole {L : Nat} {xs : Nat → Int32} (M d : Nat) (rec : Nat → zS → Int32 → Int32 → Option (Int32)) (hd : 2 ≤ d) (s t : zS) (hr_X3_areAllWhole : ∀ {s : zS} {a0 a1 : Int32} {R : Int32}, rec 1 s a0 a1 = some R → zcall (ztb L xs) d 40 [.ref 3, .int a0, .int a1] (zHp s t) = some (some (.int R), zHp s t)) (hr_X3_hasAllElementsWhole : ∀ {s : zS} {a0 a1 : Int32} {R : Int32}, rec 2 s a0 a1 = some R → zcall (ztb L xs) d 41 [.ref 3, .int a0, .int a1] (zHp s t) = some (some (.int R), zHp s t)) (x1 x2 : Int32) (R : Int32) (hF : b_X3_isWhole M rec s x1 x2 = some R) : zcall (ztb L xs) (d + 1) 39 [.ref 3, .int x1, .int x2] (zHp s t) = some (some (.int R), zHp s t) := by
  unfold b_X3_isWhole at hF
  refine zcall_X (d := d) (e := zm_X3_isWhole) rfl rfl ?_
  show zX (ztb L xs) (zcall (ztb L xs) d) 3 2 zk_X3_isWhole 0 [.ref 3, .int x1, .int x2] [] (zHp s t) _
  refine zX_go (c := 2) (pc' := 2) (lv' := [.ref 3, .int x1, .int x2]) (st' := [.int x1, .ref 3]) (h' := zHp s t) rfl ?_
  obtain ⟨q1, hq, hF⟩ := zbd_ok hF
  refine zX_inv (av := [.ref 3, .int x1]) (st := []) (h' := zHp s t) rfl rfl rfl rfl rfl rfl (zcall_le (t_X3_has M _ _ _ _ hq) (by omega)) ?_
  refine zX_go (c := 1) (pc' := if q1 = 0 then 14 else 8) (lv' := [.ref 3, .int x1, .int x2]) (st' := []) (h' := zHp s t) rfl ?_
  refine zX_ite hF (fun c0 hF => ?_) (fun c0 hF => ?_)
  · refine zX_go (c := 1) (pc' := 15) (lv' := [.ref 3, .int x1, .int x2]) (st' := [.int (nI 0)]) (h' := zHp s t) rfl ?_
    obtain rfl := Option.some.inj hF
    exact zX_retz rfl (by decide)
  · refine zX_go (c := 3) (pc' := if (nI 16) < x2 then 14 else 16) (lv' := [.ref 3, .int x1, .int x2]) (st' := []) (h' := zHp s t) rfl ?_
    refine zX_ite hF (fun c0 hF => ?_) (fun c0 hF => ?_)
    · refine zX_go (c := 1) (pc' := 15) (lv' := [.ref 3, .int x1, .int x2]) (st' := [.int (nI 0)]) (h' := zHp s t) rfl ?_
      obtain rfl := Option.some.inj hF
      exact zX_retz rfl (by decide)
    · refine zX_go (c := 3) (pc' := 21) (lv' := [.ref 3, .int x1, .int x2]) (st' := [.int x1, .ref 23]) (h' := zHp s t) rfl ?_
      refine zX_ial (n := 100) rfl rfl hF (fun hF => ?_)
      refine zX_go (c := 1) (pc' := if (s 20 x1.toNatClampNeg) = (nI 1) then 48 else if (s 20 x1.toNatClampNeg) = (nI 2) then 55 else 62) (lv' := [.ref 3, .int x1, .int x2]) (st' := []) (h' := zHp s t) rfl ?_
      refine zX_ite hF (fun c0 hF => ?_) (fun c0 hF => ?_)
      · refine zX_go (c := 3) (pc' := 51) (lv' := [.ref 3, .int x1, .int x2]) (st' := [.int x2, .int x1, .ref 3]) (h' := zHp s t) rfl ?_
        obtain ⟨q2, hq, hF⟩ := zbd_ok hF
        refine zX_inv (av := [.ref 3, .int x1, .int x2]) (st := []) (h' := zHp s t) rfl rfl rfl rfl rfl rfl (hr_X3_areAllWhole hq) ?_
        obtain ⟨hb, hF⟩ := zq_ok hF
        obtain rfl := Option.some.inj hF
        exact zX_retz rfl (by simpa using hb)
      · refine zX_ite hF (fun c0 hF => ?_) (fun c0 hF => ?_)
        · refine zX_go (c := 3) (pc' := 58) (lv' := [.ref 3, .int x1, .int x2]) (st' := [.int x2, .int x1, .ref 3]) (h' := zHp s t) rfl ?_
          obtain ⟨q3, hq, hF⟩ := zbd_ok hF
          refine zX_inv (av := [.ref 3, .int x1, .int x2]) (st := []) (h' := zHp s t) rfl rfl rfl rfl rfl rfl (hr_X3_hasAllElementsWhole hq) ?_
          obtain ⟨hb, hF⟩ := zq_ok hF
          obtain rfl := Option.some.inj hF
          exact zX_retz rfl (by simpa using hb)
        · refine zX_go (c := 1) (pc' := 63) (lv' := [.ref 3, .int x1, .int x2]) (st' := [.int (nI 1)]) (h' := zHp s t) rfl ?_
          obtain rfl := Option.some.inj hF
          exact zX_retz rfl (by decide)
def l_X3_areAllWhole (M : Nat) (rec : Nat → zS → Int32 → Int32 → Option (Int32)) : Nat → zS → Int32 → Int32 → Int32 → Option (Int32)
  | 0, _, _, _, _ => none
  | N + 1, s, y1, y2, y3 =>
    zq (zin y1 100) <|
    if y3 < (s 22 y1.toNatClampNeg) then
     zbd (f_X3_partAt M s y1 y3) (fun q1 =>
      zbd (rec 0 s q1 (y2 + (nI 1))) (fun q2 =>
       if q2 = 0 then
        some (nI 0)
       else
        l_X3_areAllWhole M rec N s y1 y2 (y3 + (nI 1))))
    else
     some (nI 1)
set_option maxRecDepth 100000 in
set_option maxHeartbeats 4000000 in
theorem tl_X3_areAllWhole {L : Nat} {xs : Nat → Int32} (M d : Nat) (rec : Nat → zS → Int32 → Int32 → Option (Int32)) (hd : 2 ≤ d) (t : zS) (hr_X3_isWhole : ∀ {s : zS} {a0 a1 : Int32} {R : Int32}, rec 0 s a0 a1 = some R → zcall (ztb L xs) d 39 [.ref 3, .int a0, .int a1] (zHp s t) = some (some (.int R), zHp s t)) : ∀ (N : Nat) (s : zS) (y1 : Int32) (y2 : Int32) (y3 : Int32) (R : Int32) (hF : l_X3_areAllWhole M rec N s y1 y2 y3 = some R), zX (ztb L xs) (zcall (ztb L xs) d) 3 2 zk_X3_areAllWhole 2 [.ref 3, .int y1, .int y2, .int y3] [] (zHp s t) (some (.int R), zHp s t) := by
  intro N
  induction N with
  | zero => intro s y1 y2 y3 R hF; cases hF
  | succ N ih =>
    intro s y1 y2 y3 R hF
    unfold l_X3_areAllWhole at hF
    refine zX_go (c := 4) (pc' := 8) (lv' := [.ref 3, .int y1, .int y2, .int y3]) (st' := [.int y1, .ref 25, .int y3]) (h' := zHp s t) rfl ?_
    refine zX_ial (n := 100) rfl rfl hF (fun hF => ?_)
    refine zX_go (c := 1) (pc' := if y3 < (s 22 y1.toNatClampNeg) then 12 else 36) (lv' := [.ref 3, .int y1, .int y2, .int y3]) (st' := []) (h' := zHp s t) rfl ?_
    refine zX_ite hF (fun c0 hF => ?_) (fun c0 hF => ?_)
    · refine zX_go (c := 4) (pc' := 16) (lv' := [.ref 3, .int y1, .int y2, .int y3]) (st' := [.int y3, .int y1, .ref 3, .ref 3]) (h' := zHp s t) rfl ?_
      obtain ⟨q1, hq, hF⟩ := zbd_ok hF
      refine zX_inv (av := [.ref 3, .int y1, .int y3]) (st := [.ref 3]) (h' := zHp s t) rfl rfl rfl rfl rfl rfl (zcall_le (t_X3_partAt M _ _ _ _ _ hq) (by omega)) ?_
      refine zX_go (c := 3) (pc' := 22) (lv' := [.ref 3, .int y1, .int y2, .int y3]) (st' := [.int (y2 + (nI 1)), .int q1, .ref 3]) (h' := zHp s t) rfl ?_
      obtain ⟨q2, hq, hF⟩ := zbd_ok hF
      refine zX_inv (av := [.ref 3, .int q1, .int (y2 + (nI 1))]) (st := []) (h' := zHp s t) rfl rfl rfl rfl rfl rfl (hr_X3_isWhole hq) ?_
      refine zX_go (c := 1) (pc' := if q2 = 0 then 28 else 30) (lv' := [.ref 3, .int y1, .int y2, .int y3]) (st' := []) (h' := zHp s t) rfl ?_
      refine zX_ite hF (fun c0 hF => ?_) (fun c0 hF => ?_)
      · refine zX_go (c := 1) (pc' := 29) (lv' := [.ref 3, .int y1, .int y2, .int y3]) (st' := [.int (nI 0)]) (h' := zHp s t) rfl ?_
        obtain rfl := Option.some.inj hF
        exact zX_retz rfl (by decide)
      · refine zX_go (c := 2) (pc' := 2) (lv' := [.ref 3, .int y1, .int y2, .int (y3 + (nI 1))]) (st' := []) (h' := zHp s t) rfl ?_
        exact ih s y1 y2 (y3 + (nI 1)) _ hF
    · refine zX_go (c := 1) (pc' := 37) (lv' := [.ref 3, .int y1, .int y2, .int y3]) (st' := [.int (nI 1)]) (h' := zHp s t) rfl ?_
      obtain rfl := Option.some.inj hF
      exact zX_retz rfl (by decide)
def b_X3_areAllWhole (M : Nat) (rec : Nat → zS → Int32 → Int32 → Option (Int32)) (s : zS) (x1 x2 : Int32) : Option (Int32) :=
  l_X3_areAllWhole M rec M s x1 x2 (nI 0)
set_option maxRecDepth 100000 in
set_option maxHeartbeats 4000000 in
theorem tb_X3_areAllWhole {L : Nat} {xs : Nat → Int32} (M d : Nat) (rec : Nat → zS → Int32 → Int32 → Option (Int32)) (hd : 2 ≤ d) (s t : zS) (hr_X3_isWhole : ∀ {s : zS} {a0 a1 : Int32} {R : Int32}, rec 0 s a0 a1 = some R → zcall (ztb L xs) d 39 [.ref 3, .int a0, .int a1] (zHp s t) = some (some (.int R), zHp s t)) (x1 x2 : Int32) (R : Int32) (hF : b_X3_areAllWhole M rec s x1 x2 = some R) : zcall (ztb L xs) (d + 1) 40 [.ref 3, .int x1, .int x2] (zHp s t) = some (some (.int R), zHp s t) := by
  unfold b_X3_areAllWhole at hF
  refine zcall_X (d := d) (e := zm_X3_areAllWhole) rfl rfl ?_
  show zX (ztb L xs) (zcall (ztb L xs) d) 3 2 zk_X3_areAllWhole 0 [.ref 3, .int x1, .int x2, .retAddr 0] [] (zHp s t) _
  refine zX_go (c := 2) (pc' := 2) (lv' := [.ref 3, .int x1, .int x2, .int (nI 0)]) (st' := []) (h' := zHp s t) rfl ?_
  exact tl_X3_areAllWhole M _ rec hd t hr_X3_isWhole M s x1 x2 (nI 0) _ hF
def l_X3_hasAllElementsWhole (M : Nat) (rec : Nat → zS → Int32 → Int32 → Option (Int32)) : Nat → zS → Int32 → Int32 → Int32 → Option (Int32)
  | 0, _, _, _, _ => none
  | N + 1, s, y1, y2, y3 =>
    zbd (f_X3_howManyElements M s y1) (fun q1 =>
     if y3 < q1 then
      zbd (f_X3_partAt M s y1 y3) (fun q2 =>
       if q2 = (-1) then
        zbd (f_X3_elementAt M s y1 y3) (fun q3 =>
         if q3 = (-1) then
          some (nI 0)
         else
          l_X3_hasAllElementsWhole M rec N s y1 y2 (y3 + (nI 1)))
       else
        zbd (rec 0 s q2 (y2 + (nI 1))) (fun q4 =>
         if q4 = 0 then
          some (nI 0)
         else
          l_X3_hasAllElementsWhole M rec N s y1 y2 (y3 + (nI 1))))
     else
      some (nI 1))
set_option maxRecDepth 100000 in
set_option maxHeartbeats 4000000 in
theorem tl_X3_hasAllElementsWhole {L : Nat} {xs : Nat → Int32} (M d : Nat) (rec : Nat → zS → Int32 → Int32 → Option (Int32)) (hd : 2 ≤ d) (t : zS) (hr_X3_isWhole : ∀ {s : zS} {a0 a1 : Int32} {R : Int32}, rec 0 s a0 a1 = some R → zcall (ztb L xs) d 39 [.ref 3, .int a0, .int a1] (zHp s t) = some (some (.int R), zHp s t)) : ∀ (N : Nat) (s : zS) (y1 : Int32) (y2 : Int32) (y3 : Int32) (R : Int32) (u4 : Value) (hF : l_X3_hasAllElementsWhole M rec N s y1 y2 y3 = some R), zX (ztb L xs) (zcall (ztb L xs) d) 3 2 zk_X3_hasAllElementsWhole 2 [.ref 3, .int y1, .int y2, .int y3, u4] [] (zHp s t) (some (.int R), zHp s t) := by
  intro N
  induction N with
  | zero => intro s y1 y2 y3 R u4 hF; cases hF
  | succ N ih =>
    intro s y1 y2 y3 R u4 hF
    unfold l_X3_hasAllElementsWhole at hF
    refine zX_go (c := 3) (pc' := 5) (lv' := [.ref 3, .int y1, .int y2, .int y3, u4]) (st' := [.int y1, .ref 3, .int y3]) (h' := zHp s t) rfl ?_
    obtain ⟨q1, hq, hF⟩ := zbd_ok hF
    refine zX_inv (av := [.ref 3, .int y1]) (st := [.int y3]) (h' := zHp s t) rfl rfl rfl rfl rfl rfl (zcall_le (t_X3_howManyElements M _ _ _ _ hq) (by omega)) ?_
    refine zX_go (c := 1) (pc' := if y3 < q1 then 11 else 58) (lv' := [.ref 3, .int y1, .int y2, .int y3, u4]) (st' := []) (h' := zHp s t) rfl ?_
    refine zX_ite hF (fun c0 hF => ?_) (fun c0 hF => ?_)
    · refine zX_go (c := 3) (pc' := 14) (lv' := [.ref 3, .int y1, .int y2, .int y3, u4]) (st' := [.int y3, .int y1, .ref 3]) (h' := zHp s t) rfl ?_
      obtain ⟨q2, hq, hF⟩ := zbd_ok hF
      refine zX_inv (av := [.ref 3, .int y1, .int y3]) (st := []) (h' := zHp s t) rfl rfl rfl rfl rfl rfl (zcall_le (t_X3_partAt M _ _ _ _ _ hq) (by omega)) ?_
      refine zX_go (c := 4) (pc' := if q2 = (-1) then 25 else 38) (lv' := [.ref 3, .int y1, .int y2, .int y3, .int q2]) (st' := []) (h' := zHp s t) rfl ?_
      refine zX_ite hF (fun c0 hF => ?_) (fun c0 hF => ?_)
      · refine zX_go (c := 3) (pc' := 28) (lv' := [.ref 3, .int y1, .int y2, .int y3, .int q2]) (st' := [.int y3, .int y1, .ref 3]) (h' := zHp s t) rfl ?_
        obtain ⟨q3, hq, hF⟩ := zbd_ok hF
        refine zX_inv (av := [.ref 3, .int y1, .int y3]) (st := []) (h' := zHp s t) rfl rfl rfl rfl rfl rfl (zcall_le (t_X3_elementAt M _ _ _ _ _ hq) (by omega)) ?_
        refine zX_go (c := 2) (pc' := if q3 = (-1) then 35 else 52) (lv' := [.ref 3, .int y1, .int y2, .int y3, .int q2]) (st' := []) (h' := zHp s t) rfl ?_
        refine zX_ite hF (fun c0 hF => ?_) (fun c0 hF => ?_)
        · refine zX_go (c := 2) (pc' := 51) (lv' := [.ref 3, .int y1, .int y2, .int y3, .int q2]) (st' := [.int (nI 0)]) (h' := zHp s t) rfl ?_
          obtain rfl := Option.some.inj hF
          exact zX_retz rfl (by decide)
        · refine zX_go (c := 2) (pc' := 2) (lv' := [.ref 3, .int y1, .int y2, .int (y3 + (nI 1)), .int q2]) (st' := []) (h' := zHp s t) rfl ?_
          exact ih s y1 y2 (y3 + (nI 1)) _ (.int q2) hF
      · refine zX_go (c := 5) (pc' := 44) (lv' := [.ref 3, .int y1, .int y2, .int y3, .int q2]) (st' := [.int (y2 + (nI 1)), .int q2, .ref 3]) (h' := zHp s t) rfl ?_
        obtain ⟨q4, hq, hF⟩ := zbd_ok hF
        refine zX_inv (av := [.ref 3, .int q2, .int (y2 + (nI 1))]) (st := []) (h' := zHp s t) rfl rfl rfl rfl rfl rfl (hr_X3_isWhole hq) ?_
        refine zX_go (c := 1) (pc' := if q4 = 0 then 50 else 52) (lv' := [.ref 3, .int y1, .int y2, .int y3, .int q2]) (st' := []) (h' := zHp s t) rfl ?_
        refine zX_ite hF (fun c0 hF => ?_) (fun c0 hF => ?_)
        · refine zX_go (c := 1) (pc' := 51) (lv' := [.ref 3, .int y1, .int y2, .int y3, .int q2]) (st' := [.int (nI 0)]) (h' := zHp s t) rfl ?_
          obtain rfl := Option.some.inj hF
          exact zX_retz rfl (by decide)
        · refine zX_go (c := 2) (pc' := 2) (lv' := [.ref 3, .int y1, .int y2, .int (y3 + (nI 1)), .int q2]) (st' := []) (h' := zHp s t) rfl ?_
          exact ih s y1 y2 (y3 + (nI 1)) _ (.int q2) hF
    · refine zX_go (c := 1) (pc' := 59) (lv' := [.ref 3, .int y1, .int y2, .int y3, u4]) (st' := [.int (nI 1)]) (h' := zHp s t) rfl ?_
      obtain rfl := Option.some.inj hF
      exact zX_retz rfl (by decide)
def b_X3_hasAllElementsWhole (M : Nat) (rec : Nat → zS → Int32 → Int32 → Option (Int32)) (s : zS) (x1 x2 : Int32) : Option (Int32) :=
  l_X3_hasAllElementsWhole M rec M s x1 x2 (nI 0)
set_option maxRecDepth 100000 in
set_option maxHeartbeats 4000000 in
theorem tb_X3_hasAllElementsWhole {L : Nat} {xs : Nat → Int32} (M d : Nat) (rec : Nat → zS → Int32 → Int32 → Option (Int32)) (hd : 2 ≤ d) (s t : zS) (hr_X3_isWhole : ∀ {s : zS} {a0 a1 : Int32} {R : Int32}, rec 0 s a0 a1 = some R → zcall (ztb L xs) d 39 [.ref 3, .int a0, .int a1] (zHp s t) = some (some (.int R), zHp s t)) (x1 x2 : Int32) (R : Int32) (hF : b_X3_hasAllElementsWhole M rec s x1 x2 = some R) : zcall (ztb L xs) (d + 1) 41 [.ref 3, .int x1, .int x2] (zHp s t) = some (some (.int R), zHp s t) := by
  unfold b_X3_hasAllElementsWhole at hF
  refine zcall_X (d := d) (e := zm_X3_hasAllElementsWhole) rfl rfl ?_
  show zX (ztb L xs) (zcall (ztb L xs) d) 3 2 zk_X3_hasAllElementsWhole 0 [.ref 3, .int x1, .int x2, .retAddr 0, .retAddr 0] [] (zHp s t) _
  refine zX_go (c := 2) (pc' := 2) (lv' := [.ref 3, .int x1, .int x2, .int (nI 0), .retAddr 0]) (st' := []) (h' := zHp s t) rfl ?_
  exact tl_X3_hasAllElementsWhole M _ rec hd t hr_X3_isWhole M s x1 x2 (nI 0) _ (.retAddr 0) hF
def g_X3_isWhole (M : Nat) : Nat → Nat → zS → Int32 → Int32 → Option (Int32)
  | 0, _, _, _, _ => none
  | K + 1, w, s, x1, x2 => match w with
    | 0 => b_X3_isWhole M (g_X3_isWhole M K) s x1 x2
    | 1 => b_X3_areAllWhole M (g_X3_isWhole M K) s x1 x2
    | 2 => b_X3_hasAllElementsWhole M (g_X3_isWhole M K) s x1 x2
    | _ => none
set_option maxRecDepth 100000 in
set_option maxHeartbeats 4000000 in
theorem tg_X3_isWhole {L : Nat} {xs : Nat → Int32} (M : Nat) : ∀ (K : Nat), (∀ (s t : zS) (x1 x2 : Int32) (R : Int32), g_X3_isWhole M K 0 s x1 x2 = some R → zcall (ztb L xs) (2 + K) 39 [.ref 3, .int x1, .int x2] (zHp s t) = some (some (.int R), zHp s t)) ∧ (∀ (s t : zS) (x1 x2 : Int32) (R : Int32), g_X3_isWhole M K 1 s x1 x2 = some R → zcall (ztb L xs) (2 + K) 40 [.ref 3, .int x1, .int x2] (zHp s t) = some (some (.int R), zHp s t)) ∧ (∀ (s t : zS) (x1 x2 : Int32) (R : Int32), g_X3_isWhole M K 2 s x1 x2 = some R → zcall (ztb L xs) (2 + K) 41 [.ref 3, .int x1, .int x2] (zHp s t) = some (some (.int R), zHp s t)) := by
  intro K
  induction K with
  | zero => exact ⟨(by intros; rename_i hF; cases hF), (by intros; rename_i hF; cases hF), (by intros; rename_i hF; cases hF)⟩
  | succ K ih =>
    refine ⟨?_, ?_, ?_⟩
    · intro s t x1 x2 R hF
      exact tb_X3_isWhole M (2 + K) (g_X3_isWhole M K) (by omega) s t (fun hq => ih.2.1 _ t _ _ _ hq) (fun hq => ih.2.2 _ t _ _ _ hq) x1 x2 R hF
    · intro s t x1 x2 R hF
      exact tb_X3_areAllWhole M (2 + K) (g_X3_isWhole M K) (by omega) s t (fun hq => ih.1 _ t _ _ _ hq) x1 x2 R hF
    · intro s t x1 x2 R hF
      exact tb_X3_hasAllElementsWhole M (2 + K) (g_X3_isWhole M K) (by omega) s t (fun hq => ih.1 _ t _ _ _ hq) x1 x2 R hF
theorem t_X3_isWhole {L : Nat} {xs : Nat → Int32} (M K : Nat) (s t : zS) (x1 x2 : Int32) (R : Int32) (hF : g_X3_isWhole M K 0 s x1 x2 = some R) : zcall (ztb L xs) (2 + K) 39 [.ref 3, .int x1, .int x2] (zHp s t) = some (some (.int R), zHp s t) := (tg_X3_isWhole M K).1 s t x1 x2 R hF
theorem t_X3_areAllWhole {L : Nat} {xs : Nat → Int32} (M K : Nat) (s t : zS) (x1 x2 : Int32) (R : Int32) (hF : g_X3_isWhole M K 1 s x1 x2 = some R) : zcall (ztb L xs) (2 + K) 40 [.ref 3, .int x1, .int x2] (zHp s t) = some (some (.int R), zHp s t) := (tg_X3_isWhole M K).2.1 s t x1 x2 R hF
theorem t_X3_hasAllElementsWhole {L : Nat} {xs : Nat → Int32} (M K : Nat) (s t : zS) (x1 x2 : Int32) (R : Int32) (hF : g_X3_isWhole M K 2 s x1 x2 = some R) : zcall (ztb L xs) (2 + K) 41 [.ref 3, .int x1, .int x2] (zHp s t) = some (some (.int R), zHp s t) := (tg_X3_isWhole M K).2.2 s t x1 x2 R hF
def b_X3_areEqual (M : Nat) (rec : Nat → zS → Int32 → Int32 → Int32 → Option (Int32)) (s : zS) (x1 x2 x3 : Int32) : Option (Int32) :=
  if x1 = x2 then
   some (nI 1)
  else
   zbd (f_X3_has M s x1) (fun q1 =>
    if q1 = 0 then
     some (nI 0)
    else
     zbd (f_X3_has M s x2) (fun q2 =>
      if q2 = 0 then
       some (nI 0)
      else
       if (nI 16) < x3 then
        some (nI 0)
       else
        zq (zin x1 100) <|
        zq (zin x2 100) <|
        if (s 20 x1.toNatClampNeg) = (s 20 x2.toNatClampNeg) then
         zq (zin x1 100) <|
         zq (zin x2 100) <|
         if (s 21 x1.toNatClampNeg) = (s 21 x2.toNatClampNeg) then
          zq (zin x1 100) <|
          if (s 20 x1.toNatClampNeg) = (nI 2) then
           zbd (rec 1 s x1 x2 x3) (fun q3 =>
            zq (q3 &&& 1 == q3) <|
            some q3)
          else
           zq (zin x1 100) <|
           zq (zin x2 100) <|
           if (s 22 x1.toNatClampNeg) = (s 22 x2.toNatClampNeg) then
            zq (zin x1 100) <|
            if (s 20 x1.toNatClampNeg) = 0 then
             some (nI 1)
            else
             zbd (rec 2 s x1 x2 x3) (fun q4 =>
              if q4 = 0 then
               some (nI 0)
              else
               some (nI 1))
           else
            some (nI 0)
         else
          some (nI 0)
        else
         some (nI 0)))
set_option maxRecDepth 100000 in
set_option maxHeartbeats 4000000 in
theorem tb_X3_areEqual {L : Nat} {xs : Nat → Int32} (M d : Nat) (rec : Nat → zS → Int32 → Int32 → Int32 → Option (Int32)) (hd : 2 ≤ d) (s t : zS) (hr_X3_haveEqualElements : ∀ {s : zS} {a0 a1 a2 : Int32} {R : Int32}, rec 1 s a0 a1 a2 = some R → zcall (ztb L xs) d 43 [.ref 3, .int a0, .int a1, .int a2] (zHp s t) = some (some (.int R), zHp s t)) (hr_X3_haveEqualParts : ∀ {s : zS} {a0 a1 a2 : Int32} {R : Int32}, rec 2 s a0 a1 a2 = some R → zcall (ztb L xs) d 44 [.ref 3, .int a0, .int a1, .int a2] (zHp s t) = some (some (.int R), zHp s t)) (x1 x2 x3 : Int32) (R : Int32) (hF : b_X3_areEqual M rec s x1 x2 x3 = some R) : zcall (ztb L xs) (d + 1) 42 [.ref 3, .int x1, .int x2, .int x3] (zHp s t) = some (some (.int R), zHp s t) := by
  unfold b_X3_areEqual at hF
  refine zcall_X (d := d) (e := zm_X3_areEqual) rfl rfl ?_
  show zX (ztb L xs) (zcall (ztb L xs) d) 3 2 zk_X3_areEqual 0 [.ref 3, .int x1, .int x2, .int x3] [] (zHp s t) _
  refine zX_go (c := 3) (pc' := if x1 = x2 then 5 else 7) (lv' := [.ref 3, .int x1, .int x2, .int x3]) (st' := []) (h' := zHp s t) rfl ?_
  refine zX_ite hF (fun c0 hF => ?_) (fun c0 hF => ?_)
  · refine zX_go (c := 1) (pc' := 6) (lv' := [.ref 3, .int x1, .int x2, .int x3]) (st' := [.int (nI 1)]) (h' := zHp s t) rfl ?_
    obtain rfl := Option.some.inj hF
    exact zX_retz rfl (by decide)
  · refine zX_go (c := 2) (pc' := 9) (lv' := [.ref 3, .int x1, .int x2, .int x3]) (st' := [.int x1, .ref 3]) (h' := zHp s t) rfl ?_
    obtain ⟨q1, hq, hF⟩ := zbd_ok hF
    refine zX_inv (av := [.ref 3, .int x1]) (st := []) (h' := zHp s t) rfl rfl rfl rfl rfl rfl (zcall_le (t_X3_has M _ _ _ _ hq) (by omega)) ?_
    refine zX_go (c := 1) (pc' := if q1 = 0 then 29 else 15) (lv' := [.ref 3, .int x1, .int x2, .int x3]) (st' := []) (h' := zHp s t) rfl ?_
    refine zX_ite hF (fun c0 hF => ?_) (fun c0 hF => ?_)
    · refine zX_go (c := 1) (pc' := 30) (lv' := [.ref 3, .int x1, .int x2, .int x3]) (st' := [.int (nI 0)]) (h' := zHp s t) rfl ?_
      obtain rfl := Option.some.inj hF
      exact zX_retz rfl (by decide)
    · refine zX_go (c := 2) (pc' := 17) (lv' := [.ref 3, .int x1, .int x2, .int x3]) (st' := [.int x2, .ref 3]) (h' := zHp s t) rfl ?_
      obtain ⟨q2, hq, hF⟩ := zbd_ok hF
      refine zX_inv (av := [.ref 3, .int x2]) (st := []) (h' := zHp s t) rfl rfl rfl rfl rfl rfl (zcall_le (t_X3_has M _ _ _ _ hq) (by omega)) ?_
      refine zX_go (c := 1) (pc' := if q2 = 0 then 29 else 23) (lv' := [.ref 3, .int x1, .int x2, .int x3]) (st' := []) (h' := zHp s t) rfl ?_
      refine zX_ite hF (fun c0 hF => ?_) (fun c0 hF => ?_)
      · refine zX_go (c := 1) (pc' := 30) (lv' := [.ref 3, .int x1, .int x2, .int x3]) (st' := [.int (nI 0)]) (h' := zHp s t) rfl ?_
        obtain rfl := Option.some.inj hF
        exact zX_retz rfl (by decide)
      · refine zX_go (c := 3) (pc' := if (nI 16) < x3 then 29 else 31) (lv' := [.ref 3, .int x1, .int x2, .int x3]) (st' := []) (h' := zHp s t) rfl ?_
        refine zX_ite hF (fun c0 hF => ?_) (fun c0 hF => ?_)
        · refine zX_go (c := 1) (pc' := 30) (lv' := [.ref 3, .int x1, .int x2, .int x3]) (st' := [.int (nI 0)]) (h' := zHp s t) rfl ?_
          obtain rfl := Option.some.inj hF
          exact zX_retz rfl (by decide)
        · refine zX_go (c := 3) (pc' := 36) (lv' := [.ref 3, .int x1, .int x2, .int x3]) (st' := [.int x1, .ref 23]) (h' := zHp s t) rfl ?_
          refine zX_ial (n := 100) rfl rfl hF (fun hF => ?_)
          refine zX_go (c := 3) (pc' := 42) (lv' := [.ref 3, .int x1, .int x2, .int x3]) (st' := [.int x2, .ref 23, .int (s 20 x1.toNatClampNeg)]) (h' := zHp s t) rfl ?_
          refine zX_ial (n := 100) rfl rfl hF (fun hF => ?_)
          refine zX_go (c := 1) (pc' := if (s 20 x1.toNatClampNeg) = (s 20 x2.toNatClampNeg) then 46 else 61) (lv' := [.ref 3, .int x1, .int x2, .int x3]) (st' := []) (h' := zHp s t) rfl ?_
          refine zX_ite hF (fun c0 hF => ?_) (fun c0 hF => ?_)
          · refine zX_go (c := 3) (pc' := 51) (lv' := [.ref 3, .int x1, .int x2, .int x3]) (st' := [.int x1, .ref 24]) (h' := zHp s t) rfl ?_
            refine zX_ial (n := 100) rfl rfl hF (fun hF => ?_)
            refine zX_go (c := 3) (pc' := 57) (lv' := [.ref 3, .int x1, .int x2, .int x3]) (st' := [.int x2, .ref 24, .int (s 21 x1.toNatClampNeg)]) (h' := zHp s t) rfl ?_
            refine zX_ial (n := 100) rfl rfl hF (fun hF => ?_)
            refine zX_go (c := 1) (pc' := if (s 21 x1.toNatClampNeg) = (s 21 x2.toNatClampNeg) then 63 else 61) (lv' := [.ref 3, .int x1, .int x2, .int x3]) (st' := []) (h' := zHp s t) rfl ?_
            refine zX_ite hF (fun c0 hF => ?_) (fun c0 hF => ?_)
            · refine zX_go (c := 3) (pc' := 68) (lv' := [.ref 3, .int x1, .int x2, .int x3]) (st' := [.int x1, .ref 23]) (h' := zHp s t) rfl ?_
              refine zX_ial (n := 100) rfl rfl hF (fun hF => ?_)
              refine zX_go (c := 2) (pc' := if (s 20 x1.toNatClampNeg) = (nI 2) then 73 else 81) (lv' := [.ref 3, .int x1, .int x2, .int x3]) (st' := []) (h' := zHp s t) rfl ?_
              refine zX_ite hF (fun c0 hF => ?_) (fun c0 hF => ?_)
              · refine zX_go (c := 4) (pc' := 77) (lv' := [.ref 3, .int x1, .int x2, .int x3]) (st' := [.int x3, .int x2, .int x1, .ref 3]) (h' := zHp s t) rfl ?_
                obtain ⟨q3, hq, hF⟩ := zbd_ok hF
                refine zX_inv (av := [.ref 3, .int x1, .int x2, .int x3]) (st := []) (h' := zHp s t) rfl rfl rfl rfl rfl rfl (hr_X3_haveEqualElements hq) ?_
                obtain ⟨hb, hF⟩ := zq_ok hF
                obtain rfl := Option.some.inj hF
                exact zX_retz rfl (by simpa using hb)
              · refine zX_go (c := 3) (pc' := 86) (lv' := [.ref 3, .int x1, .int x2, .int x3]) (st' := [.int x1, .ref 25]) (h' := zHp s t) rfl ?_
                refine zX_ial (n := 100) rfl rfl hF (fun hF => ?_)
                refine zX_go (c := 3) (pc' := 92) (lv' := [.ref 3, .int x1, .int x2, .int x3]) (st' := [.int x2, .ref 25, .int (s 22 x1.toNatClampNeg)]) (h' := zHp s t) rfl ?_
                refine zX_ial (n := 100) rfl rfl hF (fun hF => ?_)
                refine zX_go (c := 1) (pc' := if (s 22 x1.toNatClampNeg) = (s 22 x2.toNatClampNeg) then 96 else 119) (lv' := [.ref 3, .int x1, .int x2, .int x3]) (st' := []) (h' := zHp s t) rfl ?_
                refine zX_ite hF (fun c0 hF => ?_) (fun c0 hF => ?_)
                · refine zX_go (c := 3) (pc' := 101) (lv' := [.ref 3, .int x1, .int x2, .int x3]) (st' := [.int x1, .ref 23]) (h' := zHp s t) rfl ?_
                  refine zX_ial (n := 100) rfl rfl hF (fun hF => ?_)
                  refine zX_go (c := 1) (pc' := if (s 20 x1.toNatClampNeg) = 0 then 115 else 105) (lv' := [.ref 3, .int x1, .int x2, .int x3]) (st' := []) (h' := zHp s t) rfl ?_
                  refine zX_ite hF (fun c0 hF => ?_) (fun c0 hF => ?_)
                  · refine zX_go (c := 2) (pc' := 120) (lv' := [.ref 3, .int x1, .int x2, .int x3]) (st' := [.int (nI 1)]) (h' := zHp s t) rfl ?_
                    obtain rfl := Option.some.inj hF
                    exact zX_retz rfl (by decide)
                  · refine zX_go (c := 4) (pc' := 109) (lv' := [.ref 3, .int x1, .int x2, .int x3]) (st' := [.int x3, .int x2, .int x1, .ref 3]) (h' := zHp s t) rfl ?_
                    obtain ⟨q4, hq, hF⟩ := zbd_ok hF
                    refine zX_inv (av := [.ref 3, .int x1, .int x2, .int x3]) (st := []) (h' := zHp s t) rfl rfl rfl rfl rfl rfl (hr_X3_haveEqualParts hq) ?_
                    refine zX_go (c := 1) (pc' := if q4 = 0 then 119 else 115) (lv' := [.ref 3, .int x1, .int x2, .int x3]) (st' := []) (h' := zHp s t) rfl ?_
                    refine zX_ite hF (fun c0 hF => ?_) (fun c0 hF => ?_)
                    · refine zX_go (c := 1) (pc' := 120) (lv' := [.ref 3, .int x1, .int x2, .int x3]) (st' := [.int (nI 0)]) (h' := zHp s t) rfl ?_
                      obtain rfl := Option.some.inj hF
                      exact zX_retz rfl (by decide)
                    · refine zX_go (c := 2) (pc' := 120) (lv' := [.ref 3, .int x1, .int x2, .int x3]) (st' := [.int (nI 1)]) (h' := zHp s t) rfl ?_
                      obtain rfl := Option.some.inj hF
                      exact zX_retz rfl (by decide)
                · refine zX_go (c := 1) (pc' := 120) (lv' := [.ref 3, .int x1, .int x2, .int x3]) (st' := [.int (nI 0)]) (h' := zHp s t) rfl ?_
                  obtain rfl := Option.some.inj hF
                  exact zX_retz rfl (by decide)
            · refine zX_go (c := 1) (pc' := 62) (lv' := [.ref 3, .int x1, .int x2, .int x3]) (st' := [.int (nI 0)]) (h' := zHp s t) rfl ?_
              obtain rfl := Option.some.inj hF
              exact zX_retz rfl (by decide)
          · refine zX_go (c := 1) (pc' := 62) (lv' := [.ref 3, .int x1, .int x2, .int x3]) (st' := [.int (nI 0)]) (h' := zHp s t) rfl ?_
            obtain rfl := Option.some.inj hF
            exact zX_retz rfl (by decide)
def l_X3_haveEqualElements (M : Nat) (rec : Nat → zS → Int32 → Int32 → Int32 → Option (Int32)) : Nat → zS → Int32 → Int32 → Int32 → Int32 → Option (Int32)
  | 0, _, _, _, _, _ => none
  | N + 1, s, y1, y2, y3, y4 =>
    zbd (f_X3_howManyElements M s y1) (fun q1 =>
     if y4 < q1 then
      zbd (f_X3_elementAt M s y1 y4) (fun q2 =>
       zbd (f_X3_elementAt M s y2 y4) (fun q3 =>
        zbd (rec 0 s q2 q3 (y3 + (nI 1))) (fun q4 =>
         if q4 = 0 then
          some (nI 0)
         else
          l_X3_haveEqualElements M rec N s y1 y2 y3 (y4 + (nI 1)))))
     else
      some (nI 1))
set_option maxRecDepth 100000 in
set_option maxHeartbeats 4000000 in
theorem tl_X3_haveEqualElements {L : Nat} {xs : Nat → Int32} (M d : Nat) (rec : Nat → zS → Int32 → Int32 → Int32 → Option (Int32)) (hd : 2 ≤ d) (t : zS) (hr_X3_areEqual : ∀ {s : zS} {a0 a1 a2 : Int32} {R : Int32}, rec 0 s a0 a1 a2 = some R → zcall (ztb L xs) d 42 [.ref 3, .int a0, .int a1, .int a2] (zHp s t) = some (some (.int R), zHp s t)) : ∀ (N : Nat) (s : zS) (y1 : Int32) (y2 : Int32) (y3 : Int32) (y4 : Int32) (R : Int32) (hF : l_X3_haveEqualElements M rec N s y1 y2 y3 y4 = some R), zX (ztb L xs) (zcall (ztb L xs) d) 3 2 zk_X3_haveEqualElements 3 [.ref 3, .int y1, .int y2, .int y3, .int y4] [] (zHp s t) (some (.int R), zHp s t) := by
  intro N
  induction N with
  | zero => intro s y1 y2 y3 y4 R hF; cases hF
  | succ N ih =>
    intro s y1 y2 y3 y4 R hF
    unfold l_X3_haveEqualElements at hF
    refine zX_go (c := 3) (pc' := 7) (lv' := [.ref 3, .int y1, .int y2, .int y3, .int y4]) (st' := [.int y1, .ref 3, .int y4]) (h' := zHp s t) rfl ?_
    obtain ⟨q1, hq, hF⟩ := zbd_ok hF
    refine zX_inv (av := [.ref 3, .int y1]) (st := [.int y4]) (h' := zHp s t) rfl rfl rfl rfl rfl rfl (zcall_le (t_X3_howManyElements M _ _ _ _ hq) (by omega)) ?_
    refine zX_go (c := 1) (pc' := if y4 < q1 then 13 else 45) (lv' := [.ref 3, .int y1, .int y2, .int y3, .int y4]) (st' := []) (h' := zHp s t) rfl ?_
    refine zX_ite hF (fun c0 hF => ?_) (fun c0 hF => ?_)
    · refine zX_go (c := 4) (pc' := 18) (lv' := [.ref 3, .int y1, .int y2, .int y3, .int y4]) (st' := [.int y4, .int y1, .ref 3, .ref 3]) (h' := zHp s t) rfl ?_
      obtain ⟨q2, hq, hF⟩ := zbd_ok hF
      refine zX_inv (av := [.ref 3, .int y1, .int y4]) (st := [.ref 3]) (h' := zHp s t) rfl rfl rfl rfl rfl rfl (zcall_le (t_X3_elementAt M _ _ _ _ _ hq) (by omega)) ?_
      refine zX_go (c := 3) (pc' := 25) (lv' := [.ref 3, .int y1, .int y2, .int y3, .int y4]) (st' := [.int y4, .int y2, .ref 3, .int q2, .ref 3]) (h' := zHp s t) rfl ?_
      obtain ⟨q3, hq, hF⟩ := zbd_ok hF
      refine zX_inv (av := [.ref 3, .int y2, .int y4]) (st := [.int q2, .ref 3]) (h' := zHp s t) rfl rfl rfl rfl rfl rfl (zcall_le (t_X3_elementAt M _ _ _ _ _ hq) (by omega)) ?_
      refine zX_go (c := 3) (pc' := 31) (lv' := [.ref 3, .int y1, .int y2, .int y3, .int y4]) (st' := [.int (y3 + (nI 1)), .int q3, .int q2, .ref 3]) (h' := zHp s t) rfl ?_
      obtain ⟨q4, hq, hF⟩ := zbd_ok hF
      refine zX_inv (av := [.ref 3, .int q2, .int q3, .int (y3 + (nI 1))]) (st := []) (h' := zHp s t) rfl rfl rfl rfl rfl rfl (hr_X3_areEqual hq) ?_
      refine zX_go (c := 1) (pc' := if q4 = 0 then 37 else 39) (lv' := [.ref 3, .int y1, .int y2, .int y3, .int y4]) (st' := []) (h' := zHp s t) rfl ?_
      refine zX_ite hF (fun c0 hF => ?_) (fun c0 hF => ?_)
      · refine zX_go (c := 1) (pc' := 38) (lv' := [.ref 3, .int y1, .int y2, .int y3, .int y4]) (st' := [.int (nI 0)]) (h' := zHp s t) rfl ?_
        obtain rfl := Option.some.inj hF
        exact zX_retz rfl (by decide)
      · refine zX_go (c := 2) (pc' := 3) (lv' := [.ref 3, .int y1, .int y2, .int y3, .int (y4 + (nI 1))]) (st' := []) (h' := zHp s t) rfl ?_
        exact ih s y1 y2 y3 (y4 + (nI 1)) _ hF
    · refine zX_go (c := 1) (pc' := 46) (lv' := [.ref 3, .int y1, .int y2, .int y3, .int y4]) (st' := [.int (nI 1)]) (h' := zHp s t) rfl ?_
      obtain rfl := Option.some.inj hF
      exact zX_retz rfl (by decide)
def b_X3_haveEqualElements (M : Nat) (rec : Nat → zS → Int32 → Int32 → Int32 → Option (Int32)) (s : zS) (x1 x2 x3 : Int32) : Option (Int32) :=
  l_X3_haveEqualElements M rec M s x1 x2 x3 (nI 0)
set_option maxRecDepth 100000 in
set_option maxHeartbeats 4000000 in
theorem tb_X3_haveEqualElements {L : Nat} {xs : Nat → Int32} (M d : Nat) (rec : Nat → zS → Int32 → Int32 → Int32 → Option (Int32)) (hd : 2 ≤ d) (s t : zS) (hr_X3_areEqual : ∀ {s : zS} {a0 a1 a2 : Int32} {R : Int32}, rec 0 s a0 a1 a2 = some R → zcall (ztb L xs) d 42 [.ref 3, .int a0, .int a1, .int a2] (zHp s t) = some (some (.int R), zHp s t)) (x1 x2 x3 : Int32) (R : Int32) (hF : b_X3_haveEqualElements M rec s x1 x2 x3 = some R) : zcall (ztb L xs) (d + 1) 43 [.ref 3, .int x1, .int x2, .int x3] (zHp s t) = some (some (.int R), zHp s t) := by
  unfold b_X3_haveEqualElements at hF
  refine zcall_X (d := d) (e := zm_X3_haveEqualElements) rfl rfl ?_
  show zX (ztb L xs) (zcall (ztb L xs) d) 3 2 zk_X3_haveEqualElements 0 [.ref 3, .int x1, .int x2, .int x3, .retAddr 0] [] (zHp s t) _
  refine zX_go (c := 2) (pc' := 3) (lv' := [.ref 3, .int x1, .int x2, .int x3, .int (nI 0)]) (st' := []) (h' := zHp s t) rfl ?_
  exact tl_X3_haveEqualElements M _ rec hd t hr_X3_areEqual M s x1 x2 x3 (nI 0) _ hF
def l_X3_haveEqualParts (M : Nat) (rec : Nat → zS → Int32 → Int32 → Int32 → Option (Int32)) : Nat → zS → Int32 → Int32 → Int32 → Int32 → Option (Int32)
  | 0, _, _, _, _, _ => none
  | N + 1, s, y1, y2, y3, y4 =>
    zq (zin y1 100) <|
    if y4 < (s 22 y1.toNatClampNeg) then
     zbd (f_X3_partAt M s y1 y4) (fun q1 =>
      zbd (f_X3_partAt M s y2 y4) (fun q2 =>
       zbd (rec 0 s q1 q2 (y3 + (nI 1))) (fun q3 =>
        if q3 = 0 then
         some (nI 0)
        else
         l_X3_haveEqualParts M rec N s y1 y2 y3 (y4 + (nI 1)))))
    else
     some (nI 1)
set_option maxRecDepth 100000 in
set_option maxHeartbeats 4000000 in
theorem tl_X3_haveEqualParts {L : Nat} {xs : Nat → Int32} (M d : Nat) (rec : Nat → zS → Int32 → Int32 → Int32 → Option (Int32)) (hd : 2 ≤ d) (t : zS) (hr_X3_areEqual : ∀ {s : zS} {a0 a1 a2 : Int32} {R : Int32}, rec 0 s a0 a1 a2 = some R → zcall (ztb L xs) d 42 [.ref 3, .int a0, .int a1, .int a2] (zHp s t) = some (some (.int R), zHp s t)) : ∀ (N : Nat) (s : zS) (y1 : Int32) (y2 : Int32) (y3 : Int32) (y4 : Int32) (R : Int32) (hF : l_X3_haveEqualParts M rec N s y1 y2 y3 y4 = some R), zX (ztb L xs) (zcall (ztb L xs) d) 3 2 zk_X3_haveEqualParts 3 [.ref 3, .int y1, .int y2, .int y3, .int y4] [] (zHp s t) (some (.int R), zHp s t) := by
  intro N
  induction N with
  | zero => intro s y1 y2 y3 y4 R hF; cases hF
  | succ N ih =>
    intro s y1 y2 y3 y4 R hF
    unfold l_X3_haveEqualParts at hF
    refine zX_go (c := 4) (pc' := 10) (lv' := [.ref 3, .int y1, .int y2, .int y3, .int y4]) (st' := [.int y1, .ref 25, .int y4]) (h' := zHp s t) rfl ?_
    refine zX_ial (n := 100) rfl rfl hF (fun hF => ?_)
    refine zX_go (c := 1) (pc' := if y4 < (s 22 y1.toNatClampNeg) then 14 else 46) (lv' := [.ref 3, .int y1, .int y2, .int y3, .int y4]) (st' := []) (h' := zHp s t) rfl ?_
    refine zX_ite hF (fun c0 hF => ?_) (fun c0 hF => ?_)
    · refine zX_go (c := 4) (pc' := 19) (lv' := [.ref 3, .int y1, .int y2, .int y3, .int y4]) (st' := [.int y4, .int y1, .ref 3, .ref 3]) (h' := zHp s t) rfl ?_
      obtain ⟨q1, hq, hF⟩ := zbd_ok hF
      refine zX_inv (av := [.ref 3, .int y1, .int y4]) (st := [.ref 3]) (h' := zHp s t) rfl rfl rfl rfl rfl rfl (zcall_le (t_X3_partAt M _ _ _ _ _ hq) (by omega)) ?_
      refine zX_go (c := 3) (pc' := 26) (lv' := [.ref 3, .int y1, .int y2, .int y3, .int y4]) (st' := [.int y4, .int y2, .ref 3, .int q1, .ref 3]) (h' := zHp s t) rfl ?_
      obtain ⟨q2, hq, hF⟩ := zbd_ok hF
      refine zX_inv (av := [.ref 3, .int y2, .int y4]) (st := [.int q1, .ref 3]) (h' := zHp s t) rfl rfl rfl rfl rfl rfl (zcall_le (t_X3_partAt M _ _ _ _ _ hq) (by omega)) ?_
      refine zX_go (c := 3) (pc' := 32) (lv' := [.ref 3, .int y1, .int y2, .int y3, .int y4]) (st' := [.int (y3 + (nI 1)), .int q2, .int q1, .ref 3]) (h' := zHp s t) rfl ?_
      obtain ⟨q3, hq, hF⟩ := zbd_ok hF
      refine zX_inv (av := [.ref 3, .int q1, .int q2, .int (y3 + (nI 1))]) (st := []) (h' := zHp s t) rfl rfl rfl rfl rfl rfl (hr_X3_areEqual hq) ?_
      refine zX_go (c := 1) (pc' := if q3 = 0 then 38 else 40) (lv' := [.ref 3, .int y1, .int y2, .int y3, .int y4]) (st' := []) (h' := zHp s t) rfl ?_
      refine zX_ite hF (fun c0 hF => ?_) (fun c0 hF => ?_)
      · refine zX_go (c := 1) (pc' := 39) (lv' := [.ref 3, .int y1, .int y2, .int y3, .int y4]) (st' := [.int (nI 0)]) (h' := zHp s t) rfl ?_
        obtain rfl := Option.some.inj hF
        exact zX_retz rfl (by decide)
      · refine zX_go (c := 2) (pc' := 3) (lv' := [.ref 3, .int y1, .int y2, .int y3, .int (y4 + (nI 1))]) (st' := []) (h' := zHp s t) rfl ?_
        exact ih s y1 y2 y3 (y4 + (nI 1)) _ hF
    · refine zX_go (c := 1) (pc' := 47) (lv' := [.ref 3, .int y1, .int y2, .int y3, .int y4]) (st' := [.int (nI 1)]) (h' := zHp s t) rfl ?_
      obtain rfl := Option.some.inj hF
      exact zX_retz rfl (by decide)
def b_X3_haveEqualParts (M : Nat) (rec : Nat → zS → Int32 → Int32 → Int32 → Option (Int32)) (s : zS) (x1 x2 x3 : Int32) : Option (Int32) :=
  l_X3_haveEqualParts M rec M s x1 x2 x3 (nI 0)
set_option maxRecDepth 100000 in
set_option maxHeartbeats 4000000 in
theorem tb_X3_haveEqualParts {L : Nat} {xs : Nat → Int32} (M d : Nat) (rec : Nat → zS → Int32 → Int32 → Int32 → Option (Int32)) (hd : 2 ≤ d) (s t : zS) (hr_X3_areEqual : ∀ {s : zS} {a0 a1 a2 : Int32} {R : Int32}, rec 0 s a0 a1 a2 = some R → zcall (ztb L xs) d 42 [.ref 3, .int a0, .int a1, .int a2] (zHp s t) = some (some (.int R), zHp s t)) (x1 x2 x3 : Int32) (R : Int32) (hF : b_X3_haveEqualParts M rec s x1 x2 x3 = some R) : zcall (ztb L xs) (d + 1) 44 [.ref 3, .int x1, .int x2, .int x3] (zHp s t) = some (some (.int R), zHp s t) := by
  unfold b_X3_haveEqualParts at hF
  refine zcall_X (d := d) (e := zm_X3_haveEqualParts) rfl rfl ?_
  show zX (ztb L xs) (zcall (ztb L xs) d) 3 2 zk_X3_haveEqualParts 0 [.ref 3, .int x1, .int x2, .int x3, .retAddr 0] [] (zHp s t) _
  refine zX_go (c := 2) (pc' := 3) (lv' := [.ref 3, .int x1, .int x2, .int x3, .int (nI 0)]) (st' := []) (h' := zHp s t) rfl ?_
  exact tl_X3_haveEqualParts M _ rec hd t hr_X3_areEqual M s x1 x2 x3 (nI 0) _ hF
def g_X3_areEqual (M : Nat) : Nat → Nat → zS → Int32 → Int32 → Int32 → Option (Int32)
  | 0, _, _, _, _, _ => none
  | K + 1, w, s, x1, x2, x3 => match w with
    | 0 => b_X3_areEqual M (g_X3_areEqual M K) s x1 x2 x3
    | 1 => b_X3_haveEqualElements M (g_X3_areEqual M K) s x1 x2 x3
    | 2 => b_X3_haveEqualParts M (g_X3_areEqual M K) s x1 x2 x3
    | _ => none
set_option maxRecDepth 100000 in
set_option maxHeartbeats 4000000 in
theorem tg_X3_areEqual {L : Nat} {xs : Nat → Int32} (M : Nat) : ∀ (K : Nat), (∀ (s t : zS) (x1 x2 x3 : Int32) (R : Int32), g_X3_areEqual M K 0 s x1 x2 x3 = some R → zcall (ztb L xs) (2 + K) 42 [.ref 3, .int x1, .int x2, .int x3] (zHp s t) = some (some (.int R), zHp s t)) ∧ (∀ (s t : zS) (x1 x2 x3 : Int32) (R : Int32), g_X3_areEqual M K 1 s x1 x2 x3 = some R → zcall (ztb L xs) (2 + K) 43 [.ref 3, .int x1, .int x2, .int x3] (zHp s t) = some (some (.int R), zHp s t)) ∧ (∀ (s t : zS) (x1 x2 x3 : Int32) (R : Int32), g_X3_areEqual M K 2 s x1 x2 x3 = some R → zcall (ztb L xs) (2 + K) 44 [.ref 3, .int x1, .int x2, .int x3] (zHp s t) = some (some (.int R), zHp s t)) := by
  intro K
  induction K with
  | zero => exact ⟨(by intros; rename_i hF; cases hF), (by intros; rename_i hF; cases hF), (by intros; rename_i hF; cases hF)⟩
  | succ K ih =>
    refine ⟨?_, ?_, ?_⟩
    · intro s t x1 x2 x3 R hF
      exact tb_X3_areEqual M (2 + K) (g_X3_areEqual M K) (by omega) s t (fun hq => ih.2.1 _ t _ _ _ _ hq) (fun hq => ih.2.2 _ t _ _ _ _ hq) x1 x2 x3 R hF
    · intro s t x1 x2 x3 R hF
      exact tb_X3_haveEqualElements M (2 + K) (g_X3_areEqual M K) (by omega) s t (fun hq => ih.1 _ t _ _ _ _ hq) x1 x2 x3 R hF
    · intro s t x1 x2 x3 R hF
      exact tb_X3_haveEqualParts M (2 + K) (g_X3_areEqual M K) (by omega) s t (fun hq => ih.1 _ t _ _ _ _ hq) x1 x2 x3 R hF
theorem t_X3_areEqual {L : Nat} {xs : Nat → Int32} (M K : Nat) (s t : zS) (x1 x2 x3 : Int32) (R : Int32) (hF : g_X3_areEqual M K 0 s x1 x2 x3 = some R) : zcall (ztb L xs) (2 + K) 42 [.ref 3, .int x1, .int x2, .int x3] (zHp s t) = some (some (.int R), zHp s t) := (tg_X3_areEqual M K).1 s t x1 x2 x3 R hF
theorem t_X3_haveEqualElements {L : Nat} {xs : Nat → Int32} (M K : Nat) (s t : zS) (x1 x2 x3 : Int32) (R : Int32) (hF : g_X3_areEqual M K 1 s x1 x2 x3 = some R) : zcall (ztb L xs) (2 + K) 43 [.ref 3, .int x1, .int x2, .int x3] (zHp s t) = some (some (.int R), zHp s t) := (tg_X3_areEqual M K).2.1 s t x1 x2 x3 R hF
theorem t_X3_haveEqualParts {L : Nat} {xs : Nat → Int32} (M K : Nat) (s t : zS) (x1 x2 x3 : Int32) (R : Int32) (hF : g_X3_areEqual M K 2 s x1 x2 x3 = some R) : zcall (ztb L xs) (2 + K) 44 [.ref 3, .int x1, .int x2, .int x3] (zHp s t) = some (some (.int R), zHp s t) := (tg_X3_areEqual M K).2.2 s t x1 x2 x3 R hF
