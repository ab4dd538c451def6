/-! What the methods answer, and that the small machine answers so: by program (gen2.py). -/
def f_X0_has (M : Nat) (s : zS) (x1 : Int32) : Option (Int32) :=
  if x1 < 0 then
   some (nI 0)
  else
   if x1 < (s 2 0) then
    some (nI 1)
   else
    some (nI 0)
set_option maxRecDepth 100000 in
set_option maxHeartbeats 4000000 in
theorem t_X0_has {L : Nat} {xs : Nat → Int32} (M : Nat) (s t : zS) (x1 : Int32) (R : Int32) (hF : f_X0_has M s x1 = some R) : zcall (ztb L xs) 1 0 [.ref 1, .int x1] (zHp s t) = some (some (.int R), zHp s t) := by
  unfold f_X0_has at hF
  refine zcall_X (d := 0) (e := zm_X0_has) rfl rfl ?_
  show zX (ztb L xs) (zcall (ztb L xs) 0) 0 2 zk_X0_has 0 [.ref 1, .int x1] [] (zHp s t) _
  refine zX_go (c := 2) (pc' := if x1 < 0 then 16 else 4) (lv' := [.ref 1, .int x1]) (st' := []) (h' := zHp s t) rfl ?_
  refine zX_ite hF (fun c0 hF => ?_) (fun c0 hF => ?_)
  · refine zX_go (c := 1) (pc' := 17) (lv' := [.ref 1, .int x1]) (st' := [.int (nI 0)]) (h' := zHp s t) rfl ?_
    obtain rfl := Option.some.inj hF
    exact zX_retz rfl (by decide)
  · refine zX_go (c := 4) (pc' := if x1 < (s 2 0) then 12 else 16) (lv' := [.ref 1, .int x1]) (st' := []) (h' := zHp s t) rfl ?_
    refine zX_ite hF (fun c0 hF => ?_) (fun c0 hF => ?_)
    · refine zX_go (c := 2) (pc' := 17) (lv' := [.ref 1, .int x1]) (st' := [.int (nI 1)]) (h' := zHp s t) rfl ?_
      obtain rfl := Option.some.inj hF
      exact zX_retz rfl (by decide)
    · refine zX_go (c := 1) (pc' := 17) (lv' := [.ref 1, .int x1]) (st' := [.int (nI 0)]) (h' := zHp s t) rfl ?_
      obtain rfl := Option.some.inj hF
      exact zX_retz rfl (by decide)
def f_X0_hasKind (M : Nat) (s : zS) (x1 : Int32) : Option (Int32) :=
  if x1 < 0 then
   zbd (f_X0_has M s (x1 - (nI 10))) (fun q1 =>
    if q1 = 0 then
     some (nI 0)
    else
     some (nI 1))
  else
   if (nI 3) < x1 then
    zbd (f_X0_has M s (x1 - (nI 10))) (fun q2 =>
     if q2 = 0 then
      some (nI 0)
     else
      some (nI 1))
   else
    some (nI 1)
set_option maxRecDepth 100000 in
set_option maxHeartbeats 4000000 in
theorem t_X0_hasKind {L : Nat} {xs : Nat → Int32} (M : Nat) (s t : zS) (x1 : Int32) (R : Int32) (hF : f_X0_hasKind M s x1 = some R) : zcall (ztb L xs) 2 1 [.ref 1, .int x1] (zHp s t) = some (some (.int R), zHp s t) := by
  unfold f_X0_hasKind at hF
  refine zcall_X (d := 1) (e := zm_X0_hasKind) rfl rfl ?_
  show zX (ztb L xs) (zcall (ztb L xs) 1) 0 2 zk_X0_hasKind 0 [.ref 1, .int x1] [] (zHp s t) _
  refine zX_go (c := 2) (pc' := if x1 < 0 then 9 else 4) (lv' := [.ref 1, .int x1]) (st' := []) (h' := zHp s t) rfl ?_
  refine zX_ite hF (fun c0 hF => ?_) (fun c0 hF => ?_)
  · refine zX_go (c := 4) (pc' := 14) (lv' := [.ref 1, .int x1]) (st' := [.int (x1 - (nI 10)), .ref 1]) (h' := zHp s t) rfl ?_
    obtain ⟨q1, hq, hF⟩ := zbd_ok hF
    refine zX_inv (av := [.ref 1, .int (x1 - (nI 10))]) (st := []) (h' := zHp s t) rfl rfl rfl rfl rfl rfl (zcall_le (t_X0_has M _ _ _ _ hq) (by decide)) ?_
    refine zX_go (c := 1) (pc' := if q1 = 0 then 24 else 20) (lv' := [.ref 1, .int x1]) (st' := []) (h' := zHp s t) rfl ?_
    refine zX_ite hF (fun c0 hF => ?_) (fun c0 hF => ?_)
    · refine zX_go (c := 1) (pc' := 25) (lv' := [.ref 1, .int x1]) (st' := [.int (nI 0)]) (h' := zHp s t) rfl ?_
      obtain rfl := Option.some.inj hF
      exact zX_retz rfl (by decide)
    · refine zX_go (c := 2) (pc' := 25) (lv' := [.ref 1, .int x1]) (st' := [.int (nI 1)]) (h' := zHp s t) rfl ?_
      obtain rfl := Option.some.inj hF
      exact zX_retz rfl (by decide)
  · refine zX_go (c := 3) (pc' := if (nI 3) < x1 then 9 else 20) (lv' := [.ref 1, .int x1]) (st' := []) (h' := zHp s t) rfl ?_
    refine zX_ite hF (fun c0 hF => ?_) (fun c0 hF => ?_)
    · refine zX_go (c := 4) (pc' := 14) (lv' := [.ref 1, .int x1]) (st' := [.int (x1 - (nI 10)), .ref 1]) (h' := zHp s t) rfl ?_
      obtain ⟨q2, hq, hF⟩ := zbd_ok hF
      refine zX_inv (av := [.ref 1, .int (x1 - (nI 10))]) (st := []) (h' := zHp s t) rfl rfl rfl rfl rfl rfl (zcall_le (t_X0_has M _ _ _ _ hq) (by decide)) ?_
      refine zX_go (c := 1) (pc' := if q2 = 0 then 24 else 20) (lv' := [.ref 1, .int x1]) (st' := []) (h' := zHp s t) rfl ?_
      refine zX_ite hF (fun c0 hF => ?_) (fun c0 hF => ?_)
      · refine zX_go (c := 1) (pc' := 25) (lv' := [.ref 1, .int x1]) (st' := [.int (nI 0)]) (h' := zHp s t) rfl ?_
        obtain rfl := Option.some.inj hF
        exact zX_retz rfl (by decide)
      · refine zX_go (c := 2) (pc' := 25) (lv' := [.ref 1, .int x1]) (st' := [.int (nI 1)]) (h' := zHp s t) rfl ?_
        obtain rfl := Option.some.inj hF
        exact zX_retz rfl (by decide)
    · refine zX_go (c := 2) (pc' := 25) (lv' := [.ref 1, .int x1]) (st' := [.int (nI 1)]) (h' := zHp s t) rfl ?_
      obtain rfl := Option.some.inj hF
      exact zX_retz rfl (by decide)
def f_X0_add (M : Nat) (s : zS) (x1 x2 x3 : Int32) : Option (Int32 × zS) :=
  if (s 2 0) < (nI 12) then
   zq (zin (s 2 0) 12) <|
   zq (zin (s 2 0) 12) <|
   zq (zin (s 2 0) 12) <|
   some (((s 2 0) + (nI 1)) - (nI 1), zup (zup (zup (zup s 3 (s 2 0).toNatClampNeg x1) 4 (s 2 0).toNatClampNeg x2) 5 (s 2 0).toNatClampNeg (zbn 1 x3)) 2 0 ((s 2 0) + (nI 1)))
  else
   some ((-3), s)
set_option maxRecDepth 100000 in
set_option maxHeartbeats 4000000 in
theorem t_X0_add {L : Nat} {xs : Nat → Int32} (M : Nat) (s t : zS) (x1 x2 x3 : Int32) (R : Int32 × zS) (hF : f_X0_add M s x1 x2 x3 = some R) : zcall (ztb L xs) 1 2 [.ref 1, .int x1, .int x2, .int x3] (zHp s t) = some (some (.int R.1), zHp R.2 t) := by
  unfold f_X0_add at hF
  refine zcall_X (d := 0) (e := zm_X0_add) rfl rfl ?_
  show zX (ztb L xs) (zcall (ztb L xs) 0) 0 1 zk_X0_add 0 [.ref 1, .int x1, .int x2, .int x3] [] (zHp s t) _
  refine zX_go (c := 4) (pc' := if (s 2 0) < (nI 12) then 12 else 9) (lv' := [.ref 1, .int x1, .int x2, .int x3]) (st' := []) (h' := zHp s t) rfl ?_
  refine zX_ite hF (fun c0 hF => ?_) (fun c0 hF => ?_)
  · refine zX_go (c := 5) (pc' := 21) (lv' := [.ref 1, .int x1, .int x2, .int x3]) (st' := [.int x1, .int (s 2 0), .ref 8]) (h' := zHp s t) rfl ?_
    refine zX_ias (n := 12) (h' := zHp (zup s 3 (s 2 0).toNatClampNeg x1) t) rfl rfl (zst_8 _ _ _ _) hF (fun hF => ?_)
    refine zX_go (c := 5) (pc' := 31) (lv' := [.ref 1, .int x1, .int x2, .int x3]) (st' := [.int x2, .int (s 2 0), .ref 9]) (h' := zHp (zup s 3 (s 2 0).toNatClampNeg x1) t) rfl ?_
    refine zX_ias (n := 12) (h' := zHp (zup (zup s 3 (s 2 0).toNatClampNeg x1) 4 (s 2 0).toNatClampNeg x2) t) rfl rfl (zst_9 _ _ _ _) hF (fun hF => ?_)
    refine zX_go (c := 5) (pc' := 41) (lv' := [.ref 1, .int x1, .int x2, .int x3]) (st' := [.int x3, .int (s 2 0), .ref 10]) (h' := zHp (zup (zup s 3 (s 2 0).toNatClampNeg x1) 4 (s 2 0).toNatClampNeg x2) t) rfl ?_
    refine zX_bas (n := 12) (h' := zHp (zup (zup (zup s 3 (s 2 0).toNatClampNeg x1) 4 (s 2 0).toNatClampNeg x2) 5 (s 2 0).toNatClampNeg (zbn 1 x3)) t) rfl rfl (zst_10 _ _ _ _) hF (fun hF => ?_)
    refine zX_go (c := 5) (pc' := 49) (lv' := [.ref 1, .int x1, .int x2, .int x3]) (st' := [.int ((s 2 0) + (nI 1)), .ref 1]) (h' := zHp (zup (zup (zup s 3 (s 2 0).toNatClampNeg x1) 4 (s 2 0).toNatClampNeg x2) 5 (s 2 0).toNatClampNeg (zbn 1 x3)) t) rfl ?_
    refine zX_pfi (h' := zHp (zup (zup (zup (zup s 3 (s 2 0).toNatClampNeg x1) 4 (s 2 0).toNatClampNeg x2) 5 (s 2 0).toNatClampNeg (zbn 1 x3)) 2 0 ((s 2 0) + (nI 1))) t) rfl rfl rfl rfl (zst_1_0 _ _ _) ?_
    refine zX_go (c := 4) (pc' := 58) (lv' := [.ref 1, .int x1, .int x2, .int x3]) (st' := [.int (((s 2 0) + (nI 1)) - (nI 1))]) (h' := zHp (zup (zup (zup (zup s 3 (s 2 0).toNatClampNeg x1) 4 (s 2 0).toNatClampNeg x2) 5 (s 2 0).toNatClampNeg (zbn 1 x3)) 2 0 ((s 2 0) + (nI 1))) t) rfl ?_
    obtain rfl := Option.some.inj hF
    exact zX_reti rfl
  · refine zX_go (c := 1) (pc' := 11) (lv' := [.ref 1, .int x1, .int x2, .int x3]) (st' := [.int (-3)]) (h' := zHp s t) rfl ?_
    obtain rfl := Option.some.inj hF
    exact zX_reti rfl
def f_X0_leadOf (M : Nat) (s : zS) (x1 : Int32) : Option (Int32) :=
  if x1 < (nI 10) then
   some (nI 0)
  else
   some ((nI 1) <<< ((x1 - (nI 10)) &&& 31))
set_option maxRecDepth 100000 in
set_option maxHeartbeats 4000000 in
theorem t_X0_leadOf {L : Nat} {xs : Nat → Int32} (M : Nat) (s t : zS) (x1 : Int32) (R : Int32) (hF : f_X0_leadOf M s x1 = some R) : zcall (ztb L xs) 1 7 [.int x1] (zHp s t) = some (some (.int R), zHp s t) := by
  unfold f_X0_leadOf at hF
  refine zcall_X (d := 0) (e := zm_X0_leadOf) rfl rfl ?_
  show zX (ztb L xs) (zcall (ztb L xs) 0) 0 1 zk_X0_leadOf 0 [.int x1] [] (zHp s t) _
  refine zX_go (c := 3) (pc' := if x1 < (nI 10) then 15 else 6) (lv' := [.int x1]) (st' := []) (h' := zHp s t) rfl ?_
  refine zX_ite hF (fun c0 hF => ?_) (fun c0 hF => ?_)
  · refine zX_go (c := 1) (pc' := 16) (lv' := [.int x1]) (st' := [.int (nI 0)]) (h' := zHp s t) rfl ?_
    obtain rfl := Option.some.inj hF
    exact zX_reti rfl
  · refine zX_go (c := 6) (pc' := 16) (lv' := [.int x1]) (st' := [.int ((nI 1) <<< ((x1 - (nI 10)) &&& 31))]) (h' := zHp s t) rfl ?_
    obtain rfl := Option.some.inj hF
    exact zX_reti rfl
def f_X0_addElement (M : Nat) (s : zS) (x1 x2 x3 x4 : Int32) : Option (Int32 × zS) :=
  zq (zin x1 12) <|
  if (s 6 x1.toNatClampNeg) < (nI 5) then
   zq (zin x1 12) <|
   zq (zin ((x1 * (nI 5)) + (s 6 x1.toNatClampNeg)) 60) <|
   zq (zin ((x1 * (nI 5)) + (s 6 x1.toNatClampNeg)) 60) <|
   zq (zin ((x1 * (nI 5)) + (s 6 x1.toNatClampNeg)) 60) <|
   zq (zin x1 12) <|
   zbd (f_X0_leadOf M (zup (zup (zup s 12 ((x1 * (nI 5)) + (s 6 x1.toNatClampNeg)).toNatClampNeg x2) 13 ((x1 * (nI 5)) + (s 6 x1.toNatClampNeg)).toNatClampNeg x3) 14 ((x1 * (nI 5)) + (s 6 x1.toNatClampNeg)).toNatClampNeg (zbn 1 x4)) x3) (fun q1 =>
    zq (zin x1 12) <|
    zq (zin x1 12) <|
    zq (zin x1 12) <|
    zq (zin x1 12) <|
    some ((zup (zup (zup (zup (zup s 12 ((x1 * (nI 5)) + (s 6 x1.toNatClampNeg)).toNatClampNeg x2) 13 ((x1 * (nI 5)) + (s 6 x1.toNatClampNeg)).toNatClampNeg x3) 14 ((x1 * (nI 5)) + (s 6 x1.toNatClampNeg)).toNatClampNeg (zbn 1 x4)) 7 x1.toNatClampNeg ((s 7 x1.toNatClampNeg) ||| q1)) 6 x1.toNatClampNeg ((s 6 x1.toNatClampNeg) + (nI 1))) 6 x1.toNatClampNeg, zup (zup (zup (zup (zup s 12 ((x1 * (nI 5)) + (s 6 x1.toNatClampNeg)).toNatClampNeg x2) 13 ((x1 * (nI 5)) + (s 6 x1.toNatClampNeg)).toNatClampNeg x3) 14 ((x1 * (nI 5)) + (s 6 x1.toNatClampNeg)).toNatClampNeg (zbn 1 x4)) 7 x1.toNatClampNeg ((s 7 x1.toNatClampNeg) ||| q1)) 6 x1.toNatClampNeg ((s 6 x1.toNatClampNeg) + (nI 1))))
  else
   some ((-3), s)
set_option maxRecDepth 100000 in
set_option maxHeartbeats 4000000 in
theorem t_X0_addElement {L : Nat} {xs : Nat → Int32} (M : Nat) (s t : zS) (x1 x2 x3 x4 : Int32) (R : Int32 × zS) (hF : f_X0_addElement M s x1 x2 x3 x4 = some R) : zcall (ztb L xs) 2 3 [.ref 1, .int x1, .int x2, .int x3, .int x4] (zHp s t) = some (some (.int R.1), zHp R.2 t) := by
  unfold f_X0_addElement at hF
  refine zcall_X (d := 1) (e := zm_X0_addElement) rfl rfl ?_
  show zX (ztb L xs) (zcall (ztb L xs) 1) 0 1 zk_X0_addElement 0 [.ref 1, .int x1, .int x2, .int x3, .int x4, .retAddr 0] [] (zHp s t) _
  refine zX_go (c := 3) (pc' := 5) (lv' := [.ref 1, .int x1, .int x2, .int x3, .int x4, .retAddr 0]) (st' := [.int x1, .ref 11]) (h' := zHp s t) rfl ?_
  refine zX_ial (n := 12) rfl rfl hF (fun hF => ?_)
  refine zX_go (c := 2) (pc' := if (s 6 x1.toNatClampNeg) < (nI 5) then 13 else 10) (lv' := [.ref 1, .int x1, .int x2, .int x3, .int x4, .retAddr 0]) (st' := []) (h' := zHp s t) rfl ?_
  refine zX_ite hF (fun c0 hF => ?_) (fun c0 hF => ?_)
  · refine zX_go (c := 6) (pc' := 21) (lv' := [.ref 1, .int x1, .int x2, .int x3, .int x4, .retAddr 0]) (st' := [.int x1, .ref 11, .int (x1 * (nI 5))]) (h' := zHp s t) rfl ?_
    refine zX_ial (n := 12) rfl rfl hF (fun hF => ?_)
    refine zX_go (c := 6) (pc' := 32) (lv' := [.ref 1, .int x1, .int x2, .int x3, .int x4, .int ((x1 * (nI 5)) + (s 6 x1.toNatClampNeg))]) (st' := [.int x2, .int ((x1 * (nI 5)) + (s 6 x1.toNatClampNeg)), .ref 17]) (h' := zHp s t) rfl ?_
    refine zX_ias (n := 60) (h' := zHp (zup s 12 ((x1 * (nI 5)) + (s 6 x1.toNatClampNeg)).toNatClampNeg x2) t) rfl rfl (zst_17 _ _ _ _) hF (fun hF => ?_)
    refine zX_go (c := 4) (pc' := 40) (lv' := [.ref 1, .int x1, .int x2, .int x3, .int x4, .int ((x1 * (nI 5)) + (s 6 x1.toNatClampNeg))]) (st' := [.int x3, .int ((x1 * (nI 5)) + (s 6 x1.toNatClampNeg)), .ref 18]) (h' := zHp (zup s 12 ((x1 * (nI 5)) + (s 6 x1.toNatClampNeg)).toNatClampNeg x2) t) rfl ?_
    refine zX_ias (n := 60) (h' := zHp (zup (zup s 12 ((x1 * (nI 5)) + (s 6 x1.toNatClampNeg)).toNatClampNeg x2) 13 ((x1 * (nI 5)) + (s 6 x1.toNatClampNeg)).toNatClampNeg x3) t) rfl rfl (zst_18 _ _ _ _) hF (fun hF => ?_)
    refine zX_go (c := 4) (pc' := 49) (lv' := [.ref 1, .int x1, .int x2, .int x3, .int x4, .int ((x1 * (nI 5)) + (s 6 x1.toNatClampNeg))]) (st' := [.int x4, .int ((x1 * (nI 5)) + (s 6 x1.toNatClampNeg)), .ref 19]) (h' := zHp (zup (zup s 12 ((x1 * (nI 5)) + (s 6 x1.toNatClampNeg)).toNatClampNeg x2) 13 ((x1 * (nI 5)) + (s 6 x1.toNatClampNeg)).toNatClampNeg x3) t) rfl ?_
    refine zX_bas (n := 60) (h' := zHp (zup (zup (zup s 12 ((x1 * (nI 5)) + (s 6 x1.toNatClampNeg)).toNatClampNeg x2) 13 ((x1 * (nI 5)) + (s 6 x1.toNatClampNeg)).toNatClampNeg x3) 14 ((x1 * (nI 5)) + (s 6 x1.toNatClampNeg)).toNatClampNeg (zbn 1 x4)) t) rfl rfl (zst_19 _ _ _ _) hF (fun hF => ?_)
    refine zX_go (c := 4) (pc' := 56) (lv' := [.ref 1, .int x1, .int x2, .int x3, .int x4, .int ((x1 * (nI 5)) + (s 6 x1.toNatClampNeg))]) (st' := [.int x1, .ref 12, .int x1, .ref 12]) (h' := zHp (zup (zup (zup s 12 ((x1 * (nI 5)) + (s 6 x1.toNatClampNeg)).toNatClampNeg x2) 13 ((x1 * (nI 5)) + (s 6 x1.toNatClampNeg)).toNatClampNeg x3) 14 ((x1 * (nI 5)) + (s 6 x1.toNatClampNeg)).toNatClampNeg (zbn 1 x4)) t) rfl ?_
    refine zX_ial (n := 12) rfl rfl hF (fun hF => ?_)
    refine zX_go (c := 1) (pc' := 58) (lv' := [.ref 1, .int x1, .int x2, .int x3, .int x4, .int ((x1 * (nI 5)) + (s 6 x1.toNatClampNeg))]) (st' := [.int x3, .int (s 7 x1.toNatClampNeg), .int x1, .ref 12]) (h' := zHp (zup (zup (zup s 12 ((x1 * (nI 5)) + (s 6 x1.toNatClampNeg)).toNatClampNeg x2) 13 ((x1 * (nI 5)) + (s 6 x1.toNatClampNeg)).toNatClampNeg x3) 14 ((x1 * (nI 5)) + (s 6 x1.toNatClampNeg)).toNatClampNeg (zbn 1 x4)) t) rfl ?_
    obtain ⟨q1, hq, hF⟩ := zbd_ok hF
    refine zX_ins (av := [.int x3]) (st := [.int (s 7 x1.toNatClampNeg), .int x1, .ref 12]) (h' := zHp (zup (zup (zup s 12 ((x1 * (nI 5)) + (s 6 x1.toNatClampNeg)).toNatClampNeg x2) 13 ((x1 * (nI 5)) + (s 6 x1.toNatClampNeg)).toNatClampNeg x3) 14 ((x1 * (nI 5)) + (s 6 x1.toNatClampNeg)).toNatClampNeg (zbn 1 x4)) t) rfl rfl rfl rfl rfl rfl (zcall_le (t_X0_leadOf M _ _ _ _ hq) (by decide)) ?_
    refine zX_go (c := 1) (pc' := 62) (lv' := [.ref 1, .int x1, .int x2, .int x3, .int x4, .int ((x1 * (nI 5)) + (s 6 x1.toNatClampNeg))]) (st' := [.int ((s 7 x1.toNatClampNeg) ||| q1), .int x1, .ref 12]) (h' := zHp (zup (zup (zup s 12 ((x1 * (nI 5)) + (s 6 x1.toNatClampNeg)).toNatClampNeg x2) 13 ((x1 * (nI 5)) + (s 6 x1.toNatClampNeg)).toNatClampNeg x3) 14 ((x1 * (nI 5)) + (s 6 x1.toNatClampNeg)).toNatClampNeg (zbn 1 x4)) t) rfl ?_
    refine zX_ias (n := 12) (h' := zHp (zup (zup (zup (zup s 12 ((x1 * (nI 5)) + (s 6 x1.toNatClampNeg)).toNatClampNeg x2) 13 ((x1 * (nI 5)) + (s 6 x1.toNatClampNeg)).toNatClampNeg x3) 14 ((x1 * (nI 5)) + (s 6 x1.toNatClampNeg)).toNatClampNeg (zbn 1 x4)) 7 x1.toNatClampNeg ((s 7 x1.toNatClampNeg) ||| q1)) t) rfl rfl (zst_12 _ _ _ _) hF (fun hF => ?_)
    refine zX_go (c := 4) (pc' := 69) (lv' := [.ref 1, .int x1, .int x2, .int x3, .int x4, .int ((x1 * (nI 5)) + (s 6 x1.toNatClampNeg))]) (st' := [.int x1, .ref 11, .int x1, .ref 11]) (h' := zHp (zup (zup (zup (zup s 12 ((x1 * (nI 5)) + (s 6 x1.toNatClampNeg)).toNatClampNeg x2) 13 ((x1 * (nI 5)) + (s 6 x1.toNatClampNeg)).toNatClampNeg x3) 14 ((x1 * (nI 5)) + (s 6 x1.toNatClampNeg)).toNatClampNeg (zbn 1 x4)) 7 x1.toNatClampNeg ((s 7 x1.toNatClampNeg) ||| q1)) t) rfl ?_
    refine zX_ial (n := 12) rfl rfl hF (fun hF => ?_)
    refine zX_go (c := 2) (pc' := 72) (lv' := [.ref 1, .int x1, .int x2, .int x3, .int x4, .int ((x1 * (nI 5)) + (s 6 x1.toNatClampNeg))]) (st' := [.int ((s 6 x1.toNatClampNeg) + (nI 1)), .int x1, .ref 11]) (h' := zHp (zup (zup (zup (zup s 12 ((x1 * (nI 5)) + (s 6 x1.toNatClampNeg)).toNatClampNeg x2) 13 ((x1 * (nI 5)) + (s 6 x1.toNatClampNeg)).toNatClampNeg x3) 14 ((x1 * (nI 5)) + (s 6 x1.toNatClampNeg)).toNatClampNeg (zbn 1 x4)) 7 x1.toNatClampNeg ((s 7 x1.toNatClampNeg) ||| q1)) t) rfl ?_
    refine zX_ias (n := 12) (h' := zHp (zup (zup (zup (zup (zup s 12 ((x1 * (nI 5)) + (s 6 x1.toNatClampNeg)).toNatClampNeg x2) 13 ((x1 * (nI 5)) + (s 6 x1.toNatClampNeg)).toNatClampNeg x3) 14 ((x1 * (nI 5)) + (s 6 x1.toNatClampNeg)).toNatClampNeg (zbn 1 x4)) 7 x1.toNatClampNeg ((s 7 x1.toNatClampNeg) ||| q1)) 6 x1.toNatClampNeg ((s 6 x1.toNatClampNeg) + (nI 1))) t) rfl rfl (zst_11 _ _ _ _) hF (fun hF => ?_)
    refine zX_go (c := 3) (pc' := 78) (lv' := [.ref 1, .int x1, .int x2, .int x3, .int x4, .int ((x1 * (nI 5)) + (s 6 x1.toNatClampNeg))]) (st' := [.int x1, .ref 11]) (h' := zHp (zup (zup (zup (zup (zup s 12 ((x1 * (nI 5)) + (s 6 x1.toNatClampNeg)).toNatClampNeg x2) 13 ((x1 * (nI 5)) + (s 6 x1.toNatClampNeg)).toNatClampNeg x3) 14 ((x1 * (nI 5)) + (s 6 x1.toNatClampNeg)).toNatClampNeg (zbn 1 x4)) 7 x1.toNatClampNeg ((s 7 x1.toNatClampNeg) ||| q1)) 6 x1.toNatClampNeg ((s 6 x1.toNatClampNeg) + (nI 1))) t) rfl ?_
    refine zX_ial (n := 12) rfl rfl hF (fun hF => ?_)
    obtain rfl := Option.some.inj hF
    exact zX_reti rfl
  · refine zX_go (c := 1) (pc' := 12) (lv' := [.ref 1, .int x1, .int x2, .int x3, .int x4, .retAddr 0]) (st' := [.int (-3)]) (h' := zHp s t) rfl ?_
    obtain rfl := Option.some.inj hF
    exact zX_reti rfl
def l_X0_positionOf (M : Nat) : Nat → zS → Int32 → Int32 → Int32 → Option (Int32)
  | 0, _, _, _, _ => none
  | N + 1, s, y1, y2, y3 =>
    zq (zin y1 12) <|
    if y3 < (s 6 y1.toNatClampNeg) then
     zq (zin ((y1 * (nI 5)) + y3) 60) <|
     if (s 12 ((y1 * (nI 5)) + y3).toNatClampNeg) = y2 then
      some y3
     else
      l_X0_positionOf M N s y1 y2 (y3 + (nI 1))
    else
     some (-1)
set_option maxRecDepth 100000 in
set_option maxHeartbeats 4000000 in
theorem tl_X0_positionOf {L : Nat} {xs : Nat → Int32} (M : Nat) (t : zS) : ∀ (N : Nat) (s : zS) (y1 : Int32) (y2 : Int32) (y3 : Int32) (R : Int32) (hF : l_X0_positionOf M N s y1 y2 y3 = some R), zX (ztb L xs) (zcall (ztb L xs) 1) 0 1 zk_X0_positionOf 12 [.ref 1, .int y1, .int y2, .int y3] [] (zHp s t) (some (.int R), zHp s t) := by
  intro N
  induction N with
  | zero => intro s y1 y2 y3 R hF; cases hF
  | succ N ih =>
    intro s y1 y2 y3 R hF
    unfold l_X0_positionOf at hF
    refine zX_go (c := 4) (pc' := 18) (lv' := [.ref 1, .int y1, .int y2, .int y3]) (st' := [.int y1, .ref 11, .int y3]) (h' := zHp s t) rfl ?_
    refine zX_ial (n := 12) rfl rfl hF (fun hF => ?_)
    refine zX_go (c := 1) (pc' := if y3 < (s 6 y1.toNatClampNeg) then 22 else 44) (lv' := [.ref 1, .int y1, .int y2, .int y3]) (st' := []) (h' := zHp s t) rfl ?_
    refine zX_ite hF (fun c0 hF => ?_) (fun c0 hF => ?_)
    · refine zX_go (c := 7) (pc' := 31) (lv' := [.ref 1, .int y1, .int y2, .int y3]) (st' := [.int ((y1 * (nI 5)) + y3), .ref 17]) (h' := zHp s t) rfl ?_
      refine zX_ial (n := 60) rfl rfl hF (fun hF => ?_)
      refine zX_go (c := 2) (pc' := if (s 12 ((y1 * (nI 5)) + y3).toNatClampNeg) = y2 then 36 else 38) (lv' := [.ref 1, .int y1, .int y2, .int y3]) (st' := []) (h' := zHp s t) rfl ?_
      refine zX_ite hF (fun c0 hF => ?_) (fun c0 hF => ?_)
      · refine zX_go (c := 1) (pc' := 37) (lv' := [.ref 1, .int y1, .int y2, .int y3]) (st' := [.int y3]) (h' := zHp s t) rfl ?_
        obtain rfl := Option.some.inj hF
        exact zX_reti rfl
      · refine zX_go (c := 2) (pc' := 12) (lv' := [.ref 1, .int y1, .int y2, .int (y3 + (nI 1))]) (st' := []) (h' := zHp s t) rfl ?_
        exact ih s y1 y2 (y3 + (nI 1)) _ hF
    · refine zX_go (c := 1) (pc' := 45) (lv' := [.ref 1, .int y1, .int y2, .int y3]) (st' := [.int (-1)]) (h' := zHp s t) rfl ?_
      obtain rfl := Option.some.inj hF
      exact zX_reti rfl
def f_X0_positionOf (M : Nat) (s : zS) (x1 x2 : Int32) : Option (Int32) :=
  zbd (f_X0_has M s x1) (fun q1 =>
   if q1 = 0 then
    some (-1)
   else
    l_X0_positionOf M M s x1 x2 (nI 0))
set_option maxRecDepth 100000 in
set_option maxHeartbeats 4000000 in
theorem t_X0_positionOf {L : Nat} {xs : Nat → Int32} (M : Nat) (s t : zS) (x1 x2 : Int32) (R : Int32) (hF : f_X0_positionOf M s x1 x2 = some R) : zcall (ztb L xs) 2 4 [.ref 1, .int x1, .int x2] (zHp s t) = some (some (.int R), zHp s t) := by
  unfold f_X0_positionOf at hF
  refine zcall_X (d := 1) (e := zm_X0_positionOf) rfl rfl ?_
  show zX (ztb L xs) (zcall (ztb L xs) 1) 0 1 zk_X0_positionOf 0 [.ref 1, .int x1, .int x2, .retAddr 0] [] (zHp s t) _
  refine zX_go (c := 2) (pc' := 2) (lv' := [.ref 1, .int x1, .int x2, .retAddr 0]) (st' := [.int x1, .ref 1]) (h' := zHp s t) rfl ?_
  obtain ⟨q1, hq, hF⟩ := zbd_ok hF
  refine zX_inv (av := [.ref 1, .int x1]) (st := []) (h' := zHp s t) rfl rfl rfl rfl rfl rfl (zcall_le (t_X0_has M _ _ _ _ hq) (by decide)) ?_
  refine zX_go (c := 1) (pc' := if q1 = 0 then 8 else 10) (lv' := [.ref 1, .int x1, .int x2, .retAddr 0]) (st' := []) (h' := zHp s t) rfl ?_
  refine zX_ite hF (fun c0 hF => ?_) (fun c0 hF => ?_)
  · refine zX_go (c := 1) (pc' := 9) (lv' := [.ref 1, .int x1, .int x2, .retAddr 0]) (st' := [.int (-1)]) (h' := zHp s t) rfl ?_
    obtain rfl := Option.some.inj hF
    exact zX_reti rfl
  · refine zX_go (c := 2) (pc' := 12) (lv' := [.ref 1, .int x1, .int x2, .int (nI 0)]) (st' := []) (h' := zHp s t) rfl ?_
    exact tl_X0_positionOf M t M s x1 x2 (nI 0) _ hF
def f_X0_slotOf (M : Nat) (s : zS) (x1 x2 : Int32) : Option (Int32) :=
  zbd (f_X0_positionOf M s x1 x2) (fun q1 =>
   if q1 = (-1) then
    some (-1)
   else
    some ((x1 * (nI 5)) + q1))
set_option maxRecDepth 100000 in
set_option maxHeartbeats 4000000 in
theorem t_X0_slotOf {L : Nat} {xs : Nat → Int32} (M : Nat) (s t : zS) (x1 x2 : Int32) (R : Int32) (hF : f_X0_slotOf M s x1 x2 = some R) : zcall (ztb L xs) 3 5 [.ref 1, .int x1, .int x2] (zHp s t) = some (some (.int R), zHp s t) := by
  unfold f_X0_slotOf at hF
  refine zcall_X (d := 2) (e := zm_X0_slotOf) rfl rfl ?_
  show zX (ztb L xs) (zcall (ztb L xs) 2) 0 1 zk_X0_slotOf 0 [.ref 1, .int x1, .int x2, .retAddr 0] [] (zHp s t) _
  refine zX_go (c := 3) (pc' := 3) (lv' := [.ref 1, .int x1, .int x2, .retAddr 0]) (st' := [.int x2, .int x1, .ref 1]) (h' := zHp s t) rfl ?_
  obtain ⟨q1, hq, hF⟩ := zbd_ok hF
  refine zX_inv (av := [.ref 1, .int x1, .int x2]) (st := []) (h' := zHp s t) rfl rfl rfl rfl rfl rfl (zcall_le (t_X0_positionOf M _ _ _ _ _ hq) (by decide)) ?_
  refine zX_go (c := 4) (pc' := if q1 = (-1) then 12 else 16) (lv' := [.ref 1, .int x1, .int x2, .int q1]) (st' := []) (h' := zHp s t) rfl ?_
  refine zX_ite hF (fun c0 hF => ?_) (fun c0 hF => ?_)
  · refine zX_go (c := 2) (pc' := 21) (lv' := [.ref 1, .int x1, .int x2, .int q1]) (st' := [.int (-1)]) (h' := zHp s t) rfl ?_
    obtain rfl := Option.some.inj hF
    exact zX_reti rfl
  · refine zX_go (c := 5) (pc' := 21) (lv' := [.ref 1, .int x1, .int x2, .int q1]) (st' := [.int ((x1 * (nI 5)) + q1)]) (h' := zHp s t) rfl ?_
    obtain rfl := Option.some.inj hF
    exact zX_reti rfl
def f_X0_isFixed (M : Nat) (s : zS) (x1 : Int32) : Option (Int32) :=
  zq (zin x1 12) <|
  if (s 10 x1.toNatClampNeg) = 0 then
   zq (zin x1 12) <|
   if (s 8 x1.toNatClampNeg) = (-1) then
    zq (zin x1 12) <|
    if (s 9 x1.toNatClampNeg) = (-1) then
     some (nI 0)
    else
     some (nI 1)
   else
    some (nI 1)
  else
   some (nI 1)
set_option maxRecDepth 100000 in
set_option maxHeartbeats 4000000 in
theorem t_X0_isFixed {L : Nat} {xs : Nat → Int32} (M : Nat) (s t : zS) (x1 : Int32) (R : Int32) (hF : f_X0_isFixed M s x1 = some R) : zcall (ztb L xs) 1 6 [.ref 1, .int x1] (zHp s t) = some (some (.int R), zHp s t) := by
  unfold f_X0_isFixed at hF
  refine zcall_X (d := 0) (e := zm_X0_isFixed) rfl rfl ?_
  show zX (ztb L xs) (zcall (ztb L xs) 0) 0 2 zk_X0_isFixed 0 [.ref 1, .int x1] [] (zHp s t) _
  refine zX_go (c := 3) (pc' := 5) (lv' := [.ref 1, .int x1]) (st' := [.int x1, .ref 15]) (h' := zHp s t) rfl ?_
  refine zX_bal (n := 12) rfl rfl hF (fun hF => ?_)
  refine zX_go (c := 1) (pc' := if (s 10 x1.toNatClampNeg) = 0 then 9 else 29) (lv' := [.ref 1, .int x1]) (st' := []) (h' := zHp s t) rfl ?_
  refine zX_ite hF (fun c0 hF => ?_) (fun c0 hF => ?_)
  · refine zX_go (c := 3) (pc' := 14) (lv' := [.ref 1, .int x1]) (st' := [.int x1, .ref 13]) (h' := zHp s t) rfl ?_
    refine zX_ial (n := 12) rfl rfl hF (fun hF => ?_)
    refine zX_go (c := 2) (pc' := if (s 8 x1.toNatClampNeg) = (-1) then 19 else 29) (lv' := [.ref 1, .int x1]) (st' := []) (h' := zHp s t) rfl ?_
    refine zX_ite hF (fun c0 hF => ?_) (fun c0 hF => ?_)
    · refine zX_go (c := 3) (pc' := 24) (lv' := [.ref 1, .int x1]) (st' := [.int x1, .ref 14]) (h' := zHp s t) rfl ?_
      refine zX_ial (n := 12) rfl rfl hF (fun hF => ?_)
      refine zX_go (c := 2) (pc' := if (s 9 x1.toNatClampNeg) = (-1) then 33 else 29) (lv' := [.ref 1, .int x1]) (st' := []) (h' := zHp s t) rfl ?_
      refine zX_ite hF (fun c0 hF => ?_) (fun c0 hF => ?_)
      · refine zX_go (c := 1) (pc' := 34) (lv' := [.ref 1, .int x1]) (st' := [.int (nI 0)]) (h' := zHp s t) rfl ?_
        obtain rfl := Option.some.inj hF
        exact zX_retz rfl (by decide)
      · refine zX_go (c := 2) (pc' := 34) (lv' := [.ref 1, .int x1]) (st' := [.int (nI 1)]) (h' := zHp s t) rfl ?_
        obtain rfl := Option.some.inj hF
        exact zX_retz rfl (by decide)
    · refine zX_go (c := 2) (pc' := 34) (lv' := [.ref 1, .int x1]) (st' := [.int (nI 1)]) (h' := zHp s t) rfl ?_
      obtain rfl := Option.some.inj hF
      exact zX_retz rfl (by decide)
  · refine zX_go (c := 2) (pc' := 34) (lv' := [.ref 1, .int x1]) (st' := [.int (nI 1)]) (h' := zHp s t) rfl ?_
    obtain rfl := Option.some.inj hF
    exact zX_retz rfl (by decide)
def l_X0_leadingInto (M : Nat) : Nat → zS → Int32 → Int32 → Int32 → Option (Int32)
  | 0, _, _, _, _ => none
  | N + 1, s, y1, y2, y3 =>
    if y3 < (s 2 0) then
     zq (zin y3 12) <|
     if ((s 7 y3.toNatClampNeg) &&& y1) = 0 then
      l_X0_leadingInto M N s y1 y2 (y3 + (nI 1))
     else
      l_X0_leadingInto M N s y1 (y2 ||| ((nI 1) <<< (y3 &&& 31))) (y3 + (nI 1))
    else
     some y2
set_option maxRecDepth 100000 in
set_option maxHeartbeats 4000000 in
theorem tl_X0_leadingInto {L : Nat} {xs : Nat → Int32} (M : Nat) (t : zS) : ∀ (N : Nat) (s : zS) (y1 : Int32) (y2 : Int32) (y3 : Int32) (R : Int32) (hF : l_X0_leadingInto M N s y1 y2 y3 = some R), zX (ztb L xs) (zcall (ztb L xs) 0) 0 1 zk_X0_leadingInto 4 [.ref 1, .int y1, .int y2, .int y3] [] (zHp s t) (some (.int R), zHp s t) := by
  intro N
  induction N with
  | zero => intro s y1 y2 y3 R hF; cases hF
  | succ N ih =>
    intro s y1 y2 y3 R hF
    unfold l_X0_leadingInto at hF
    refine zX_go (c := 4) (pc' := if y3 < (s 2 0) then 12 else 35) (lv' := [.ref 1, .int y1, .int y2, .int y3]) (st' := []) (h' := zHp s t) rfl ?_
    refine zX_ite hF (fun c0 hF => ?_) (fun c0 hF => ?_)
    · refine zX_go (c := 3) (pc' := 17) (lv' := [.ref 1, .int y1, .int y2, .int y3]) (st' := [.int y3, .ref 12]) (h' := zHp s t) rfl ?_
      refine zX_ial (n := 12) rfl rfl hF (fun hF => ?_)
      refine zX_go (c := 3) (pc' := if ((s 7 y3.toNatClampNeg) &&& y1) = 0 then 29 else 23) (lv' := [.ref 1, .int y1, .int y2, .int y3]) (st' := []) (h' := zHp s t) rfl ?_
      refine zX_ite hF (fun c0 hF => ?_) (fun c0 hF => ?_)
      · refine zX_go (c := 2) (pc' := 4) (lv' := [.ref 1, .int y1, .int y2, .int (y3 + (nI 1))]) (st' := []) (h' := zHp s t) rfl ?_
        exact ih s y1 y2 (y3 + (nI 1)) _ hF
      · refine zX_go (c := 8) (pc' := 4) (lv' := [.ref 1, .int y1, .int (y2 ||| ((nI 1) <<< (y3 &&& 31))), .int (y3 + (nI 1))]) (st' := []) (h' := zHp s t) rfl ?_
        exact ih s y1 (y2 ||| ((nI 1) <<< (y3 &&& 31))) (y3 + (nI 1)) _ hF
    · refine zX_go (c := 1) (pc' := 36) (lv' := [.ref 1, .int y1, .int y2, .int y3]) (st' := [.int y2]) (h' := zHp s t) rfl ?_
      obtain rfl := Option.some.inj hF
      exact zX_reti rfl
def f_X0_leadingInto (M : Nat) (s : zS) (x1 : Int32) : Option (Int32) :=
  l_X0_leadingInto M M s x1 (nI 0) (nI 0)
set_option maxRecDepth 100000 in
set_option maxHeartbeats 4000000 in
theorem t_X0_leadingInto {L : Nat} {xs : Nat → Int32} (M : Nat) (s t : zS) (x1 : Int32) (R : Int32) (hF : f_X0_leadingInto M s x1 = some R) : zcall (ztb L xs) 1 9 [.ref 1, .int x1] (zHp s t) = some (some (.int R), zHp s t) := by
  unfold f_X0_leadingInto at hF
  refine zcall_X (d := 0) (e := zm_X0_leadingInto) rfl rfl ?_
  show zX (ztb L xs) (zcall (ztb L xs) 0) 0 1 zk_X0_leadingInto 0 [.ref 1, .int x1, .retAddr 0, .retAddr 0] [] (zHp s t) _
  refine zX_go (c := 4) (pc' := 4) (lv' := [.ref 1, .int x1, .int (nI 0), .int (nI 0)]) (st' := []) (h' := zHp s t) rfl ?_
  exact tl_X0_leadingInto M t M s x1 (nI 0) (nI 0) _ hF
def l_X0_wouldLeadTooFar (M : Nat) : Nat → zS → Int32 → Int32 → Int32 → Int32 → Option (Int32 × zS)
  | 0, _, _, _, _, _ => none
  | N + 1, s, y1, y3, y4, y5 =>
    if (nI 2) < y5 then
     zq (zin y1 12) <|
     if y4 = 0 then
      some (nI 0, zup s 7 y1.toNatClampNeg y3)
     else
      some (nI 1, zup s 7 y1.toNatClampNeg y3)
    else
     zbd (f_X0_leadingInto M s y4) (fun q1 =>
      l_X0_wouldLeadTooFar M N s y1 y3 q1 (y5 + (nI 1)))
set_option maxRecDepth 100000 in
set_option maxHeartbeats 4000000 in
theorem tl_X0_wouldLeadTooFar {L : Nat} {xs : Nat → Int32} (M : Nat) (t : zS) : ∀ (N : Nat) (s : zS) (y1 : Int32) (y3 : Int32) (y4 : Int32) (y5 : Int32) (R : Int32 × zS) (u2 : Int32) (hF : l_X0_wouldLeadTooFar M N s y1 y3 y4 y5 = some R), zX (ztb L xs) (zcall (ztb L xs) 1) 0 2 zk_X0_wouldLeadTooFar 33 [.ref 1, .int y1, .int u2, .int y3, .int y4, .int y5] [] (zHp s t) (some (.int R.1), zHp R.2 t) := by
  intro N
  induction N with
  | zero => intro s y1 y3 y4 y5 R u2 hF; cases hF
  | succ N ih =>
    intro s y1 y3 y4 y5 R u2 hF
    unfold l_X0_wouldLeadTooFar at hF
    refine zX_go (c := 3) (pc' := if (nI 2) < y5 then 53 else 39) (lv' := [.ref 1, .int y1, .int u2, .int y3, .int y4, .int y5]) (st' := []) (h' := zHp s t) rfl ?_
    refine zX_ite hF (fun c0 hF => ?_) (fun c0 hF => ?_)
    · refine zX_go (c := 4) (pc' := 59) (lv' := [.ref 1, .int y1, .int u2, .int y3, .int y4, .int y5]) (st' := [.int y3, .int y1, .ref 12]) (h' := zHp s t) rfl ?_
      refine zX_ias (n := 12) (h' := zHp (zup s 7 y1.toNatClampNeg y3) t) rfl rfl (zst_12 _ _ _ _) hF (fun hF => ?_)
      refine zX_go (c := 2) (pc' := if y4 = 0 then 69 else 65) (lv' := [.ref 1, .int y1, .int u2, .int y3, .int y4, .int y5]) (st' := []) (h' := zHp (zup s 7 y1.toNatClampNeg y3) t) rfl ?_
      refine zX_ite hF (fun c0 hF => ?_) (fun c0 hF => ?_)
      · refine zX_go (c := 1) (pc' := 70) (lv' := [.ref 1, .int y1, .int u2, .int y3, .int y4, .int y5]) (st' := [.int (nI 0)]) (h' := zHp (zup s 7 y1.toNatClampNeg y3) t) rfl ?_
        obtain rfl := Option.some.inj hF
        exact zX_retz rfl (by decide)
      · refine zX_go (c := 2) (pc' := 70) (lv' := [.ref 1, .int y1, .int u2, .int y3, .int y4, .int y5]) (st' := [.int (nI 1)]) (h' := zHp (zup s 7 y1.toNatClampNeg y3) t) rfl ?_
        obtain rfl := Option.some.inj hF
        exact zX_retz rfl (by decide)
    · refine zX_go (c := 2) (pc' := 42) (lv' := [.ref 1, .int y1, .int u2, .int y3, .int y4, .int y5]) (st' := [.int y4, .ref 1]) (h' := zHp s t) rfl ?_
      obtain ⟨q1, hq, hF⟩ := zbd_ok hF
      refine zX_inv (av := [.ref 1, .int y4]) (st := []) (h' := zHp s t) rfl rfl rfl rfl rfl rfl (zcall_le (t_X0_leadingInto M _ _ _ _ hq) (by decide)) ?_
      refine zX_go (c := 3) (pc' := 33) (lv' := [.ref 1, .int y1, .int u2, .int y3, .int q1, .int (y5 + (nI 1))]) (st' := []) (h' := zHp s t) rfl ?_
      exact ih s y1 y3 q1 (y5 + (nI 1)) _ u2 hF
def f_X0_wouldLeadTooFar (M : Nat) (s : zS) (x1 x2 : Int32) : Option (Int32 × zS) :=
  zq (zin x1 12) <|
  zq (zin x1 12) <|
  zbd (f_X0_leadOf M s x2) (fun q1 =>
   zq (zin x1 12) <|
   l_X0_wouldLeadTooFar M M (zup s 7 x1.toNatClampNeg ((s 7 x1.toNatClampNeg) ||| q1)) x1 (s 7 x1.toNatClampNeg) (((nI 1) <<< ((s 2 0) &&& 31)) - (nI 1)) (nI 0))
set_option maxRecDepth 100000 in
set_option maxHeartbeats 4000000 in
theorem t_X0_wouldLeadTooFar {L : Nat} {xs : Nat → Int32} (M : Nat) (s t : zS) (x1 x2 : Int32) (R : Int32 × zS) (hF : f_X0_wouldLeadTooFar M s x1 x2 = some R) : zcall (ztb L xs) 2 8 [.ref 1, .int x1, .int x2] (zHp s t) = some (some (.int R.1), zHp R.2 t) := by
  unfold f_X0_wouldLeadTooFar at hF
  refine zcall_X (d := 1) (e := zm_X0_wouldLeadTooFar) rfl rfl ?_
  show zX (ztb L xs) (zcall (ztb L xs) 1) 0 2 zk_X0_wouldLeadTooFar 0 [.ref 1, .int x1, .int x2, .retAddr 0, .retAddr 0, .retAddr 0] [] (zHp s t) _
  refine zX_go (c := 3) (pc' := 5) (lv' := [.ref 1, .int x1, .int x2, .retAddr 0, .retAddr 0, .retAddr 0]) (st' := [.int x1, .ref 12]) (h' := zHp s t) rfl ?_
  refine zX_ial (n := 12) rfl rfl hF (fun hF => ?_)
  refine zX_go (c := 5) (pc' := 13) (lv' := [.ref 1, .int x1, .int x2, .int (s 7 x1.toNatClampNeg), .retAddr 0, .retAddr 0]) (st' := [.int x1, .ref 12, .int x1, .ref 12]) (h' := zHp s t) rfl ?_
  refine zX_ial (n := 12) rfl rfl hF (fun hF => ?_)
  refine zX_go (c := 1) (pc' := 15) (lv' := [.ref 1, .int x1, .int x2, .int (s 7 x1.toNatClampNeg), .retAddr 0, .retAddr 0]) (st' := [.int x2, .int (s 7 x1.toNatClampNeg), .int x1, .ref 12]) (h' := zHp s t) rfl ?_
  obtain ⟨q1, hq, hF⟩ := zbd_ok hF
  refine zX_ins (av := [.int x2]) (st := [.int (s 7 x1.toNatClampNeg), .int x1, .ref 12]) (h' := zHp s t) rfl rfl rfl rfl rfl rfl (zcall_le (t_X0_leadOf M _ _ _ _ hq) (by decide)) ?_
  refine zX_go (c := 1) (pc' := 19) (lv' := [.ref 1, .int x1, .int x2, .int (s 7 x1.toNatClampNeg), .retAddr 0, .retAddr 0]) (st' := [.int ((s 7 x1.toNatClampNeg) ||| q1), .int x1, .ref 12]) (h' := zHp s t) rfl ?_
  refine zX_ias (n := 12) (h' := zHp (zup s 7 x1.toNatClampNeg ((s 7 x1.toNatClampNeg) ||| q1)) t) rfl rfl (zst_12 _ _ _ _) hF (fun hF => ?_)
  refine zX_go (c := 9) (pc' := 33) (lv' := [.ref 1, .int x1, .int x2, .int (s 7 x1.toNatClampNeg), .int (((nI 1) <<< ((s 2 0) &&& 31)) - (nI 1)), .int (nI 0)]) (st' := []) (h' := zHp (zup s 7 x1.toNatClampNeg ((s 7 x1.toNatClampNeg) ||| q1)) t) rfl ?_
  exact tl_X0_wouldLeadTooFar M t M (zup s 7 x1.toNatClampNeg ((s 7 x1.toNatClampNeg) ||| q1)) x1 (s 7 x1.toNatClampNeg) (((nI 1) <<< ((s 2 0) &&& 31)) - (nI 1)) (nI 0) _ x2 hF
def l_X0_othersHaveDefaults (M : Nat) : Nat → zS → Int32 → Int32 → Option (Int32)
  | 0, _, _, _ => none
  | N + 1, s, y1, y2 =>
    zq (zin y1 12) <|
    if y2 < (s 6 y1.toNatClampNeg) then
     zq (zin ((y1 * (nI 5)) + y2) 60) <|
     if (s 12 ((y1 * (nI 5)) + y2).toNatClampNeg) = 0 then
      l_X0_othersHaveDefaults M N s y1 (y2 + (nI 1))
     else
      zq (zin ((y1 * (nI 5)) + y2) 60) <|
      if (s 15 ((y1 * (nI 5)) + y2).toNatClampNeg) = (-1) then
       some (nI 0)
      else
       l_X0_othersHaveDefaults M N s y1 (y2 + (nI 1))
    else
     some (nI 1)
set_option maxRecDepth 100000 in
set_option maxHeartbeats 4000000 in
theorem tl_X0_othersHaveDefaults {L : Nat} {xs : Nat → Int32} (M : Nat) (t : zS) : ∀ (N : Nat) (s : zS) (y1 : Int32) (y2 : Int32) (R : Int32) (u3 : Value) (hF : l_X0_othersHaveDefaults M N s y1 y2 = some R), zX (ztb L xs) (zcall (ztb L xs) 0) 0 2 zk_X0_othersHaveDefaults 2 [.ref 1, .int y1, .int y2, u3] [] (zHp s t) (some (.int R), zHp s t) := by
  intro N
  induction N with
  | zero => intro s y1 y2 R u3 hF; cases hF
  | succ N ih =>
    intro s y1 y2 R u3 hF
    unfold l_X0_othersHaveDefaults at hF
    refine zX_go (c := 4) (pc' := 8) (lv' := [.ref 1, .int y1, .int y2, u3]) (st' := [.int y1, .ref 11, .int y2]) (h' := zHp s t) rfl ?_
    refine zX_ial (n := 12) rfl rfl hF (fun hF => ?_)
    refine zX_go (c := 1) (pc' := if y2 < (s 6 y1.toNatClampNeg) then 12 else 45) (lv' := [.ref 1, .int y1, .int y2, u3]) (st' := []) (h' := zHp s t) rfl ?_
    refine zX_ite hF (fun c0 hF => ?_) (fun c0 hF => ?_)
    · refine zX_go (c := 9) (pc' := 23) (lv' := [.ref 1, .int y1, .int y2, .int ((y1 * (nI 5)) + y2)]) (st' := [.int ((y1 * (nI 5)) + y2), .ref 17]) (h' := zHp s t) rfl ?_
      refine zX_ial (n := 60) rfl rfl hF (fun hF => ?_)
      refine zX_go (c := 1) (pc' := if (s 12 ((y1 * (nI 5)) + y2).toNatClampNeg) = 0 then 39 else 27) (lv' := [.ref 1, .int y1, .int y2, .int ((y1 * (nI 5)) + y2)]) (st' := []) (h' := zHp s t) rfl ?_
      refine zX_ite hF (fun c0 hF => ?_) (fun c0 hF => ?_)
      · refine zX_go (c := 2) (pc' := 2) (lv' := [.ref 1, .int y1, .int (y2 + (nI 1)), .int ((y1 * (nI 5)) + y2)]) (st' := []) (h' := zHp s t) rfl ?_
        exact ih s y1 (y2 + (nI 1)) _ (.int ((y1 * (nI 5)) + y2)) hF
      · refine zX_go (c := 3) (pc' := 32) (lv' := [.ref 1, .int y1, .int y2, .int ((y1 * (nI 5)) + y2)]) (st' := [.int ((y1 * (nI 5)) + y2), .ref 20]) (h' := zHp s t) rfl ?_
        refine zX_ial (n := 60) rfl rfl hF (fun hF => ?_)
        refine zX_go (c := 2) (pc' := if (s 15 ((y1 * (nI 5)) + y2).toNatClampNeg) = (-1) then 37 else 39) (lv' := [.ref 1, .int y1, .int y2, .int ((y1 * (nI 5)) + y2)]) (st' := []) (h' := zHp s t) rfl ?_
        refine zX_ite hF (fun c0 hF => ?_) (fun c0 hF => ?_)
        · refine zX_go (c := 1) (pc' := 38) (lv' := [.ref 1, .int y1, .int y2, .int ((y1 * (nI 5)) + y2)]) (st' := [.int (nI 0)]) (h' := zHp s t) rfl ?_
          obtain rfl := Option.some.inj hF
          exact zX_retz rfl (by decide)
        · refine zX_go (c := 2) (pc' := 2) (lv' := [.ref 1, .int y1, .int (y2 + (nI 1)), .int ((y1 * (nI 5)) + y2)]) (st' := []) (h' := zHp s t) rfl ?_
          exact ih s y1 (y2 + (nI 1)) _ (.int ((y1 * (nI 5)) + y2)) hF
    · refine zX_go (c := 1) (pc' := 46) (lv' := [.ref 1, .int y1, .int y2, u3]) (st' := [.int (nI 1)]) (h' := zHp s t) rfl ?_
      obtain rfl := Option.some.inj hF
      exact zX_retz rfl (by decide)
def f_X0_othersHaveDefaults (M : Nat) (s : zS) (x1 : Int32) : Option (Int32) :=
  l_X0_othersHaveDefaults M M s x1 (nI 0)
set_option maxRecDepth 100000 in
set_option maxHeartbeats 4000000 in
theorem t_X0_othersHaveDefaults {L : Nat} {xs : Nat → Int32} (M : Nat) (s t : zS) (x1 : Int32) (R : Int32) (hF : f_X0_othersHaveDefaults M s x1 = some R) : zcall (ztb L xs) 1 11 [.ref 1, .int x1] (zHp s t) = some (some (.int R), zHp s t) := by
  unfold f_X0_othersHaveDefaults at hF
  refine zcall_X (d := 0) (e := zm_X0_othersHaveDefaults) rfl rfl ?_
  show zX (ztb L xs) (zcall (ztb L xs) 0) 0 2 zk_X0_othersHaveDefaults 0 [.ref 1, .int x1, .retAddr 0, .retAddr 0] [] (zHp s t) _
  refine zX_go (c := 2) (pc' := 2) (lv' := [.ref 1, .int x1, .int (nI 0), .retAddr 0]) (st' := []) (h' := zHp s t) rfl ?_
  exact tl_X0_othersHaveDefaults M t M s x1 (nI 0) _ (.retAddr 0) hF
def f_X0_canContain (M : Nat) (s : zS) (x1 x2 : Int32) : Option (Int32) :=
  zbd (f_X0_slotOf M s x1 (nI 0)) (fun q1 =>
   if q1 = (-1) then
    some (nI 0)
   else
    zq (zin q1 60) <|
    if (s 14 q1.toNatClampNeg) = 0 then
     some (nI 0)
    else
     zq (zin q1 60) <|
     if (s 13 q1.toNatClampNeg) = ((nI 10) + x2) then
      zq (zin x1 12) <|
      zq (zin x2 12) <|
      if (s 4 x1.toNatClampNeg) < (s 4 x2.toNatClampNeg) then
       some (nI 0)
      else
       zq (zin x1 12) <|
       zq (zin x2 12) <|
       if ((s 3 x1.toNatClampNeg) &&& ((s 3 x2.toNatClampNeg) ^^^ (-1))) = 0 then
        zq (zin x1 12) <|
        if (s 5 x1.toNatClampNeg) = 0 then
         zq (zin x2 12) <|
         if (s 5 x2.toNatClampNeg) = 0 then
          zbd (f_X0_othersHaveDefaults M s x1) (fun q2 =>
           if q2 = 0 then
            some (nI 0)
           else
            some (nI 1))
         else
          some (nI 0)
        else
         zbd (f_X0_othersHaveDefaults M s x1) (fun q3 =>
          if q3 = 0 then
           some (nI 0)
          else
           some (nI 1))
       else
        some (nI 0)
     else
      some (nI 0))
set_option maxRecDepth 100000 in
set_option maxHeartbeats 4000000 in
theorem t_X0_canContain {L : Nat} {xs : Nat → Int32} (M : Nat) (s t : zS) (x1 x2 : Int32) (R : Int32) (hF : f_X0_canContain M s x1 x2 = some R) : zcall (ztb L xs) 4 10 [.ref 1, .int x1, .int x2] (zHp s t) = some (some (.int R), zHp s t) := by
  unfold f_X0_canContain at hF
  refine zcall_X (d := 3) (e := zm_X0_canContain) rfl rfl ?_
  show zX (ztb L xs) (zcall (ztb L xs) 3) 0 2 zk_X0_canContain 0 [.ref 1, .int x1, .int x2, .retAddr 0] [] (zHp s t) _
  refine zX_go (c := 3) (pc' := 3) (lv' := [.ref 1, .int x1, .int x2, .retAddr 0]) (st' := [.int (nI 0), .int x1, .ref 1]) (h' := zHp s t) rfl ?_
  obtain ⟨q1, hq, hF⟩ := zbd_ok hF
  refine zX_inv (av := [.ref 1, .int x1, .int (nI 0)]) (st := []) (h' := zHp s t) rfl rfl rfl rfl rfl rfl (zcall_le (t_X0_slotOf M _ _ _ _ _ hq) (by decide)) ?_
  refine zX_go (c := 4) (pc' := if q1 = (-1) then 34 else 12) (lv' := [.ref 1, .int x1, .int x2, .int q1]) (st' := []) (h' := zHp s t) rfl ?_
  refine zX_ite hF (fun c0 hF => ?_) (fun c0 hF => ?_)
  · refine zX_go (c := 1) (pc' := 35) (lv' := [.ref 1, .int x1, .int x2, .int q1]) (st' := [.int (nI 0)]) (h' := zHp s t) rfl ?_
    obtain rfl := Option.some.inj hF
    exact zX_retz rfl (by decide)
  · refine zX_go (c := 3) (pc' := 17) (lv' := [.ref 1, .int x1, .int x2, .int q1]) (st' := [.int q1, .ref 19]) (h' := zHp s t) rfl ?_
    refine zX_bal (n := 60) rfl rfl hF (fun hF => ?_)
    refine zX_go (c := 1) (pc' := if (s 14 q1.toNatClampNeg) = 0 then 34 else 21) (lv' := [.ref 1, .int x1, .int x2, .int q1]) (st' := []) (h' := zHp s t) rfl ?_
    refine zX_ite hF (fun c0 hF => ?_) (fun c0 hF => ?_)
    · refine zX_go (c := 1) (pc' := 35) (lv' := [.ref 1, .int x1, .int x2, .int q1]) (st' := [.int (nI 0)]) (h' := zHp s t) rfl ?_
      obtain rfl := Option.some.inj hF
      exact zX_retz rfl (by decide)
    · refine zX_go (c := 3) (pc' := 26) (lv' := [.ref 1, .int x1, .int x2, .int q1]) (st' := [.int q1, .ref 18]) (h' := zHp s t) rfl ?_
      refine zX_ial (n := 60) rfl rfl hF (fun hF => ?_)
      refine zX_go (c := 4) (pc' := if (s 13 q1.toNatClampNeg) = ((nI 10) + x2) then 36 else 34) (lv' := [.ref 1, .int x1, .int x2, .int q1]) (st' := []) (h' := zHp s t) rfl ?_
      refine zX_ite hF (fun c0 hF => ?_) (fun c0 hF => ?_)
      · refine zX_go (c := 3) (pc' := 41) (lv' := [.ref 1, .int x1, .int x2, .int q1]) (st' := [.int x1, .ref 9]) (h' := zHp s t) rfl ?_
        refine zX_ial (n := 12) rfl rfl hF (fun hF => ?_)
        refine zX_go (c := 3) (pc' := 47) (lv' := [.ref 1, .int x1, .int x2, .int q1]) (st' := [.int x2, .ref 9, .int (s 4 x1.toNatClampNeg)]) (h' := zHp s t) rfl ?_
        refine zX_ial (n := 12) rfl rfl hF (fun hF => ?_)
        refine zX_go (c := 1) (pc' := if (s 4 x1.toNatClampNeg) < (s 4 x2.toNatClampNeg) then 99 else 51) (lv' := [.ref 1, .int x1, .int x2, .int q1]) (st' := []) (h' := zHp s t) rfl ?_
        refine zX_ite hF (fun c0 hF => ?_) (fun c0 hF => ?_)
        · refine zX_go (c := 1) (pc' := 100) (lv' := [.ref 1, .int x1, .int x2, .int q1]) (st' := [.int (nI 0)]) (h' := zHp s t) rfl ?_
          obtain rfl := Option.some.inj hF
          exact zX_retz rfl (by decide)
        · refine zX_go (c := 3) (pc' := 56) (lv' := [.ref 1, .int x1, .int x2, .int q1]) (st' := [.int x1, .ref 8]) (h' := zHp s t) rfl ?_
          refine zX_ial (n := 12) rfl rfl hF (fun hF => ?_)
          refine zX_go (c := 3) (pc' := 62) (lv' := [.ref 1, .int x1, .int x2, .int q1]) (st' := [.int x2, .ref 8, .int (s 3 x1.toNatClampNeg)]) (h' := zHp s t) rfl ?_
          refine zX_ial (n := 12) rfl rfl hF (fun hF => ?_)
          refine zX_go (c := 4) (pc' := if ((s 3 x1.toNatClampNeg) &&& ((s 3 x2.toNatClampNeg) ^^^ (-1))) = 0 then 69 else 99) (lv' := [.ref 1, .int x1, .int x2, .int q1]) (st' := []) (h' := zHp s t) rfl ?_
          refine zX_ite hF (fun c0 hF => ?_) (fun c0 hF => ?_)
          · refine zX_go (c := 3) (pc' := 74) (lv' := [.ref 1, .int x1, .int x2, .int q1]) (st' := [.int x1, .ref 10]) (h' := zHp s t) rfl ?_
            refine zX_bal (n := 12) rfl rfl hF (fun hF => ?_)
            refine zX_go (c := 1) (pc' := if (s 5 x1.toNatClampNeg) = 0 then 78 else 87) (lv' := [.ref 1, .int x1, .int x2, .int q1]) (st' := []) (h' := zHp s t) rfl ?_
            refine zX_ite hF (fun c0 hF => ?_) (fun c0 hF => ?_)
            · refine zX_go (c := 3) (pc' := 83) (lv' := [.ref 1, .int x1, .int x2, .int q1]) (st' := [.int x2, .ref 10]) (h' := zHp s t) rfl ?_
              refine zX_bal (n := 12) rfl rfl hF (fun hF => ?_)
              refine zX_go (c := 1) (pc' := if (s 5 x2.toNatClampNeg) = 0 then 87 else 99) (lv' := [.ref 1, .int x1, .int x2, .int q1]) (st' := []) (h' := zHp s t) rfl ?_
              refine zX_ite hF (fun c0 hF => ?_) (fun c0 hF => ?_)
              · refine zX_go (c := 2) (pc' := 89) (lv' := [.ref 1, .int x1, .int x2, .int q1]) (st' := [.int x1, .ref 1]) (h' := zHp s t) rfl ?_
                obtain ⟨q2, hq, hF⟩ := zbd_ok hF
                refine zX_inv (av := [.ref 1, .int x1]) (st := []) (h' := zHp s t) rfl rfl rfl rfl rfl rfl (zcall_le (t_X0_othersHaveDefaults M _ _ _ _ hq) (by decide)) ?_
                refine zX_go (c := 1) (pc' := if q2 = 0 then 99 else 95) (lv' := [.ref 1, .int x1, .int x2, .int q1]) (st' := []) (h' := zHp s t) rfl ?_
                refine zX_ite hF (fun c0 hF => ?_) (fun c0 hF => ?_)
                · refine zX_go (c := 1) (pc' := 100) (lv' := [.ref 1, .int x1, .int x2, .int q1]) (st' := [.int (nI 0)]) (h' := zHp s t) rfl ?_
                  obtain rfl := Option.some.inj hF
                  exact zX_retz rfl (by decide)
                · refine zX_go (c := 2) (pc' := 100) (lv' := [.ref 1, .int x1, .int x2, .int q1]) (st' := [.int (nI 1)]) (h' := zHp s t) rfl ?_
                  obtain rfl := Option.some.inj hF
                  exact zX_retz rfl (by decide)
              · refine zX_go (c := 1) (pc' := 100) (lv' := [.ref 1, .int x1, .int x2, .int q1]) (st' := [.int (nI 0)]) (h' := zHp s t) rfl ?_
                obtain rfl := Option.some.inj hF
                exact zX_retz rfl (by decide)
            · refine zX_go (c := 2) (pc' := 89) (lv' := [.ref 1, .int x1, .int x2, .int q1]) (st' := [.int x1, .ref 1]) (h' := zHp s t) rfl ?_
              obtain ⟨q3, hq, hF⟩ := zbd_ok hF
              refine zX_inv (av := [.ref 1, .int x1]) (st := []) (h' := zHp s t) rfl rfl rfl rfl rfl rfl (zcall_le (t_X0_othersHaveDefaults M _ _ _ _ hq) (by decide)) ?_
              refine zX_go (c := 1) (pc' := if q3 = 0 then 99 else 95) (lv' := [.ref 1, .int x1, .int x2, .int q1]) (st' := []) (h' := zHp s t) rfl ?_
              refine zX_ite hF (fun c0 hF => ?_) (fun c0 hF => ?_)
              · refine zX_go (c := 1) (pc' := 100) (lv' := [.ref 1, .int x1, .int x2, .int q1]) (st' := [.int (nI 0)]) (h' := zHp s t) rfl ?_
                obtain rfl := Option.some.inj hF
                exact zX_retz rfl (by decide)
              · refine zX_go (c := 2) (pc' := 100) (lv' := [.ref 1, .int x1, .int x2, .int q1]) (st' := [.int (nI 1)]) (h' := zHp s t) rfl ?_
                obtain rfl := Option.some.inj hF
                exact zX_retz rfl (by decide)
          · refine zX_go (c := 1) (pc' := 100) (lv' := [.ref 1, .int x1, .int x2, .int q1]) (st' := [.int (nI 0)]) (h' := zHp s t) rfl ?_
            obtain rfl := Option.some.inj hF
            exact zX_retz rfl (by decide)
      · refine zX_go (c := 1) (pc' := 35) (lv' := [.ref 1, .int x1, .int x2, .int q1]) (st' := [.int (nI 0)]) (h' := zHp s t) rfl ?_
        obtain rfl := Option.some.inj hF
        exact zX_retz rfl (by decide)
