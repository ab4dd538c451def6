/-! What the methods answer, and that the small machine answers so: by program (gen2.py). -/
def f_X5_mark (M : Nat) (s : zS) (x1 x2 x3 : Int32) : Option (Int32 × zS) :=
  if x1 < 0 then
   some ((-2), s)
  else
   if (nI 31) < x1 then
    some ((-2), s)
   else
    if x2 < 0 then
     some ((-2), s)
    else
     if (nI 2) < x2 then
      some ((-2), s)
     else
      zbd (f_X0_add M s x1 x2 x3) (fun q1 =>
       some (q1.1, q1.2))
set_option maxRecDepth 100000 in
set_option maxHeartbeats 4000000 in
theorem t_X5_mark {L : Nat} {xs : Nat → Int32} (M : Nat) (s t : zS) (x1 x2 x3 : Int32) (R : Int32 × zS) (hF : f_X5_mark M s x1 x2 x3 = some R) : zcall (ztb L xs) 2 53 [.ref 0, .int x1, .int x2, .int x3] (zHp s t) = some (some (.int R.1), zHp R.2 t) := by
  unfold f_X5_mark at hF
  refine zcall_X (d := 1) (e := zm_X5_mark) rfl rfl ?_
  show zX (ztb L xs) (zcall (ztb L xs) 1) 5 1 zk_X5_mark 0 [.ref 0, .int x1, .int x2, .int x3] [] (zHp s t) _
  refine zX_go (c := 2) (pc' := if x1 < 0 then 19 else 4) (lv' := [.ref 0, .int x1, .int x2, .int x3]) (st' := []) (h' := zHp s t) rfl ?_
  refine zX_ite hF (fun c0 hF => ?_) (fun c0 hF => ?_)
  · refine zX_go (c := 1) (pc' := 21) (lv' := [.ref 0, .int x1, .int x2, .int x3]) (st' := [.int (-2)]) (h' := zHp s t) rfl ?_
    obtain rfl := Option.some.inj hF
    exact zX_reti rfl
  · refine zX_go (c := 3) (pc' := if (nI 31) < x1 then 19 else 10) (lv' := [.ref 0, .int x1, .int x2, .int x3]) (st' := []) (h' := zHp s t) rfl ?_
    refine zX_ite hF (fun c0 hF => ?_) (fun c0 hF => ?_)
    · refine zX_go (c := 1) (pc' := 21) (lv' := [.ref 0, .int x1, .int x2, .int x3]) (st' := [.int (-2)]) (h' := zHp s t) rfl ?_
      obtain rfl := Option.some.inj hF
      exact zX_reti rfl
    · refine zX_go (c := 2) (pc' := if x2 < 0 then 19 else 14) (lv' := [.ref 0, .int x1, .int x2, .int x3]) (st' := []) (h' := zHp s t) rfl ?_
      refine zX_ite hF (fun c0 hF => ?_) (fun c0 hF => ?_)
      · refine zX_go (c := 1) (pc' := 21) (lv' := [.ref 0, .int x1, .int x2, .int x3]) (st' := [.int (-2)]) (h' := zHp s t) rfl ?_
        obtain rfl := Option.some.inj hF
        exact zX_reti rfl
      · refine zX_go (c := 3) (pc' := if (nI 2) < x2 then 19 else 22) (lv' := [.ref 0, .int x1, .int x2, .int x3]) (st' := []) (h' := zHp s t) rfl ?_
        refine zX_ite hF (fun c0 hF => ?_) (fun c0 hF => ?_)
        · refine zX_go (c := 1) (pc' := 21) (lv' := [.ref 0, .int x1, .int x2, .int x3]) (st' := [.int (-2)]) (h' := zHp s t) rfl ?_
          obtain rfl := Option.some.inj hF
          exact zX_reti rfl
        · refine zX_go (c := 5) (pc' := 29) (lv' := [.ref 0, .int x1, .int x2, .int x3]) (st' := [.int x3, .int x2, .int x1, .ref 1]) (h' := zHp s t) rfl ?_
          obtain ⟨q1, hq, hF⟩ := zbd_ok hF
          refine zX_inv (av := [.ref 1, .int x1, .int x2, .int x3]) (st := []) (h' := zHp q1.2 t) rfl rfl rfl rfl rfl rfl (zcall_le (t_X0_add M _ _ _ _ _ _ hq) (by decide)) ?_
          obtain rfl := Option.some.inj hF
          exact zX_reti rfl
def f_X5_element (M : Nat) (s : zS) (x1 x2 x3 x4 : Int32) : Option (Int32 × zS) :=
  zbd (f_X0_has M s x1) (fun q1 =>
   if q1 = 0 then
    some ((-2), s)
   else
    if x2 < 0 then
     some ((-2), s)
    else
     if (nI 9) < x2 then
      some ((-2), s)
     else
      zbd (f_X0_hasKind M s x3) (fun q2 =>
       if q2 = 0 then
        some ((-2), s)
       else
        zbd (f_X0_slotOf M s x1 x2) (fun q3 =>
         if q3 = (-1) then
          zbd (f_X0_isFixed M s x1) (fun q4 =>
           if q4 = 0 then
            zbd (f_X0_wouldLeadTooFar M s x1 x3) (fun q5 =>
             if q5.1 = 0 then
              zbd (f_X0_addElement M q5.2 x1 x2 x3 x4) (fun q6 =>
               some (q6.1, q6.2))
             else
              some ((-6), q5.2))
           else
            some ((-4), s))
         else
          some ((-2), s))))
set_option maxRecDepth 100000 in
set_option maxHeartbeats 4000000 in
theorem t_X5_element {L : Nat} {xs : Nat → Int32} (M : Nat) (s t : zS) (x1 x2 x3 x4 : Int32) (R : Int32 × zS) (hF : f_X5_element M s x1 x2 x3 x4 = some R) : zcall (ztb L xs) 4 54 [.ref 0, .int x1, .int x2, .int x3, .int x4] (zHp s t) = some (some (.int R.1), zHp R.2 t) := by
  unfold f_X5_element at hF
  refine zcall_X (d := 3) (e := zm_X5_element) rfl rfl ?_
  show zX (ztb L xs) (zcall (ztb L xs) 3) 5 1 zk_X5_element 0 [.ref 0, .int x1, .int x2, .int x3, .int x4] [] (zHp s t) _
  refine zX_go (c := 3) (pc' := 5) (lv' := [.ref 0, .int x1, .int x2, .int x3, .int x4]) (st' := [.int x1, .ref 1]) (h' := zHp s t) rfl ?_
  obtain ⟨q1, hq, hF⟩ := zbd_ok hF
  refine zX_inv (av := [.ref 1, .int x1]) (st := []) (h' := zHp s t) rfl rfl rfl rfl rfl rfl (zcall_le (t_X0_has M _ _ _ _ hq) (by decide)) ?_
  refine zX_go (c := 1) (pc' := if q1 = 0 then 32 else 11) (lv' := [.ref 0, .int x1, .int x2, .int x3, .int x4]) (st' := []) (h' := zHp s t) rfl ?_
  refine zX_ite hF (fun c0 hF => ?_) (fun c0 hF => ?_)
  · refine zX_go (c := 1) (pc' := 34) (lv' := [.ref 0, .int x1, .int x2, .int x3, .int x4]) (st' := [.int (-2)]) (h' := zHp s t) rfl ?_
    obtain rfl := Option.some.inj hF
    exact zX_reti rfl
  · refine zX_go (c := 2) (pc' := if x2 < 0 then 32 else 15) (lv' := [.ref 0, .int x1, .int x2, .int x3, .int x4]) (st' := []) (h' := zHp s t) rfl ?_
    refine zX_ite hF (fun c0 hF => ?_) (fun c0 hF => ?_)
    · refine zX_go (c := 1) (pc' := 34) (lv' := [.ref 0, .int x1, .int x2, .int x3, .int x4]) (st' := [.int (-2)]) (h' := zHp s t) rfl ?_
      obtain rfl := Option.some.inj hF
      exact zX_reti rfl
    · refine zX_go (c := 3) (pc' := if (nI 9) < x2 then 32 else 21) (lv' := [.ref 0, .int x1, .int x2, .int x3, .int x4]) (st' := []) (h' := zHp s t) rfl ?_
      refine zX_ite hF (fun c0 hF => ?_) (fun c0 hF => ?_)
      · refine zX_go (c := 1) (pc' := 34) (lv' := [.ref 0, .int x1, .int x2, .int x3, .int x4]) (st' := [.int (-2)]) (h' := zHp s t) rfl ?_
        obtain rfl := Option.some.inj hF
        exact zX_reti rfl
      · refine zX_go (c := 3) (pc' := 26) (lv' := [.ref 0, .int x1, .int x2, .int x3, .int x4]) (st' := [.int x3, .ref 1]) (h' := zHp s t) rfl ?_
        obtain ⟨q2, hq, hF⟩ := zbd_ok hF
        refine zX_inv (av := [.ref 1, .int x3]) (st := []) (h' := zHp s t) rfl rfl rfl rfl rfl rfl (zcall_le (t_X0_hasKind M _ _ _ _ hq) (by decide)) ?_
        refine zX_go (c := 1) (pc' := if q2 = 0 then 32 else 35) (lv' := [.ref 0, .int x1, .int x2, .int x3, .int x4]) (st' := []) (h' := zHp s t) rfl ?_
        refine zX_ite hF (fun c0 hF => ?_) (fun c0 hF => ?_)
        · refine zX_go (c := 1) (pc' := 34) (lv' := [.ref 0, .int x1, .int x2, .int x3, .int x4]) (st' := [.int (-2)]) (h' := zHp s t) rfl ?_
          obtain rfl := Option.some.inj hF
          exact zX_reti rfl
        · refine zX_go (c := 4) (pc' := 41) (lv' := [.ref 0, .int x1, .int x2, .int x3, .int x4]) (st' := [.int x2, .int x1, .ref 1]) (h' := zHp s t) rfl ?_
          obtain ⟨q3, hq, hF⟩ := zbd_ok hF
          refine zX_inv (av := [.ref 1, .int x1, .int x2]) (st := []) (h' := zHp s t) rfl rfl rfl rfl rfl rfl (zcall_le (t_X0_slotOf M _ _ _ _ _ hq) (by decide)) ?_
          refine zX_go (c := 2) (pc' := if q3 = (-1) then 51 else 48) (lv' := [.ref 0, .int x1, .int x2, .int x3, .int x4]) (st' := []) (h' := zHp s t) rfl ?_
          refine zX_ite hF (fun c0 hF => ?_) (fun c0 hF => ?_)
          · refine zX_go (c := 3) (pc' := 56) (lv' := [.ref 0, .int x1, .int x2, .int x3, .int x4]) (st' := [.int x1, .ref 1]) (h' := zHp s t) rfl ?_
            obtain ⟨q4, hq, hF⟩ := zbd_ok hF
            refine zX_inv (av := [.ref 1, .int x1]) (st := []) (h' := zHp s t) rfl rfl rfl rfl rfl rfl (zcall_le (t_X0_isFixed M _ _ _ _ hq) (by decide)) ?_
            refine zX_go (c := 1) (pc' := if q4 = 0 then 65 else 62) (lv' := [.ref 0, .int x1, .int x2, .int x3, .int x4]) (st' := []) (h' := zHp s t) rfl ?_
            refine zX_ite hF (fun c0 hF => ?_) (fun c0 hF => ?_)
            · refine zX_go (c := 4) (pc' := 71) (lv' := [.ref 0, .int x1, .int x2, .int x3, .int x4]) (st' := [.int x3, .int x1, .ref 1]) (h' := zHp s t) rfl ?_
              obtain ⟨q5, hq, hF⟩ := zbd_ok hF
              refine zX_inv (av := [.ref 1, .int x1, .int x3]) (st := []) (h' := zHp q5.2 t) rfl rfl rfl rfl rfl rfl (zcall_le (t_X0_wouldLeadTooFar M _ _ _ _ _ hq) (by decide)) ?_
              refine zX_go (c := 1) (pc' := if q5.1 = 0 then 80 else 77) (lv' := [.ref 0, .int x1, .int x2, .int x3, .int x4]) (st' := []) (h' := zHp q5.2 t) rfl ?_
              refine zX_ite hF (fun c0 hF => ?_) (fun c0 hF => ?_)
              · refine zX_go (c := 6) (pc' := 89) (lv' := [.ref 0, .int x1, .int x2, .int x3, .int x4]) (st' := [.int x4, .int x3, .int x2, .int x1, .ref 1]) (h' := zHp q5.2 t) rfl ?_
                obtain ⟨q6, hq, hF⟩ := zbd_ok hF
                refine zX_inv (av := [.ref 1, .int x1, .int x2, .int x3, .int x4]) (st := []) (h' := zHp q6.2 t) rfl rfl rfl rfl rfl rfl (zcall_le (t_X0_addElement M _ _ _ _ _ _ _ hq) (by decide)) ?_
                obtain rfl := Option.some.inj hF
                exact zX_reti rfl
              · refine zX_go (c := 1) (pc' := 79) (lv' := [.ref 0, .int x1, .int x2, .int x3, .int x4]) (st' := [.int (-6)]) (h' := zHp q5.2 t) rfl ?_
                obtain rfl := Option.some.inj hF
                exact zX_reti rfl
            · refine zX_go (c := 1) (pc' := 64) (lv' := [.ref 0, .int x1, .int x2, .int x3, .int x4]) (st' := [.int (-4)]) (h' := zHp s t) rfl ?_
              obtain rfl := Option.some.inj hF
              exact zX_reti rfl
          · refine zX_go (c := 1) (pc' := 50) (lv' := [.ref 0, .int x1, .int x2, .int x3, .int x4]) (st' := [.int (-2)]) (h' := zHp s t) rfl ?_
            obtain rfl := Option.some.inj hF
            exact zX_reti rfl
def f_X5_isValueOrNone (M : Nat) (s : zS) (x1 : Int32) : Option (Int32) :=
  if x1 = (-1) then
   some (nI 1)
  else
   zbd (f_X3_has M s x1) (fun q1 =>
    if q1 = 0 then
     some (nI 0)
    else
     some (nI 1))
set_option maxRecDepth 100000 in
set_option maxHeartbeats 4000000 in
theorem t_X5_isValueOrNone {L : Nat} {xs : Nat → Int32} (M : Nat) (s t : zS) (x1 : Int32) (R : Int32) (hF : f_X5_isValueOrNone M s x1 = some R) : zcall (ztb L xs) 2 77 [.ref 0, .int x1] (zHp s t) = some (some (.int R), zHp s t) := by
  unfold f_X5_isValueOrNone at hF
  refine zcall_X (d := 1) (e := zm_X5_isValueOrNone) rfl rfl ?_
  show zX (ztb L xs) (zcall (ztb L xs) 1) 5 2 zk_X5_isValueOrNone 0 [.ref 0, .int x1] [] (zHp s t) _
  refine zX_go (c := 3) (pc' := if x1 = (-1) then 16 else 5) (lv' := [.ref 0, .int x1]) (st' := []) (h' := zHp s t) rfl ?_
  refine zX_ite hF (fun c0 hF => ?_) (fun c0 hF => ?_)
  · refine zX_go (c := 2) (pc' := 21) (lv' := [.ref 0, .int x1]) (st' := [.int (nI 1)]) (h' := zHp s t) rfl ?_
    obtain rfl := Option.some.inj hF
    exact zX_retz rfl (by decide)
  · refine zX_go (c := 3) (pc' := 10) (lv' := [.ref 0, .int x1]) (st' := [.int x1, .ref 3]) (h' := zHp s t) rfl ?_
    obtain ⟨q1, hq, hF⟩ := zbd_ok hF
    refine zX_inv (av := [.ref 3, .int x1]) (st := []) (h' := zHp s t) rfl rfl rfl rfl rfl rfl (zcall_le (t_X3_has M _ _ _ _ hq) (by decide)) ?_
    refine zX_go (c := 1) (pc' := if q1 = 0 then 20 else 16) (lv' := [.ref 0, .int x1]) (st' := []) (h' := zHp s t) rfl ?_
    refine zX_ite hF (fun c0 hF => ?_) (fun c0 hF => ?_)
    · refine zX_go (c := 1) (pc' := 21) (lv' := [.ref 0, .int x1]) (st' := [.int (nI 0)]) (h' := zHp s t) rfl ?_
      obtain rfl := Option.some.inj hF
      exact zX_retz rfl (by decide)
    · refine zX_go (c := 2) (pc' := 21) (lv' := [.ref 0, .int x1]) (st' := [.int (nI 1)]) (h' := zHp s t) rfl ?_
      obtain rfl := Option.some.inj hF
      exact zX_retz rfl (by decide)
def f_X5_fail (M : Nat) (s : zS) (x1 : Int32) : Option (Int32 × zS) :=
  zq (zin x1 4) <|
  zq (zin x1 4) <|
  some ((-5), zup (zup s 1 0 x1) 0 x1.toNatClampNeg ((s 0 x1.toNatClampNeg) + (nI 1)))
set_option maxRecDepth 100000 in
set_option maxHeartbeats 4000000 in
theorem t_X5_fail {L : Nat} {xs : Nat → Int32} (M : Nat) (s t : zS) (x1 : Int32) (R : Int32 × zS) (hF : f_X5_fail M s x1 = some R) : zcall (ztb L xs) 1 80 [.ref 0, .int x1] (zHp s t) = some (some (.int R.1), zHp R.2 t) := by
  unfold f_X5_fail at hF
  refine zcall_X (d := 0) (e := zm_X5_fail) rfl rfl ?_
  show zX (ztb L xs) (zcall (ztb L xs) 0) 5 1 zk_X5_fail 0 [.ref 0, .int x1] [] (zHp s t) _
  refine zX_go (c := 2) (pc' := 2) (lv' := [.ref 0, .int x1]) (st' := [.int x1, .ref 0]) (h' := zHp s t) rfl ?_
  refine zX_pfi (h' := zHp (zup s 1 0 x1) t) rfl rfl rfl rfl (zst_0_6 _ _ _) ?_
  refine zX_go (c := 4) (pc' := 11) (lv' := [.ref 0, .int x1]) (st' := [.int x1, .ref 7, .int x1, .ref 7]) (h' := zHp (zup s 1 0 x1) t) rfl ?_
  refine zX_ial (n := 4) rfl rfl hF (fun hF => ?_)
  refine zX_go (c := 2) (pc' := 14) (lv' := [.ref 0, .int x1]) (st' := [.int ((s 0 x1.toNatClampNeg) + (nI 1)), .int x1, .ref 7]) (h' := zHp (zup s 1 0 x1) t) rfl ?_
  refine zX_ias (n := 4) (h' := zHp (zup (zup s 1 0 x1) 0 x1.toNatClampNeg ((s 0 x1.toNatClampNeg) + (nI 1))) t) rfl rfl (zst_7 _ _ _ _) hF (fun hF => ?_)
  refine zX_go (c := 1) (pc' := 17) (lv' := [.ref 0, .int x1]) (st' := [.int (-5)]) (h' := zHp (zup (zup s 1 0 x1) 0 x1.toNatClampNeg ((s 0 x1.toNatClampNeg) + (nI 1))) t) rfl ?_
  obtain rfl := Option.some.inj hF
  exact zX_reti rfl
def f_X5_takeFor (M : Nat) (s : zS) (x1 x2 : Int32) : Option (Int32 × zS) :=
  if x2 = (-1) then
   zbd (f_X5_fail M s (nI 1)) (fun q1 =>
    some (q1.1, q1.2))
  else
   zq (zin x1 60) <|
   zq (zin x1 60) <|
   if (s 14 x1.toNatClampNeg) = 0 then
    zq (zin x1 60) <|
    if (s 14 x1.toNatClampNeg) = 0 then
     zbd (f_X3_isOfKind M s x2 (s 13 x1.toNatClampNeg)) (fun q2 =>
      if q2 = 0 then
       zbd (f_X5_fail M s (nI 2)) (fun q3 =>
        some (q3.1, q3.2))
      else
       if x2 = (-3) then
        some ((-3), s)
       else
        zbd (f_X3_finish M (zup s 1 0 (nI 0)) x2) (fun q4 =>
         some (x2, q4)))
    else
     zbd (f_X3_isRowOf M s x2 (s 13 x1.toNatClampNeg)) (fun q5 =>
      if q5 = 0 then
       zbd (f_X5_fail M s (nI 2)) (fun q6 =>
        some (q6.1, q6.2))
      else
       if x2 = (-3) then
        some ((-3), s)
       else
        zbd (f_X3_finish M (zup s 1 0 (nI 0)) x2) (fun q7 =>
         some (x2, q7)))
   else
    zbd (f_X3_isOfKind M s x2 (s 13 x1.toNatClampNeg)) (fun q8 =>
     if q8 = 0 then
      zq (zin x1 60) <|
      if (s 14 x1.toNatClampNeg) = 0 then
       zbd (f_X3_isOfKind M s x2 (s 13 x1.toNatClampNeg)) (fun q9 =>
        if q9 = 0 then
         zbd (f_X5_fail M s (nI 2)) (fun q10 =>
          some (q10.1, q10.2))
        else
         if x2 = (-3) then
          some ((-3), s)
         else
          zbd (f_X3_finish M (zup s 1 0 (nI 0)) x2) (fun q11 =>
           some (x2, q11)))
      else
       zbd (f_X3_isRowOf M s x2 (s 13 x1.toNatClampNeg)) (fun q12 =>
        if q12 = 0 then
         zbd (f_X5_fail M s (nI 2)) (fun q13 =>
          some (q13.1, q13.2))
        else
         if x2 = (-3) then
          some ((-3), s)
         else
          zbd (f_X3_finish M (zup s 1 0 (nI 0)) x2) (fun q14 =>
           some (x2, q14)))
     else
      zq (zin x1 60) <|
      if (s 14 x1.toNatClampNeg) = 0 then
       zbd (f_X3_isOfKind M s x2 (s 13 x1.toNatClampNeg)) (fun q15 =>
        zbd (f_X3_addRowOfOne M s (s 13 x1.toNatClampNeg) x2) (fun q16 =>
         if q16.1 = (-3) then
          some ((-3), q16.2)
         else
          zbd (f_X3_finish M (zup q16.2 1 0 (nI 0)) q16.1) (fun q17 =>
           some (q16.1, q17))))
      else
       zbd (f_X3_isRowOf M s x2 (s 13 x1.toNatClampNeg)) (fun q18 =>
        zbd (f_X3_addRowOfOne M s (s 13 x1.toNatClampNeg) x2) (fun q19 =>
         if q19.1 = (-3) then
          some ((-3), q19.2)
         else
          zbd (f_X3_finish M (zup q19.2 1 0 (nI 0)) q19.1) (fun q20 =>
           some (q19.1, q20)))))
set_option maxRecDepth 100000 in
set_option maxHeartbeats 4000000 in
theorem t_X5_takeFor {L : Nat} {xs : Nat → Int32} (M : Nat) (s t : zS) (x1 x2 : Int32) (R : Int32 × zS) (hF : f_X5_takeFor M s x1 x2 = some R) : zcall (ztb L xs) 4 81 [.ref 0, .int x1, .int x2] (zHp s t) = some (some (.int R.1), zHp R.2 t) := by
  unfold f_X5_takeFor at hF
  refine zcall_X (d := 3) (e := zm_X5_takeFor) rfl rfl ?_
  show zX (ztb L xs) (zcall (ztb L xs) 3) 5 1 zk_X5_takeFor 0 [.ref 0, .int x1, .int x2, .retAddr 0, .retAddr 0, .retAddr 0, .retAddr 0] [] (zHp s t) _
  refine zX_go (c := 3) (pc' := if x2 = (-1) then 5 else 11) (lv' := [.ref 0, .int x1, .int x2, .retAddr 0, .retAddr 0, .retAddr 0, .retAddr 0]) (st' := []) (h' := zHp s t) rfl ?_
  refine zX_ite hF (fun c0 hF => ?_) (fun c0 hF => ?_)
  · refine zX_go (c := 2) (pc' := 7) (lv' := [.ref 0, .int x1, .int x2, .retAddr 0, .retAddr 0, .retAddr 0, .retAddr 0]) (st' := [.int (nI 1), .ref 0]) (h' := zHp s t) rfl ?_
    obtain ⟨q1, hq, hF⟩ := zbd_ok hF
    refine zX_inv (av := [.ref 0, .int (nI 1)]) (st := []) (h' := zHp q1.2 t) rfl rfl rfl rfl rfl rfl (zcall_le (t_X5_fail M _ _ _ _ hq) (by decide)) ?_
    obtain rfl := Option.some.inj hF
    exact zX_reti rfl
  · refine zX_go (c := 4) (pc' := 19) (lv' := [.ref 0, .int x1, .int x2, .retAddr 0, .retAddr 0, .retAddr 0, .retAddr 0]) (st' := [.int x1, .ref 18]) (h' := zHp s t) rfl ?_
    refine zX_ial (n := 60) rfl rfl hF (fun hF => ?_)
    refine zX_go (c := 5) (pc' := 29) (lv' := [.ref 0, .int x1, .int x2, .int (s 13 x1.toNatClampNeg), .retAddr 0, .retAddr 0, .retAddr 0]) (st' := [.int x1, .ref 19]) (h' := zHp s t) rfl ?_
    refine zX_bal (n := 60) rfl rfl hF (fun hF => ?_)
    refine zX_go (c := 1) (pc' := if (s 14 x1.toNatClampNeg) = 0 then 49 else 33) (lv' := [.ref 0, .int x1, .int x2, .int (s 13 x1.toNatClampNeg), .retAddr 0, .retAddr 0, .retAddr 0]) (st' := []) (h' := zHp s t) rfl ?_
    refine zX_ite hF (fun c0 hF => ?_) (fun c0 hF => ?_)
    · refine zX_go (c := 6) (pc' := 60) (lv' := [.ref 0, .int x1, .int x2, .int (s 13 x1.toNatClampNeg), .int (nI 0), .retAddr 0, .retAddr 0]) (st' := [.int x1, .ref 19]) (h' := zHp s t) rfl ?_
      refine zX_bal (n := 60) rfl rfl hF (fun hF => ?_)
      refine zX_go (c := 1) (pc' := if (s 14 x1.toNatClampNeg) = 0 then 76 else 64) (lv' := [.ref 0, .int x1, .int x2, .int (s 13 x1.toNatClampNeg), .int (nI 0), .retAddr 0, .retAddr 0]) (st' := []) (h' := zHp s t) rfl ?_
      refine zX_ite hF (fun c0 hF => ?_) (fun c0 hF => ?_)
      · refine zX_go (c := 4) (pc' := 82) (lv' := [.ref 0, .int x1, .int x2, .int (s 13 x1.toNatClampNeg), .int (nI 0), .retAddr 0, .retAddr 0]) (st' := [.int (s 13 x1.toNatClampNeg), .int x2, .ref 3]) (h' := zHp s t) rfl ?_
        obtain ⟨q2, hq, hF⟩ := zbd_ok hF
        refine zX_inv (av := [.ref 3, .int x2, .int (s 13 x1.toNatClampNeg)]) (st := []) (h' := zHp s t) rfl rfl rfl rfl rfl rfl (zcall_le (t_X3_isOfKind M _ _ _ _ _ hq) (by decide)) ?_
        refine zX_go (c := 3) (pc' := if (nI 0) = 0 then 92 else 103) (lv' := [.ref 0, .int x1, .int x2, .int (s 13 x1.toNatClampNeg), .int (nI 0), .int q2, .retAddr 0]) (st' := []) (h' := zHp s t) rfl ?_
        rw [if_pos (show (nI 0) = 0 by decide)]
        refine zX_go (c := 2) (pc' := if q2 = 0 then 97 else 103) (lv' := [.ref 0, .int x1, .int x2, .int (s 13 x1.toNatClampNeg), .int (nI 0), .int q2, .retAddr 0]) (st' := []) (h' := zHp s t) rfl ?_
        refine zX_ite hF (fun c0 hF => ?_) (fun c0 hF => ?_)
        · refine zX_go (c := 2) (pc' := 99) (lv' := [.ref 0, .int x1, .int x2, .int (s 13 x1.toNatClampNeg), .int (nI 0), .int q2, .retAddr 0]) (st' := [.int (nI 2), .ref 0]) (h' := zHp s t) rfl ?_
          obtain ⟨q3, hq, hF⟩ := zbd_ok hF
          refine zX_inv (av := [.ref 0, .int (nI 2)]) (st := []) (h' := zHp q3.2 t) rfl rfl rfl rfl rfl rfl (zcall_le (t_X5_fail M _ _ _ _ hq) (by decide)) ?_
          obtain rfl := Option.some.inj hF
          exact zX_reti rfl
        · refine zX_go (c := 2) (pc' := if (nI 0) = 0 then 120 else 108) (lv' := [.ref 0, .int x1, .int x2, .int (s 13 x1.toNatClampNeg), .int (nI 0), .int q2, .retAddr 0]) (st' := []) (h' := zHp s t) rfl ?_
          rw [if_pos (show (nI 0) = 0 by decide)]
          refine zX_go (c := 5) (pc' := if x2 = (-3) then 130 else 133) (lv' := [.ref 0, .int x1, .int x2, .int (s 13 x1.toNatClampNeg), .int (nI 0), .int q2, .int x2]) (st' := []) (h' := zHp s t) rfl ?_
          refine zX_ite hF (fun c0 hF => ?_) (fun c0 hF => ?_)
          · refine zX_go (c := 1) (pc' := 132) (lv' := [.ref 0, .int x1, .int x2, .int (s 13 x1.toNatClampNeg), .int (nI 0), .int q2, .int x2]) (st' := [.int (-3)]) (h' := zHp s t) rfl ?_
            obtain rfl := Option.some.inj hF
            exact zX_reti rfl
          · refine zX_go (c := 2) (pc' := 135) (lv' := [.ref 0, .int x1, .int x2, .int (s 13 x1.toNatClampNeg), .int (nI 0), .int q2, .int x2]) (st' := [.int (nI 0), .ref 0]) (h' := zHp s t) rfl ?_
            refine zX_pfi (h' := zHp (zup s 1 0 (nI 0)) t) rfl rfl rfl rfl (zst_0_6 _ _ _) ?_
            refine zX_go (c := 3) (pc' := 144) (lv' := [.ref 0, .int x1, .int x2, .int (s 13 x1.toNatClampNeg), .int (nI 0), .int q2, .int x2]) (st' := [.int x2, .ref 3]) (h' := zHp (zup s 1 0 (nI 0)) t) rfl ?_
            obtain ⟨q4, hq, hF⟩ := zbd_ok hF
            refine zX_inv (av := [.ref 3, .int x2]) (st := []) (h' := zHp q4 t) rfl rfl rfl rfl rfl rfl (zcall_le (t_X3_finish M _ _ _ _ hq) (by decide)) ?_
            refine zX_go (c := 1) (pc' := 149) (lv' := [.ref 0, .int x1, .int x2, .int (s 13 x1.toNatClampNeg), .int (nI 0), .int q2, .int x2]) (st' := [.int x2]) (h' := zHp q4 t) rfl ?_
            obtain rfl := Option.some.inj hF
            exact zX_reti rfl
      · refine zX_go (c := 4) (pc' := 70) (lv' := [.ref 0, .int x1, .int x2, .int (s 13 x1.toNatClampNeg), .int (nI 0), .retAddr 0, .retAddr 0]) (st' := [.int (s 13 x1.toNatClampNeg), .int x2, .ref 3]) (h' := zHp s t) rfl ?_
        obtain ⟨q5, hq, hF⟩ := zbd_ok hF
        refine zX_inv (av := [.ref 3, .int x2, .int (s 13 x1.toNatClampNeg)]) (st := []) (h' := zHp s t) rfl rfl rfl rfl rfl rfl (zcall_le (t_X3_isRowOf M _ _ _ _ _ hq) (by decide)) ?_
        refine zX_go (c := 4) (pc' := if (nI 0) = 0 then 92 else 103) (lv' := [.ref 0, .int x1, .int x2, .int (s 13 x1.toNatClampNeg), .int (nI 0), .int q5, .retAddr 0]) (st' := []) (h' := zHp s t) rfl ?_
        rw [if_pos (show (nI 0) = 0 by decide)]
        refine zX_go (c := 2) (pc' := if q5 = 0 then 97 else 103) (lv' := [.ref 0, .int x1, .int x2, .int (s 13 x1.toNatClampNeg), .int (nI 0), .int q5, .retAddr 0]) (st' := []) (h' := zHp s t) rfl ?_
        refine zX_ite hF (fun c0 hF => ?_) (fun c0 hF => ?_)
        · refine zX_go (c := 2) (pc' := 99) (lv' := [.ref 0, .int x1, .int x2, .int (s 13 x1.toNatClampNeg), .int (nI 0), .int q5, .retAddr 0]) (st' := [.int (nI 2), .ref 0]) (h' := zHp s t) rfl ?_
          obtain ⟨q6, hq, hF⟩ := zbd_ok hF
          refine zX_inv (av := [.ref 0, .int (nI 2)]) (st := []) (h' := zHp q6.2 t) rfl rfl rfl rfl rfl rfl (zcall_le (t_X5_fail M _ _ _ _ hq) (by decide)) ?_
          obtain rfl := Option.some.inj hF
          exact zX_reti rfl
        · refine zX_go (c := 2) (pc' := if (nI 0) = 0 then 120 else 108) (lv' := [.ref 0, .int x1, .int x2, .int (s 13 x1.toNatClampNeg), .int (nI 0), .int q5, .retAddr 0]) (st' := []) (h' := zHp s t) rfl ?_
          rw [if_pos (show (nI 0) = 0 by decide)]
          refine zX_go (c := 5) (pc' := if x2 = (-3) then 130 else 133) (lv' := [.ref 0, .int x1, .int x2, .int (s 13 x1.toNatClampNeg), .int (nI 0), .int q5, .int x2]) (st' := []) (h' := zHp s t) rfl ?_
          refine zX_ite hF (fun c0 hF => ?_) (fun c0 hF => ?_)
          · refine zX_go (c := 1) (pc' := 132) (lv' := [.ref 0, .int x1, .int x2, .int (s 13 x1.toNatClampNeg), .int (nI 0), .int q5, .int x2]) (st' := [.int (-3)]) (h' := zHp s t) rfl ?_
            obtain rfl := Option.some.inj hF
            exact zX_reti rfl
          · refine zX_go (c := 2) (pc' := 135) (lv' := [.ref 0, .int x1, .int x2, .int (s 13 x1.toNatClampNeg), .int (nI 0), .int q5, .int x2]) (st' := [.int (nI 0), .ref 0]) (h' := zHp s t) rfl ?_
            refine zX_pfi (h' := zHp (zup s 1 0 (nI 0)) t) rfl rfl rfl rfl (zst_0_6 _ _ _) ?_
            refine zX_go (c := 3) (pc' := 144) (lv' := [.ref 0, .int x1, .int x2, .int (s 13 x1.toNatClampNeg), .int (nI 0), .int q5, .int x2]) (st' := [.int x2, .ref 3]) (h' := zHp (zup s 1 0 (nI 0)) t) rfl ?_
            obtain ⟨q7, hq, hF⟩ := zbd_ok hF
            refine zX_inv (av := [.ref 3, .int x2]) (st := []) (h' := zHp q7 t) rfl rfl rfl rfl rfl rfl (zcall_le (t_X3_finish M _ _ _ _ hq) (by decide)) ?_
            refine zX_go (c := 1) (pc' := 149) (lv' := [.ref 0, .int x1, .int x2, .int (s 13 x1.toNatClampNeg), .int (nI 0), .int q5, .int x2]) (st' := [.int x2]) (h' := zHp q7 t) rfl ?_
            obtain rfl := Option.some.inj hF
            exact zX_reti rfl
    · refine zX_go (c := 4) (pc' := 39) (lv' := [.ref 0, .int x1, .int x2, .int (s 13 x1.toNatClampNeg), .retAddr 0, .retAddr 0, .retAddr 0]) (st' := [.int (s 13 x1.toNatClampNeg), .int x2, .ref 3]) (h' := zHp s t) rfl ?_
      obtain ⟨q8, hq, hF⟩ := zbd_ok hF
      refine zX_inv (av := [.ref 3, .int x2, .int (s 13 x1.toNatClampNeg)]) (st := []) (h' := zHp s t) rfl rfl rfl rfl rfl rfl (zcall_le (t_X3_isOfKind M _ _ _ _ _ hq) (by decide)) ?_
      refine zX_go (c := 1) (pc' := if q8 = 0 then 49 else 45) (lv' := [.ref 0, .int x1, .int x2, .int (s 13 x1.toNatClampNeg), .retAddr 0, .retAddr 0, .retAddr 0]) (st' := []) (h' := zHp s t) rfl ?_
      refine zX_ite hF (fun c0 hF => ?_) (fun c0 hF => ?_)
      · refine zX_go (c := 6) (pc' := 60) (lv' := [.ref 0, .int x1, .int x2, .int (s 13 x1.toNatClampNeg), .int (nI 0), .retAddr 0, .retAddr 0]) (st' := [.int x1, .ref 19]) (h' := zHp s t) rfl ?_
        refine zX_bal (n := 60) rfl rfl hF (fun hF => ?_)
        refine zX_go (c := 1) (pc' := if (s 14 x1.toNatClampNeg) = 0 then 76 else 64) (lv' := [.ref 0, .int x1, .int x2, .int (s 13 x1.toNatClampNeg), .int (nI 0), .retAddr 0, .retAddr 0]) (st' := []) (h' := zHp s t) rfl ?_
        refine zX_ite hF (fun c0 hF => ?_) (fun c0 hF => ?_)
        · refine zX_go (c := 4) (pc' := 82) (lv' := [.ref 0, .int x1, .int x2, .int (s 13 x1.toNatClampNeg), .int (nI 0), .retAddr 0, .retAddr 0]) (st' := [.int (s 13 x1.toNatClampNeg), .int x2, .ref 3]) (h' := zHp s t) rfl ?_
          obtain ⟨q9, hq, hF⟩ := zbd_ok hF
          refine zX_inv (av := [.ref 3, .int x2, .int (s 13 x1.toNatClampNeg)]) (st := []) (h' := zHp s t) rfl rfl rfl rfl rfl rfl (zcall_le (t_X3_isOfKind M _ _ _ _ _ hq) (by decide)) ?_
          refine zX_go (c := 3) (pc' := if (nI 0) = 0 then 92 else 103) (lv' := [.ref 0, .int x1, .int x2, .int (s 13 x1.toNatClampNeg), .int (nI 0), .int q9, .retAddr 0]) (st' := []) (h' := zHp s t) rfl ?_
          rw [if_pos (show (nI 0) = 0 by decide)]
          refine zX_go (c := 2) (pc' := if q9 = 0 then 97 else 103) (lv' := [.ref 0, .int x1, .int x2, .int (s 13 x1.toNatClampNeg), .int (nI 0), .int q9, .retAddr 0]) (st' := []) (h' := zHp s t) rfl ?_
          refine zX_ite hF (fun c0 hF => ?_) (fun c0 hF => ?_)
          · refine zX_go (c := 2) (pc' := 99) (lv' := [.ref 0, .int x1, .int x2, .int (s 13 x1.toNatClampNeg), .int (nI 0), .int q9, .retAddr 0]) (st' := [.int (nI 2), .ref 0]) (h' := zHp s t) rfl ?_
            obtain ⟨q10, hq, hF⟩ := zbd_ok hF
            refine zX_inv (av := [.ref 0, .int (nI 2)]) (st := []) (h' := zHp q10.2 t) rfl rfl rfl rfl rfl rfl (zcall_le (t_X5_fail M _ _ _ _ hq) (by decide)) ?_
            obtain rfl := Option.some.inj hF
            exact zX_reti rfl
          · refine zX_go (c := 2) (pc' := if (nI 0) = 0 then 120 else 108) (lv' := [.ref 0, .int x1, .int x2, .int (s 13 x1.toNatClampNeg), .int (nI 0), .int q9, .retAddr 0]) (st' := []) (h' := zHp s t) rfl ?_
            rw [if_pos (show (nI 0) = 0 by decide)]
            refine zX_go (c := 5) (pc' := if x2 = (-3) then 130 else 133) (lv' := [.ref 0, .int x1, .int x2, .int (s 13 x1.toNatClampNeg), .int (nI 0), .int q9, .int x2]) (st' := []) (h' := zHp s t) rfl ?_
            refine zX_ite hF (fun c0 hF => ?_) (fun c0 hF => ?_)
            · refine zX_go (c := 1) (pc' := 132) (lv' := [.ref 0, .int x1, .int x2, .int (s 13 x1.toNatClampNeg), .int (nI 0), .int q9, .int x2]) (st' := [.int (-3)]) (h' := zHp s t) rfl ?_
              obtain rfl := Option.some.inj hF
              exact zX_reti rfl
            · refine zX_go (c := 2) (pc' := 135) (lv' := [.ref 0, .int x1, .int x2, .int (s 13 x1.toNatClampNeg), .int (nI 0), .int q9, .int x2]) (st' := [.int (nI 0), .ref 0]) (h' := zHp s t) rfl ?_
              refine zX_pfi (h' := zHp (zup s 1 0 (nI 0)) t) rfl rfl rfl rfl (zst_0_6 _ _ _) ?_
              refine zX_go (c := 3) (pc' := 144) (lv' := [.ref 0, .int x1, .int x2, .int (s 13 x1.toNatClampNeg), .int (nI 0), .int q9, .int x2]) (st' := [.int x2, .ref 3]) (h' := zHp (zup s 1 0 (nI 0)) t) rfl ?_
              obtain ⟨q11, hq, hF⟩ := zbd_ok hF
              refine zX_inv (av := [.ref 3, .int x2]) (st := []) (h' := zHp q11 t) rfl rfl rfl rfl rfl rfl (zcall_le (t_X3_finish M _ _ _ _ hq) (by decide)) ?_
              refine zX_go (c := 1) (pc' := 149) (lv' := [.ref 0, .int x1, .int x2, .int (s 13 x1.toNatClampNeg), .int (nI 0), .int q9, .int x2]) (st' := [.int x2]) (h' := zHp q11 t) rfl ?_
              obtain rfl := Option.some.inj hF
              exact zX_reti rfl
        · refine zX_go (c := 4) (pc' := 70) (lv' := [.ref 0, .int x1, .int x2, .int (s 13 x1.toNatClampNeg), .int (nI 0), .retAddr 0, .retAddr 0]) (st' := [.int (s 13 x1.toNatClampNeg), .int x2, .ref 3]) (h' := zHp s t) rfl ?_
          obtain ⟨q12, hq, hF⟩ := zbd_ok hF
          refine zX_inv (av := [.ref 3, .int x2, .int (s 13 x1.toNatClampNeg)]) (st := []) (h' := zHp s t) rfl rfl rfl rfl rfl rfl (zcall_le (t_X3_isRowOf M _ _ _ _ _ hq) (by decide)) ?_
          refine zX_go (c := 4) (pc' := if (nI 0) = 0 then 92 else 103) (lv' := [.ref 0, .int x1, .int x2, .int (s 13 x1.toNatClampNeg), .int (nI 0), .int q12, .retAddr 0]) (st' := []) (h' := zHp s t) rfl ?_
          rw [if_pos (show (nI 0) = 0 by decide)]
          refine zX_go (c := 2) (pc' := if q12 = 0 then 97 else 103) (lv' := [.ref 0, .int x1, .int x2, .int (s 13 x1.toNatClampNeg), .int (nI 0), .int q12, .retAddr 0]) (st' := []) (h' := zHp s t) rfl ?_
          refine zX_ite hF (fun c0 hF => ?_) (fun c0 hF => ?_)
          · refine zX_go (c := 2) (pc' := 99) (lv' := [.ref 0, .int x1, .int x2, .int (s 13 x1.toNatClampNeg), .int (nI 0), .int q12, .retAddr 0]) (st' := [.int (nI 2), .ref 0]) (h' := zHp s t) rfl ?_
            obtain ⟨q13, hq, hF⟩ := zbd_ok hF
            refine zX_inv (av := [.ref 0, .int (nI 2)]) (st := []) (h' := zHp q13.2 t) rfl rfl rfl rfl rfl rfl (zcall_le (t_X5_fail M _ _ _ _ hq) (by decide)) ?_
            obtain rfl := Option.some.inj hF
            exact zX_reti rfl
          · refine zX_go (c := 2) (pc' := if (nI 0) = 0 then 120 else 108) (lv' := [.ref 0, .int x1, .int x2, .int (s 13 x1.toNatClampNeg), .int (nI 0), .int q12, .retAddr 0]) (st' := []) (h' := zHp s t) rfl ?_
            rw [if_pos (show (nI 0) = 0 by decide)]
            refine zX_go (c := 5) (pc' := if x2 = (-3) then 130 else 133) (lv' := [.ref 0, .int x1, .int x2, .int (s 13 x1.toNatClampNeg), .int (nI 0), .int q12, .int x2]) (st' := []) (h' := zHp s t) rfl ?_
            refine zX_ite hF (fun c0 hF => ?_) (fun c0 hF => ?_)
            · refine zX_go (c := 1) (pc' := 132) (lv' := [.ref 0, .int x1, .int x2, .int (s 13 x1.toNatClampNeg), .int (nI 0), .int q12, .int x2]) (st' := [.int (-3)]) (h' := zHp s t) rfl ?_
              obtain rfl := Option.some.inj hF
              exact zX_reti rfl
            · refine zX_go (c := 2) (pc' := 135) (lv' := [.ref 0, .int x1, .int x2, .int (s 13 x1.toNatClampNeg), .int (nI 0), .int q12, .int x2]) (st' := [.int (nI 0), .ref 0]) (h' := zHp s t) rfl ?_
              refine zX_pfi (h' := zHp (zup s 1 0 (nI 0)) t) rfl rfl rfl rfl (zst_0_6 _ _ _) ?_
              refine zX_go (c := 3) (pc' := 144) (lv' := [.ref 0, .int x1, .int x2, .int (s 13 x1.toNatClampNeg), .int (nI 0), .int q12, .int x2]) (st' := [.int x2, .ref 3]) (h' := zHp (zup s 1 0 (nI 0)) t) rfl ?_
              obtain ⟨q14, hq, hF⟩ := zbd_ok hF
              refine zX_inv (av := [.ref 3, .int x2]) (st := []) (h' := zHp q14 t) rfl rfl rfl rfl rfl rfl (zcall_le (t_X3_finish M _ _ _ _ hq) (by decide)) ?_
              refine zX_go (c := 1) (pc' := 149) (lv' := [.ref 0, .int x1, .int x2, .int (s 13 x1.toNatClampNeg), .int (nI 0), .int q12, .int x2]) (st' := [.int x2]) (h' := zHp q14 t) rfl ?_
              obtain rfl := Option.some.inj hF
              exact zX_reti rfl
      · refine zX_go (c := 7) (pc' := 60) (lv' := [.ref 0, .int x1, .int x2, .int (s 13 x1.toNatClampNeg), .int (nI 1), .retAddr 0, .retAddr 0]) (st' := [.int x1, .ref 19]) (h' := zHp s t) rfl ?_
        refine zX_bal (n := 60) rfl rfl hF (fun hF => ?_)
        refine zX_go (c := 1) (pc' := if (s 14 x1.toNatClampNeg) = 0 then 76 else 64) (lv' := [.ref 0, .int x1, .int x2, .int (s 13 x1.toNatClampNeg), .int (nI 1), .retAddr 0, .retAddr 0]) (st' := []) (h' := zHp s t) rfl ?_
        refine zX_ite hF (fun c0 hF => ?_) (fun c0 hF => ?_)
        · refine zX_go (c := 4) (pc' := 82) (lv' := [.ref 0, .int x1, .int x2, .int (s 13 x1.toNatClampNeg), .int (nI 1), .retAddr 0, .retAddr 0]) (st' := [.int (s 13 x1.toNatClampNeg), .int x2, .ref 3]) (h' := zHp s t) rfl ?_
          obtain ⟨q15, hq, hF⟩ := zbd_ok hF
          refine zX_inv (av := [.ref 3, .int x2, .int (s 13 x1.toNatClampNeg)]) (st := []) (h' := zHp s t) rfl rfl rfl rfl rfl rfl (zcall_le (t_X3_isOfKind M _ _ _ _ _ hq) (by decide)) ?_
          refine zX_go (c := 3) (pc' := if (nI 1) = 0 then 92 else 103) (lv' := [.ref 0, .int x1, .int x2, .int (s 13 x1.toNatClampNeg), .int (nI 1), .int q15, .retAddr 0]) (st' := []) (h' := zHp s t) rfl ?_
          rw [if_neg (show ¬ ((nI 1) = 0) by decide)]
          refine zX_go (c := 2) (pc' := if (nI 1) = 0 then 120 else 108) (lv' := [.ref 0, .int x1, .int x2, .int (s 13 x1.toNatClampNeg), .int (nI 1), .int q15, .retAddr 0]) (st' := []) (h' := zHp s t) rfl ?_
          rw [if_neg (show ¬ ((nI 1) = 0) by decide)]
          refine zX_go (c := 4) (pc' := 114) (lv' := [.ref 0, .int x1, .int x2, .int (s 13 x1.toNatClampNeg), .int (nI 1), .int q15, .retAddr 0]) (st' := [.int x2, .int (s 13 x1.toNatClampNeg), .ref 3]) (h' := zHp s t) rfl ?_
          obtain ⟨q16, hq, hF⟩ := zbd_ok hF
          refine zX_inv (av := [.ref 3, .int (s 13 x1.toNatClampNeg), .int x2]) (st := []) (h' := zHp q16.2 t) rfl rfl rfl rfl rfl rfl (zcall_le (t_X3_addRowOfOne M _ _ _ _ _ hq) (by decide)) ?_
          refine zX_go (c := 5) (pc' := if q16.1 = (-3) then 130 else 133) (lv' := [.ref 0, .int x1, .int x2, .int (s 13 x1.toNatClampNeg), .int (nI 1), .int q15, .int q16.1]) (st' := []) (h' := zHp q16.2 t) rfl ?_
          refine zX_ite hF (fun c0 hF => ?_) (fun c0 hF => ?_)
          · refine zX_go (c := 1) (pc' := 132) (lv' := [.ref 0, .int x1, .int x2, .int (s 13 x1.toNatClampNeg), .int (nI 1), .int q15, .int q16.1]) (st' := [.int (-3)]) (h' := zHp q16.2 t) rfl ?_
            obtain rfl := Option.some.inj hF
            exact zX_reti rfl
          · refine zX_go (c := 2) (pc' := 135) (lv' := [.ref 0, .int x1, .int x2, .int (s 13 x1.toNatClampNeg), .int (nI 1), .int q15, .int q16.1]) (st' := [.int (nI 0), .ref 0]) (h' := zHp q16.2 t) rfl ?_
            refine zX_pfi (h' := zHp (zup q16.2 1 0 (nI 0)) t) rfl rfl rfl rfl (zst_0_6 _ _ _) ?_
            refine zX_go (c := 3) (pc' := 144) (lv' := [.ref 0, .int x1, .int x2, .int (s 13 x1.toNatClampNeg), .int (nI 1), .int q15, .int q16.1]) (st' := [.int q16.1, .ref 3]) (h' := zHp (zup q16.2 1 0 (nI 0)) t) rfl ?_
            obtain ⟨q17, hq, hF⟩ := zbd_ok hF
            refine zX_inv (av := [.ref 3, .int q16.1]) (st := []) (h' := zHp q17 t) rfl rfl rfl rfl rfl rfl (zcall_le (t_X3_finish M _ _ _ _ hq) (by decide)) ?_
            refine zX_go (c := 1) (pc' := 149) (lv' := [.ref 0, .int x1, .int x2, .int (s 13 x1.toNatClampNeg), .int (nI 1), .int q15, .int q16.1]) (st' := [.int q16.1]) (h' := zHp q17 t) rfl ?_
            obtain rfl := Option.some.inj hF
            exact zX_reti rfl
        · refine zX_go (c := 4) (pc' := 70) (lv' := [.ref 0, .int x1, .int x2, .int (s 13 x1.toNatClampNeg), .int (nI 1), .retAddr 0, .retAddr 0]) (st' := [.int (s 13 x1.toNatClampNeg), .int x2, .ref 3]) (h' := zHp s t) rfl ?_
          obtain ⟨q18, hq, hF⟩ := zbd_ok hF
          refine zX_inv (av := [.ref 3, .int x2, .int (s 13 x1.toNatClampNeg)]) (st := []) (h' := zHp s t) rfl rfl rfl rfl rfl rfl (zcall_le (t_X3_isRowOf M _ _ _ _ _ hq) (by decide)) ?_
          refine zX_go (c := 4) (pc' := if (nI 1) = 0 then 92 else 103) (lv' := [.ref 0, .int x1, .int x2, .int (s 13 x1.toNatClampNeg), .int (nI 1), .int q18, .retAddr 0]) (st' := []) (h' := zHp s t) rfl ?_
          rw [if_neg (show ¬ ((nI 1) = 0) by decide)]
          refine zX_go (c := 2) (pc' := if (nI 1) = 0 then 120 else 108) (lv' := [.ref 0, .int x1, .int x2, .int (s 13 x1.toNatClampNeg), .int (nI 1), .int q18, .retAddr 0]) (st' := []) (h' := zHp s t) rfl ?_
          rw [if_neg (show ¬ ((nI 1) = 0) by decide)]
          refine zX_go (c := 4) (pc' := 114) (lv' := [.ref 0, .int x1, .int x2, .int (s 13 x1.toNatClampNeg), .int (nI 1), .int q18, .retAddr 0]) (st' := [.int x2, .int (s 13 x1.toNatClampNeg), .ref 3]) (h' := zHp s t) rfl ?_
          obtain ⟨q19, hq, hF⟩ := zbd_ok hF
          refine zX_inv (av := [.ref 3, .int (s 13 x1.toNatClampNeg), .int x2]) (st := []) (h' := zHp q19.2 t) rfl rfl rfl rfl rfl rfl (zcall_le (t_X3_addRowOfOne M _ _ _ _ _ hq) (by decide)) ?_
          refine zX_go (c := 5) (pc' := if q19.1 = (-3) then 130 else 133) (lv' := [.ref 0, .int x1, .int x2, .int (s 13 x1.toNatClampNeg), .int (nI 1), .int q18, .int q19.1]) (st' := []) (h' := zHp q19.2 t) rfl ?_
          refine zX_ite hF (fun c0 hF => ?_) (fun c0 hF => ?_)
          · refine zX_go (c := 1) (pc' := 132) (lv' := [.ref 0, .int x1, .int x2, .int (s 13 x1.toNatClampNeg), .int (nI 1), .int q18, .int q19.1]) (st' := [.int (-3)]) (h' := zHp q19.2 t) rfl ?_
            obtain rfl := Option.some.inj hF
            exact zX_reti rfl
          · refine zX_go (c := 2) (pc' := 135) (lv' := [.ref 0, .int x1, .int x2, .int (s 13 x1.toNatClampNeg), .int (nI 1), .int q18, .int q19.1]) (st' := [.int (nI 0), .ref 0]) (h' := zHp q19.2 t) rfl ?_
            refine zX_pfi (h' := zHp (zup q19.2 1 0 (nI 0)) t) rfl rfl rfl rfl (zst_0_6 _ _ _) ?_
            refine zX_go (c := 3) (pc' := 144) (lv' := [.ref 0, .int x1, .int x2, .int (s 13 x1.toNatClampNeg), .int (nI 1), .int q18, .int q19.1]) (st' := [.int q19.1, .ref 3]) (h' := zHp (zup q19.2 1 0 (nI 0)) t) rfl ?_
            obtain ⟨q20, hq, hF⟩ := zbd_ok hF
            refine zX_inv (av := [.ref 3, .int q19.1]) (st := []) (h' := zHp q20 t) rfl rfl rfl rfl rfl rfl (zcall_le (t_X3_finish M _ _ _ _ hq) (by decide)) ?_
            refine zX_go (c := 1) (pc' := 149) (lv' := [.ref 0, .int x1, .int x2, .int (s 13 x1.toNatClampNeg), .int (nI 1), .int q18, .int q19.1]) (st' := [.int q19.1]) (h' := zHp q20 t) rfl ?_
            obtain rfl := Option.some.inj hF
            exact zX_reti rfl
def f_X5_fallback (M : Nat) (s : zS) (x1 x2 x3 : Int32) : Option (Int32 × zS) :=
  zbd (f_X0_slotOf M s x1 x2) (fun q1 =>
   if q1 = (-1) then
    some ((-2), s)
   else
    zbd (f_X5_isValueOrNone M s x3) (fun q2 =>
     if q2 = 0 then
      some ((-2), s)
     else
      zbd (f_X0_isFixed M s x1) (fun q3 =>
       if q3 = 0 then
        if x3 = (-1) then
         zbd (f_X5_takeFor M s q1 x3) (fun q4 =>
          if q4.1 < 0 then
           some (q4.1, q4.2)
          else
           zq (zin q1 60) <|
           some (nI 1, zup q4.2 15 q1.toNatClampNeg q4.1))
        else
         zq (zin x3 100) <|
         if (s 23 x3.toNatClampNeg) = 0 then
          zbd (g_X3_isWhole M 20 0 s x3 (nI 0)) (fun q5 =>
           if q5 = 0 then
            some ((-4), s)
           else
            zbd (f_X5_takeFor M s q1 x3) (fun q6 =>
             if q6.1 < 0 then
              some (q6.1, q6.2)
             else
              zq (zin q1 60) <|
              some (nI 1, zup q6.2 15 q1.toNatClampNeg q6.1)))
         else
          some ((-4), s)
       else
        some ((-4), s))))
set_option maxRecDepth 100000 in
set_option maxHeartbeats 4000000 in
theorem t_X5_fallback {L : Nat} {xs : Nat → Int32} (M : Nat) (s t : zS) (x1 x2 x3 : Int32) (R : Int32 × zS) (hF : f_X5_fallback M s x1 x2 x3 = some R) : zcall (ztb L xs) 23 55 [.ref 0, .int x1, .int x2, .int x3] (zHp s t) = some (some (.int R.1), zHp R.2 t) := by
  unfold f_X5_fallback at hF
  refine zcall_X (d := 22) (e := zm_X5_fallback) rfl rfl ?_
  show zX (ztb L xs) (zcall (ztb L xs) 22) 5 1 zk_X5_fallback 0 [.ref 0, .int x1, .int x2, .int x3, .retAddr 0, .retAddr 0] [] (zHp s t) _
  refine zX_go (c := 4) (pc' := 6) (lv' := [.ref 0, .int x1, .int x2, .int x3, .retAddr 0, .retAddr 0]) (st' := [.int x2, .int x1, .ref 1]) (h' := zHp s t) rfl ?_
  obtain ⟨q1, hq, hF⟩ := zbd_ok hF
  refine zX_inv (av := [.ref 1, .int x1, .int x2]) (st := []) (h' := zHp s t) rfl rfl rfl rfl rfl rfl (zcall_le (t_X0_slotOf M _ _ _ _ _ hq) (by decide)) ?_
  refine zX_go (c := 4) (pc' := if q1 = (-1) then 25 else 17) (lv' := [.ref 0, .int x1, .int x2, .int x3, .int q1, .retAddr 0]) (st' := []) (h' := zHp s t) rfl ?_
  refine zX_ite hF (fun c0 hF => ?_) (fun c0 hF => ?_)
  · refine zX_go (c := 1) (pc' := 27) (lv' := [.ref 0, .int x1, .int x2, .int x3, .int q1, .retAddr 0]) (st' := [.int (-2)]) (h' := zHp s t) rfl ?_
    obtain rfl := Option.some.inj hF
    exact zX_reti rfl
  · refine zX_go (c := 2) (pc' := 19) (lv' := [.ref 0, .int x1, .int x2, .int x3, .int q1, .retAddr 0]) (st' := [.int x3, .ref 0]) (h' := zHp s t) rfl ?_
    obtain ⟨q2, hq, hF⟩ := zbd_ok hF
    refine zX_inv (av := [.ref 0, .int x3]) (st := []) (h' := zHp s t) rfl rfl rfl rfl rfl rfl (zcall_le (t_X5_isValueOrNone M _ _ _ _ hq) (by decide)) ?_
    refine zX_go (c := 1) (pc' := if q2 = 0 then 25 else 28) (lv' := [.ref 0, .int x1, .int x2, .int x3, .int q1, .retAddr 0]) (st' := []) (h' := zHp s t) rfl ?_
    refine zX_ite hF (fun c0 hF => ?_) (fun c0 hF => ?_)
    · refine zX_go (c := 1) (pc' := 27) (lv' := [.ref 0, .int x1, .int x2, .int x3, .int q1, .retAddr 0]) (st' := [.int (-2)]) (h' := zHp s t) rfl ?_
      obtain rfl := Option.some.inj hF
      exact zX_reti rfl
    · refine zX_go (c := 3) (pc' := 33) (lv' := [.ref 0, .int x1, .int x2, .int x3, .int q1, .retAddr 0]) (st' := [.int x1, .ref 1]) (h' := zHp s t) rfl ?_
      obtain ⟨q3, hq, hF⟩ := zbd_ok hF
      refine zX_inv (av := [.ref 1, .int x1]) (st := []) (h' := zHp s t) rfl rfl rfl rfl rfl rfl (zcall_le (t_X0_isFixed M _ _ _ _ hq) (by decide)) ?_
      refine zX_go (c := 1) (pc' := if q3 = 0 then 42 else 39) (lv' := [.ref 0, .int x1, .int x2, .int x3, .int q1, .retAddr 0]) (st' := []) (h' := zHp s t) rfl ?_
      refine zX_ite hF (fun c0 hF => ?_) (fun c0 hF => ?_)
      · refine zX_go (c := 3) (pc' := if x3 = (-1) then 74 else 47) (lv' := [.ref 0, .int x1, .int x2, .int x3, .int q1, .retAddr 0]) (st' := []) (h' := zHp s t) rfl ?_
        refine zX_ite hF (fun c0 hF => ?_) (fun c0 hF => ?_)
        · refine zX_go (c := 3) (pc' := 78) (lv' := [.ref 0, .int x1, .int x2, .int x3, .int q1, .retAddr 0]) (st' := [.int x3, .int q1, .ref 0]) (h' := zHp s t) rfl ?_
          obtain ⟨q4, hq, hF⟩ := zbd_ok hF
          refine zX_inv (av := [.ref 0, .int q1, .int x3]) (st := []) (h' := zHp q4.2 t) rfl rfl rfl rfl rfl rfl (zcall_le (t_X5_takeFor M _ _ _ _ _ hq) (by decide)) ?_
          refine zX_go (c := 3) (pc' := if q4.1 < 0 then 88 else 91) (lv' := [.ref 0, .int x1, .int x2, .int x3, .int q1, .int q4.1]) (st' := []) (h' := zHp q4.2 t) rfl ?_
          refine zX_ite hF (fun c0 hF => ?_) (fun c0 hF => ?_)
          · refine zX_go (c := 1) (pc' := 90) (lv' := [.ref 0, .int x1, .int x2, .int x3, .int q1, .int q4.1]) (st' := [.int q4.1]) (h' := zHp q4.2 t) rfl ?_
            obtain rfl := Option.some.inj hF
            exact zX_reti rfl
          · refine zX_go (c := 5) (pc' := 102) (lv' := [.ref 0, .int x1, .int x2, .int x3, .int q1, .int q4.1]) (st' := [.int q4.1, .int q1, .ref 20]) (h' := zHp q4.2 t) rfl ?_
            refine zX_ias (n := 60) (h' := zHp (zup q4.2 15 q1.toNatClampNeg q4.1) t) rfl rfl (zst_20 _ _ _ _) hF (fun hF => ?_)
            refine zX_go (c := 1) (pc' := 104) (lv' := [.ref 0, .int x1, .int x2, .int x3, .int q1, .int q4.1]) (st' := [.int (nI 1)]) (h' := zHp (zup q4.2 15 q1.toNatClampNeg q4.1) t) rfl ?_
            obtain rfl := Option.some.inj hF
            exact zX_reti rfl
        · refine zX_go (c := 4) (pc' := 55) (lv' := [.ref 0, .int x1, .int x2, .int x3, .int q1, .retAddr 0]) (st' := [.int x3, .ref 26]) (h' := zHp s t) rfl ?_
          refine zX_bal (n := 100) rfl rfl hF (fun hF => ?_)
          refine zX_go (c := 1) (pc' := if (s 23 x3.toNatClampNeg) = 0 then 59 else 71) (lv' := [.ref 0, .int x1, .int x2, .int x3, .int q1, .retAddr 0]) (st' := []) (h' := zHp s t) rfl ?_
          refine zX_ite hF (fun c0 hF => ?_) (fun c0 hF => ?_)
          · refine zX_go (c := 4) (pc' := 65) (lv' := [.ref 0, .int x1, .int x2, .int x3, .int q1, .retAddr 0]) (st' := [.int (nI 0), .int x3, .ref 3]) (h' := zHp s t) rfl ?_
            obtain ⟨q5, hq, hF⟩ := zbd_ok hF
            refine zX_inv (av := [.ref 3, .int x3, .int (nI 0)]) (st := []) (h' := zHp s t) rfl rfl rfl rfl rfl rfl (zcall_le (t_X3_isWhole M 20 _ _ _ _ _ hq) (by decide)) ?_
            refine zX_go (c := 1) (pc' := if q5 = 0 then 71 else 74) (lv' := [.ref 0, .int x1, .int x2, .int x3, .int q1, .retAddr 0]) (st' := []) (h' := zHp s t) rfl ?_
            refine zX_ite hF (fun c0 hF => ?_) (fun c0 hF => ?_)
            · refine zX_go (c := 1) (pc' := 73) (lv' := [.ref 0, .int x1, .int x2, .int x3, .int q1, .retAddr 0]) (st' := [.int (-4)]) (h' := zHp s t) rfl ?_
              obtain rfl := Option.some.inj hF
              exact zX_reti rfl
            · refine zX_go (c := 3) (pc' := 78) (lv' := [.ref 0, .int x1, .int x2, .int x3, .int q1, .retAddr 0]) (st' := [.int x3, .int q1, .ref 0]) (h' := zHp s t) rfl ?_
              obtain ⟨q6, hq, hF⟩ := zbd_ok hF
              refine zX_inv (av := [.ref 0, .int q1, .int x3]) (st := []) (h' := zHp q6.2 t) rfl rfl rfl rfl rfl rfl (zcall_le (t_X5_takeFor M _ _ _ _ _ hq) (by decide)) ?_
              refine zX_go (c := 3) (pc' := if q6.1 < 0 then 88 else 91) (lv' := [.ref 0, .int x1, .int x2, .int x3, .int q1, .int q6.1]) (st' := []) (h' := zHp q6.2 t) rfl ?_
              refine zX_ite hF (fun c0 hF => ?_) (fun c0 hF => ?_)
              · refine zX_go (c := 1) (pc' := 90) (lv' := [.ref 0, .int x1, .int x2, .int x3, .int q1, .int q6.1]) (st' := [.int q6.1]) (h' := zHp q6.2 t) rfl ?_
                obtain rfl := Option.some.inj hF
                exact zX_reti rfl
              · refine zX_go (c := 5) (pc' := 102) (lv' := [.ref 0, .int x1, .int x2, .int x3, .int q1, .int q6.1]) (st' := [.int q6.1, .int q1, .ref 20]) (h' := zHp q6.2 t) rfl ?_
                refine zX_ias (n := 60) (h' := zHp (zup q6.2 15 q1.toNatClampNeg q6.1) t) rfl rfl (zst_20 _ _ _ _) hF (fun hF => ?_)
                refine zX_go (c := 1) (pc' := 104) (lv' := [.ref 0, .int x1, .int x2, .int x3, .int q1, .int q6.1]) (st' := [.int (nI 1)]) (h' := zHp (zup q6.2 15 q1.toNatClampNeg q6.1) t) rfl ?_
                obtain rfl := Option.some.inj hF
                exact zX_reti rfl
          · refine zX_go (c := 1) (pc' := 73) (lv' := [.ref 0, .int x1, .int x2, .int x3, .int q1, .retAddr 0]) (st' := [.int (-4)]) (h' := zHp s t) rfl ?_
            obtain rfl := Option.some.inj hF
            exact zX_reti rfl
      · refine zX_go (c := 1) (pc' := 41) (lv' := [.ref 0, .int x1, .int x2, .int x3, .int q1, .retAddr 0]) (st' := [.int (-4)]) (h' := zHp s t) rfl ?_
        obtain rfl := Option.some.inj hF
        exact zX_reti rfl
def f_X5_container (M : Nat) (s : zS) (x1 x2 : Int32) : Option (Int32 × zS) :=
  zbd (f_X0_has M s x1) (fun q1 =>
   if q1 = 0 then
    some ((-2), s)
   else
    zbd (f_X0_has M s x2) (fun q2 =>
     if q2 = 0 then
      some ((-2), s)
     else
      zq (zin x1 12) <|
      if (s 8 x1.toNatClampNeg) = (-1) then
       zq (zin x1 12) <|
       if (s 11 x1.toNatClampNeg) = 0 then
        zbd (f_X0_canContain M s x2 x1) (fun q3 =>
         if q3 = 0 then
          some (nI 0, s)
         else
          zq (zin x1 12) <|
          zq (zin x2 12) <|
          some (nI 1, zup (zup s 8 x1.toNatClampNeg x2) 9 x2.toNatClampNeg x1))
       else
        some ((-4), s)
      else
       some ((-4), s)))
set_option maxRecDepth 100000 in
set_option maxHeartbeats 4000000 in
theorem t_X5_container {L : Nat} {xs : Nat → Int32} (M : Nat) (s t : zS) (x1 x2 : Int32) (R : Int32 × zS) (hF : f_X5_container M s x1 x2 = some R) : zcall (ztb L xs) 5 56 [.ref 0, .int x1, .int x2] (zHp s t) = some (some (.int R.1), zHp R.2 t) := by
  unfold f_X5_container at hF
  refine zcall_X (d := 4) (e := zm_X5_container) rfl rfl ?_
  show zX (ztb L xs) (zcall (ztb L xs) 4) 5 1 zk_X5_container 0 [.ref 0, .int x1, .int x2] [] (zHp s t) _
  refine zX_go (c := 3) (pc' := 5) (lv' := [.ref 0, .int x1, .int x2]) (st' := [.int x1, .ref 1]) (h' := zHp s t) rfl ?_
  obtain ⟨q1, hq, hF⟩ := zbd_ok hF
  refine zX_inv (av := [.ref 1, .int x1]) (st := []) (h' := zHp s t) rfl rfl rfl rfl rfl rfl (zcall_le (t_X0_has M _ _ _ _ hq) (by decide)) ?_
  refine zX_go (c := 1) (pc' := if q1 = 0 then 22 else 11) (lv' := [.ref 0, .int x1, .int x2]) (st' := []) (h' := zHp s t) rfl ?_
  refine zX_ite hF (fun c0 hF => ?_) (fun c0 hF => ?_)
  · refine zX_go (c := 1) (pc' := 24) (lv' := [.ref 0, .int x1, .int x2]) (st' := [.int (-2)]) (h' := zHp s t) rfl ?_
    obtain rfl := Option.some.inj hF
    exact zX_reti rfl
  · refine zX_go (c := 3) (pc' := 16) (lv' := [.ref 0, .int x1, .int x2]) (st' := [.int x2, .ref 1]) (h' := zHp s t) rfl ?_
    obtain ⟨q2, hq, hF⟩ := zbd_ok hF
    refine zX_inv (av := [.ref 1, .int x2]) (st := []) (h' := zHp s t) rfl rfl rfl rfl rfl rfl (zcall_le (t_X0_has M _ _ _ _ hq) (by decide)) ?_
    refine zX_go (c := 1) (pc' := if q2 = 0 then 22 else 25) (lv' := [.ref 0, .int x1, .int x2]) (st' := []) (h' := zHp s t) rfl ?_
    refine zX_ite hF (fun c0 hF => ?_) (fun c0 hF => ?_)
    · refine zX_go (c := 1) (pc' := 24) (lv' := [.ref 0, .int x1, .int x2]) (st' := [.int (-2)]) (h' := zHp s t) rfl ?_
      obtain rfl := Option.some.inj hF
      exact zX_reti rfl
    · refine zX_go (c := 4) (pc' := 33) (lv' := [.ref 0, .int x1, .int x2]) (st' := [.int x1, .ref 13]) (h' := zHp s t) rfl ?_
      refine zX_ial (n := 12) rfl rfl hF (fun hF => ?_)
      refine zX_go (c := 2) (pc' := if (s 8 x1.toNatClampNeg) = (-1) then 38 else 50) (lv' := [.ref 0, .int x1, .int x2]) (st' := []) (h' := zHp s t) rfl ?_
      refine zX_ite hF (fun c0 hF => ?_) (fun c0 hF => ?_)
      · refine zX_go (c := 4) (pc' := 46) (lv' := [.ref 0, .int x1, .int x2]) (st' := [.int x1, .ref 16]) (h' := zHp s t) rfl ?_
        refine zX_bal (n := 12) rfl rfl hF (fun hF => ?_)
        refine zX_go (c := 1) (pc' := if (s 11 x1.toNatClampNeg) = 0 then 53 else 50) (lv' := [.ref 0, .int x1, .int x2]) (st' := []) (h' := zHp s t) rfl ?_
        refine zX_ite hF (fun c0 hF => ?_) (fun c0 hF => ?_)
        · refine zX_go (c := 4) (pc' := 59) (lv' := [.ref 0, .int x1, .int x2]) (st' := [.int x1, .int x2, .ref 1]) (h' := zHp s t) rfl ?_
          obtain ⟨q3, hq, hF⟩ := zbd_ok hF
          refine zX_inv (av := [.ref 1, .int x2, .int x1]) (st := []) (h' := zHp s t) rfl rfl rfl rfl rfl rfl (zcall_le (t_X0_canContain M _ _ _ _ _ hq) (by decide)) ?_
          refine zX_go (c := 1) (pc' := if q3 = 0 then 65 else 67) (lv' := [.ref 0, .int x1, .int x2]) (st' := []) (h' := zHp s t) rfl ?_
          refine zX_ite hF (fun c0 hF => ?_) (fun c0 hF => ?_)
          · refine zX_go (c := 1) (pc' := 66) (lv' := [.ref 0, .int x1, .int x2]) (st' := [.int (nI 0)]) (h' := zHp s t) rfl ?_
            obtain rfl := Option.some.inj hF
            exact zX_reti rfl
          · refine zX_go (c := 5) (pc' := 76) (lv' := [.ref 0, .int x1, .int x2]) (st' := [.int x2, .int x1, .ref 13]) (h' := zHp s t) rfl ?_
            refine zX_ias (n := 12) (h' := zHp (zup s 8 x1.toNatClampNeg x2) t) rfl rfl (zst_13 _ _ _ _) hF (fun hF => ?_)
            refine zX_go (c := 5) (pc' := 86) (lv' := [.ref 0, .int x1, .int x2]) (st' := [.int x1, .int x2, .ref 14]) (h' := zHp (zup s 8 x1.toNatClampNeg x2) t) rfl ?_
            refine zX_ias (n := 12) (h' := zHp (zup (zup s 8 x1.toNatClampNeg x2) 9 x2.toNatClampNeg x1) t) rfl rfl (zst_14 _ _ _ _) hF (fun hF => ?_)
            refine zX_go (c := 1) (pc' := 88) (lv' := [.ref 0, .int x1, .int x2]) (st' := [.int (nI 1)]) (h' := zHp (zup (zup s 8 x1.toNatClampNeg x2) 9 x2.toNatClampNeg x1) t) rfl ?_
            obtain rfl := Option.some.inj hF
            exact zX_reti rfl
        · refine zX_go (c := 1) (pc' := 52) (lv' := [.ref 0, .int x1, .int x2]) (st' := [.int (-4)]) (h' := zHp s t) rfl ?_
          obtain rfl := Option.some.inj hF
          exact zX_reti rfl
      · refine zX_go (c := 1) (pc' := 52) (lv' := [.ref 0, .int x1, .int x2]) (st' := [.int (-4)]) (h' := zHp s t) rfl ?_
        obtain rfl := Option.some.inj hF
        exact zX_reti rfl
def f_X5_place (M : Nat) (s : zS) (x1 x2 : Int32) : Option (Int32 × zS) :=
  zbd (f_X1_fits M s x1 x2) (fun q1 =>
   if q1 = 0 then
    some ((-2), s)
   else
    zbd (f_X1_add M s x1 x2) (fun q2 =>
     some (q2.1, q2.2)))
set_option maxRecDepth 100000 in
set_option maxHeartbeats 4000000 in
theorem t_X5_place {L : Nat} {xs : Nat → Int32} (M : Nat) (s t : zS) (x1 x2 : Int32) (R : Int32 × zS) (hF : f_X5_place M s x1 x2 = some R) : zcall (ztb L xs) 4 57 [.ref 0, .int x1, .int x2] (zHp s t) = some (some (.int R.1), zHp R.2 t) := by
  unfold f_X5_place at hF
  refine zcall_X (d := 3) (e := zm_X5_place) rfl rfl ?_
  show zX (ztb L xs) (zcall (ztb L xs) 3) 5 1 zk_X5_place 0 [.ref 0, .int x1, .int x2] [] (zHp s t) _
  refine zX_go (c := 4) (pc' := 6) (lv' := [.ref 0, .int x1, .int x2]) (st' := [.int x2, .int x1, .ref 2]) (h' := zHp s t) rfl ?_
  obtain ⟨q1, hq, hF⟩ := zbd_ok hF
  refine zX_inv (av := [.ref 2, .int x1, .int x2]) (st := []) (h' := zHp s t) rfl rfl rfl rfl rfl rfl (zcall_le (t_X1_fits M _ _ _ _ _ hq) (by decide)) ?_
  refine zX_go (c := 1) (pc' := if q1 = 0 then 24 else 12) (lv' := [.ref 0, .int x1, .int x2]) (st' := []) (h' := zHp s t) rfl ?_
  refine zX_ite hF (fun c0 hF => ?_) (fun c0 hF => ?_)
  · refine zX_go (c := 1) (pc' := 26) (lv' := [.ref 0, .int x1, .int x2]) (st' := [.int (-2)]) (h' := zHp s t) rfl ?_
    obtain rfl := Option.some.inj hF
    exact zX_reti rfl
  · refine zX_go (c := 4) (pc' := 18) (lv' := [.ref 0, .int x1, .int x2]) (st' := [.int x2, .int x1, .ref 2]) (h' := zHp s t) rfl ?_
    obtain ⟨q2, hq, hF⟩ := zbd_ok hF
    refine zX_inv (av := [.ref 2, .int x1, .int x2]) (st := []) (h' := zHp q2.2 t) rfl rfl rfl rfl rfl rfl (zcall_le (t_X1_add M _ _ _ _ _ hq) (by decide)) ?_
    refine zX_go (c := 1) (pc' := 26) (lv' := [.ref 0, .int x1, .int x2]) (st' := [.int q2.1]) (h' := zHp q2.2 t) rfl ?_
    obtain rfl := Option.some.inj hF
    exact zX_reti rfl
def f_X5_isSimple (M : Nat) (s : zS) (x1 x2 : Int32) : Option (Int32) :=
  if x1 = (nI 0) then
   some (nI 1)
  else
   if x1 = (nI 1) then
    if x2 < 0 then
     some (nI 0)
    else
     if (nI 99) < x2 then
      some (nI 0)
     else
      some (nI 1)
   else
    if x1 = (nI 2) then
     if x2 < 0 then
      some (nI 0)
     else
      if (nI 4) < x2 then
       some (nI 0)
      else
       some (nI 1)
    else
     if x1 = (nI 3) then
      zbd (f_X1_isType M s x2) (fun q1 =>
       zq (q1 &&& 1 == q1) <|
       some q1)
     else
      some (nI 0)
set_option maxRecDepth 100000 in
set_option maxHeartbeats 4000000 in
theorem t_X5_isSimple {L : Nat} {xs : Nat → Int32} (M : Nat) (s t : zS) (x1 x2 : Int32) (R : Int32) (hF : f_X5_isSimple M s x1 x2 = some R) : zcall (ztb L xs) 3 79 [.ref 0, .int x1, .int x2] (zHp s t) = some (some (.int R), zHp s t) := by
  unfold f_X5_isSimple at hF
  refine zcall_X (d := 2) (e := zm_X5_isSimple) rfl rfl ?_
  show zX (ztb L xs) (zcall (ztb L xs) 2) 5 2 zk_X5_isSimple 0 [.ref 0, .int x1, .int x2] [] (zHp s t) _
  refine zX_go (c := 2) (pc' := if x1 = (nI 0) then 32 else if x1 = (nI 1) then 34 else if x1 = (nI 2) then 50 else if x1 = (nI 3) then 65 else 74) (lv' := [.ref 0, .int x1, .int x2]) (st' := []) (h' := zHp s t) rfl ?_
  refine zX_ite hF (fun c0 hF => ?_) (fun c0 hF => ?_)
  · refine zX_go (c := 1) (pc' := 33) (lv' := [.ref 0, .int x1, .int x2]) (st' := [.int (nI 1)]) (h' := zHp s t) rfl ?_
    obtain rfl := Option.some.inj hF
    exact zX_retz rfl (by decide)
  · refine zX_ite hF (fun c0 hF => ?_) (fun c0 hF => ?_)
    · refine zX_go (c := 2) (pc' := if x2 < 0 then 48 else 38) (lv' := [.ref 0, .int x1, .int x2]) (st' := []) (h' := zHp s t) rfl ?_
      refine zX_ite hF (fun c0 hF => ?_) (fun c0 hF => ?_)
      · refine zX_go (c := 1) (pc' := 49) (lv' := [.ref 0, .int x1, .int x2]) (st' := [.int (nI 0)]) (h' := zHp s t) rfl ?_
        obtain rfl := Option.some.inj hF
        exact zX_retz rfl (by decide)
      · refine zX_go (c := 3) (pc' := if (nI 99) < x2 then 48 else 44) (lv' := [.ref 0, .int x1, .int x2]) (st' := []) (h' := zHp s t) rfl ?_
        refine zX_ite hF (fun c0 hF => ?_) (fun c0 hF => ?_)
        · refine zX_go (c := 1) (pc' := 49) (lv' := [.ref 0, .int x1, .int x2]) (st' := [.int (nI 0)]) (h' := zHp s t) rfl ?_
          obtain rfl := Option.some.inj hF
          exact zX_retz rfl (by decide)
        · refine zX_go (c := 2) (pc' := 49) (lv' := [.ref 0, .int x1, .int x2]) (st' := [.int (nI 1)]) (h' := zHp s t) rfl ?_
          obtain rfl := Option.some.inj hF
          exact zX_retz rfl (by decide)
    · refine zX_ite hF (fun c0 hF => ?_) (fun c0 hF => ?_)
      · refine zX_go (c := 2) (pc' := if x2 < 0 then 63 else 54) (lv' := [.ref 0, .int x1, .int x2]) (st' := []) (h' := zHp s t) rfl ?_
        refine zX_ite hF (fun c0 hF => ?_) (fun c0 hF => ?_)
        · refine zX_go (c := 1) (pc' := 64) (lv' := [.ref 0, .int x1, .int x2]) (st' := [.int (nI 0)]) (h' := zHp s t) rfl ?_
          obtain rfl := Option.some.inj hF
          exact zX_retz rfl (by decide)
        · refine zX_go (c := 3) (pc' := if (nI 4) < x2 then 63 else 59) (lv' := [.ref 0, .int x1, .int x2]) (st' := []) (h' := zHp s t) rfl ?_
          refine zX_ite hF (fun c0 hF => ?_) (fun c0 hF => ?_)
          · refine zX_go (c := 1) (pc' := 64) (lv' := [.ref 0, .int x1, .int x2]) (st' := [.int (nI 0)]) (h' := zHp s t) rfl ?_
            obtain rfl := Option.some.inj hF
            exact zX_retz rfl (by decide)
          · refine zX_go (c := 2) (pc' := 64) (lv' := [.ref 0, .int x1, .int x2]) (st' := [.int (nI 1)]) (h' := zHp s t) rfl ?_
            obtain rfl := Option.some.inj hF
            exact zX_retz rfl (by decide)
      · refine zX_ite hF (fun c0 hF => ?_) (fun c0 hF => ?_)
        · refine zX_go (c := 3) (pc' := 70) (lv' := [.ref 0, .int x1, .int x2]) (st' := [.int x2, .ref 2]) (h' := zHp s t) rfl ?_
          obtain ⟨q1, hq, hF⟩ := zbd_ok hF
          refine zX_inv (av := [.ref 2, .int x2]) (st := []) (h' := zHp s t) rfl rfl rfl rfl rfl rfl (zcall_le (t_X1_isType M _ _ _ _ hq) (by decide)) ?_
          obtain ⟨hb, hF⟩ := zq_ok hF
          obtain rfl := Option.some.inj hF
          exact zX_retz rfl (by simpa using hb)
        · refine zX_go (c := 1) (pc' := 75) (lv' := [.ref 0, .int x1, .int x2]) (st' := [.int (nI 0)]) (h' := zHp s t) rfl ?_
          obtain rfl := Option.some.inj hF
          exact zX_retz rfl (by decide)
def f_X5_value (M : Nat) (s : zS) (x1 x2 : Int32) : Option (Int32 × zS) :=
  zbd (f_X5_isSimple M s x1 x2) (fun q1 =>
   if q1 = 0 then
    some ((-2), s)
   else
    zbd (f_X3_add M s (nI 0) x1 x2) (fun q2 =>
     some (q2.1, q2.2)))
set_option maxRecDepth 100000 in
set_option maxHeartbeats 4000000 in
theorem t_X5_value {L : Nat} {xs : Nat → Int32} (M : Nat) (s t : zS) (x1 x2 : Int32) (R : Int32 × zS) (hF : f_X5_value M s x1 x2 = some R) : zcall (ztb L xs) 4 58 [.ref 0, .int x1, .int x2] (zHp s t) = some (some (.int R.1), zHp R.2 t) := by
  unfold f_X5_value at hF
  refine zcall_X (d := 3) (e := zm_X5_value) rfl rfl ?_
  show zX (ztb L xs) (zcall (ztb L xs) 3) 5 1 zk_X5_value 0 [.ref 0, .int x1, .int x2] [] (zHp s t) _
  refine zX_go (c := 3) (pc' := 3) (lv' := [.ref 0, .int x1, .int x2]) (st' := [.int x2, .int x1, .ref 0]) (h' := zHp s t) rfl ?_
  obtain ⟨q1, hq, hF⟩ := zbd_ok hF
  refine zX_inv (av := [.ref 0, .int x1, .int x2]) (st := []) (h' := zHp s t) rfl rfl rfl rfl rfl rfl (zcall_le (t_X5_isSimple M _ _ _ _ _ hq) (by decide)) ?_
  refine zX_go (c := 1) (pc' := if q1 = 0 then 22 else 9) (lv' := [.ref 0, .int x1, .int x2]) (st' := []) (h' := zHp s t) rfl ?_
  refine zX_ite hF (fun c0 hF => ?_) (fun c0 hF => ?_)
  · refine zX_go (c := 1) (pc' := 24) (lv' := [.ref 0, .int x1, .int x2]) (st' := [.int (-2)]) (h' := zHp s t) rfl ?_
    obtain rfl := Option.some.inj hF
    exact zX_reti rfl
  · refine zX_go (c := 5) (pc' := 16) (lv' := [.ref 0, .int x1, .int x2]) (st' := [.int x2, .int x1, .int (nI 0), .ref 3]) (h' := zHp s t) rfl ?_
    obtain ⟨q2, hq, hF⟩ := zbd_ok hF
    refine zX_inv (av := [.ref 3, .int (nI 0), .int x1, .int x2]) (st := []) (h' := zHp q2.2 t) rfl rfl rfl rfl rfl rfl (zcall_le (t_X3_add M _ _ _ _ _ _ hq) (by decide)) ?_
    refine zX_go (c := 1) (pc' := 24) (lv' := [.ref 0, .int x1, .int x2]) (st' := [.int q2.1]) (h' := zHp q2.2 t) rfl ?_
    obtain rfl := Option.some.inj hF
    exact zX_reti rfl
def f_X5_row (M : Nat) (s : zS) (x1 : Int32) : Option (Int32 × zS) :=
  zbd (f_X0_hasKind M s x1) (fun q1 =>
   if q1 = 0 then
    some ((-2), s)
   else
    zbd (f_X3_add M s (nI 1) x1 (nI 0)) (fun q2 =>
     some (q2.1, q2.2)))
set_option maxRecDepth 100000 in
set_option maxHeartbeats 4000000 in
theorem t_X5_row {L : Nat} {xs : Nat → Int32} (M : Nat) (s t : zS) (x1 : Int32) (R : Int32 × zS) (hF : f_X5_row M s x1 = some R) : zcall (ztb L xs) 3 59 [.ref 0, .int x1] (zHp s t) = some (some (.int R.1), zHp R.2 t) := by
  unfold f_X5_row at hF
  refine zcall_X (d := 2) (e := zm_X5_row) rfl rfl ?_
  show zX (ztb L xs) (zcall (ztb L xs) 2) 5 1 zk_X5_row 0 [.ref 0, .int x1] [] (zHp s t) _
  refine zX_go (c := 3) (pc' := 5) (lv' := [.ref 0, .int x1]) (st' := [.int x1, .ref 1]) (h' := zHp s t) rfl ?_
  obtain ⟨q1, hq, hF⟩ := zbd_ok hF
  refine zX_inv (av := [.ref 1, .int x1]) (st := []) (h' := zHp s t) rfl rfl rfl rfl rfl rfl (zcall_le (t_X0_hasKind M _ _ _ _ hq) (by decide)) ?_
  refine zX_go (c := 1) (pc' := if q1 = 0 then 24 else 11) (lv' := [.ref 0, .int x1]) (st' := []) (h' := zHp s t) rfl ?_
  refine zX_ite hF (fun c0 hF => ?_) (fun c0 hF => ?_)
  · refine zX_go (c := 1) (pc' := 26) (lv' := [.ref 0, .int x1]) (st' := [.int (-2)]) (h' := zHp s t) rfl ?_
    obtain rfl := Option.some.inj hF
    exact zX_reti rfl
  · refine zX_go (c := 5) (pc' := 18) (lv' := [.ref 0, .int x1]) (st' := [.int (nI 0), .int x1, .int (nI 1), .ref 3]) (h' := zHp s t) rfl ?_
    obtain ⟨q2, hq, hF⟩ := zbd_ok hF
    refine zX_inv (av := [.ref 3, .int (nI 1), .int x1, .int (nI 0)]) (st := []) (h' := zHp q2.2 t) rfl rfl rfl rfl rfl rfl (zcall_le (t_X3_add M _ _ _ _ _ _ hq) (by decide)) ?_
    refine zX_go (c := 1) (pc' := 26) (lv' := [.ref 0, .int x1]) (st' := [.int q2.1]) (h' := zHp q2.2 t) rfl ?_
    obtain rfl := Option.some.inj hF
    exact zX_reti rfl
def f_X5_isDoneOrSame (M : Nat) (s : zS) (x1 x2 : Int32) : Option (Int32) :=
  if x1 = (-1) then
   some (nI 0)
  else
   if x1 = x2 then
    some (nI 1)
   else
    zq (zin x1 100) <|
    if (s 23 x1.toNatClampNeg) = 0 then
     some (nI 0)
    else
     some (nI 1)
set_option maxRecDepth 100000 in
set_option maxHeartbeats 4000000 in
theorem t_X5_isDoneOrSame {L : Nat} {xs : Nat → Int32} (M : Nat) (s t : zS) (x1 x2 : Int32) (R : Int32) (hF : f_X5_isDoneOrSame M s x1 x2 = some R) : zcall (ztb L xs) 1 78 [.ref 0, .int x1, .int x2] (zHp s t) = some (some (.int R), zHp s t) := by
  unfold f_X5_isDoneOrSame at hF
  refine zcall_X (d := 0) (e := zm_X5_isDoneOrSame) rfl rfl ?_
  show zX (ztb L xs) (zcall (ztb L xs) 0) 5 2 zk_X5_isDoneOrSame 0 [.ref 0, .int x1, .int x2] [] (zHp s t) _
  refine zX_go (c := 3) (pc' := if x1 = (-1) then 26 else 5) (lv' := [.ref 0, .int x1, .int x2]) (st' := []) (h' := zHp s t) rfl ?_
  refine zX_ite hF (fun c0 hF => ?_) (fun c0 hF => ?_)
  · refine zX_go (c := 1) (pc' := 27) (lv' := [.ref 0, .int x1, .int x2]) (st' := [.int (nI 0)]) (h' := zHp s t) rfl ?_
    obtain rfl := Option.some.inj hF
    exact zX_retz rfl (by decide)
  · refine zX_go (c := 3) (pc' := if x1 = x2 then 22 else 10) (lv' := [.ref 0, .int x1, .int x2]) (st' := []) (h' := zHp s t) rfl ?_
    refine zX_ite hF (fun c0 hF => ?_) (fun c0 hF => ?_)
    · refine zX_go (c := 2) (pc' := 27) (lv' := [.ref 0, .int x1, .int x2]) (st' := [.int (nI 1)]) (h' := zHp s t) rfl ?_
      obtain rfl := Option.some.inj hF
      exact zX_retz rfl (by decide)
    · refine zX_go (c := 4) (pc' := 18) (lv' := [.ref 0, .int x1, .int x2]) (st' := [.int x1, .ref 26]) (h' := zHp s t) rfl ?_
      refine zX_bal (n := 100) rfl rfl hF (fun hF => ?_)
      refine zX_go (c := 1) (pc' := if (s 23 x1.toNatClampNeg) = 0 then 26 else 22) (lv' := [.ref 0, .int x1, .int x2]) (st' := []) (h' := zHp s t) rfl ?_
      refine zX_ite hF (fun c0 hF => ?_) (fun c0 hF => ?_)
      · refine zX_go (c := 1) (pc' := 27) (lv' := [.ref 0, .int x1, .int x2]) (st' := [.int (nI 0)]) (h' := zHp s t) rfl ?_
        obtain rfl := Option.some.inj hF
        exact zX_retz rfl (by decide)
      · refine zX_go (c := 2) (pc' := 27) (lv' := [.ref 0, .int x1, .int x2]) (st' := [.int (nI 1)]) (h' := zHp s t) rfl ?_
        obtain rfl := Option.some.inj hF
        exact zX_retz rfl (by decide)
def f_X5_push (M : Nat) (s : zS) (x1 x2 : Int32) : Option (Int32 × zS) :=
  zbd (f_X3_isSort M s x1 (nI 1)) (fun q1 =>
   if q1 = 0 then
    some ((-2), s)
   else
    zbd (f_X5_isValueOrNone M s x2) (fun q2 =>
     if q2 = 0 then
      some ((-2), s)
     else
      zq (zin x1 100) <|
      if (s 23 x1.toNatClampNeg) = 0 then
       zbd (f_X5_isDoneOrSame M s x2 x1) (fun q3 =>
        if q3 = 0 then
         zq (zin x1 100) <|
         if (s 22 x1.toNatClampNeg) < (nI 4) then
          if x2 = (-1) then
           zbd (f_X5_fail M s (nI 1)) (fun q4 =>
            some (q4.1, q4.2))
          else
           zq (zin x1 100) <|
           zbd (f_X3_isOfKind M s x2 (s 21 x1.toNatClampNeg)) (fun q5 =>
            if q5 = 0 then
             zbd (f_X5_fail M s (nI 3)) (fun q6 =>
              some (q6.1, q6.2))
            else
             zbd (f_X3_append M (zup s 1 0 (nI 0)) x1 x2) (fun q7 =>
              some (q7.1, q7.2)))
         else
          some ((-3), s)
        else
         some ((-4), s))
      else
       some ((-4), s)))
set_option maxRecDepth 100000 in
set_option maxHeartbeats 4000000 in
theorem t_X5_push {L : Nat} {xs : Nat → Int32} (M : Nat) (s t : zS) (x1 x2 : Int32) (R : Int32 × zS) (hF : f_X5_push M s x1 x2 = some R) : zcall (ztb L xs) 3 60 [.ref 0, .int x1, .int x2] (zHp s t) = some (some (.int R.1), zHp R.2 t) := by
  unfold f_X5_push at hF
  refine zcall_X (d := 2) (e := zm_X5_push) rfl rfl ?_
  show zX (ztb L xs) (zcall (ztb L xs) 2) 5 1 zk_X5_push 0 [.ref 0, .int x1, .int x2] [] (zHp s t) _
  refine zX_go (c := 4) (pc' := 6) (lv' := [.ref 0, .int x1, .int x2]) (st' := [.int (nI 1), .int x1, .ref 3]) (h' := zHp s t) rfl ?_
  obtain ⟨q1, hq, hF⟩ := zbd_ok hF
  refine zX_inv (av := [.ref 3, .int x1, .int (nI 1)]) (st := []) (h' := zHp s t) rfl rfl rfl rfl rfl rfl (zcall_le (t_X3_isSort M _ _ _ _ _ hq) (by decide)) ?_
  refine zX_go (c := 1) (pc' := if q1 = 0 then 20 else 12) (lv' := [.ref 0, .int x1, .int x2]) (st' := []) (h' := zHp s t) rfl ?_
  refine zX_ite hF (fun c0 hF => ?_) (fun c0 hF => ?_)
  · refine zX_go (c := 1) (pc' := 22) (lv' := [.ref 0, .int x1, .int x2]) (st' := [.int (-2)]) (h' := zHp s t) rfl ?_
    obtain rfl := Option.some.inj hF
    exact zX_reti rfl
  · refine zX_go (c := 2) (pc' := 14) (lv' := [.ref 0, .int x1, .int x2]) (st' := [.int x2, .ref 0]) (h' := zHp s t) rfl ?_
    obtain ⟨q2, hq, hF⟩ := zbd_ok hF
    refine zX_inv (av := [.ref 0, .int x2]) (st := []) (h' := zHp s t) rfl rfl rfl rfl rfl rfl (zcall_le (t_X5_isValueOrNone M _ _ _ _ hq) (by decide)) ?_
    refine zX_go (c := 1) (pc' := if q2 = 0 then 20 else 23) (lv' := [.ref 0, .int x1, .int x2]) (st' := []) (h' := zHp s t) rfl ?_
    refine zX_ite hF (fun c0 hF => ?_) (fun c0 hF => ?_)
    · refine zX_go (c := 1) (pc' := 22) (lv' := [.ref 0, .int x1, .int x2]) (st' := [.int (-2)]) (h' := zHp s t) rfl ?_
      obtain rfl := Option.some.inj hF
      exact zX_reti rfl
    · refine zX_go (c := 4) (pc' := 31) (lv' := [.ref 0, .int x1, .int x2]) (st' := [.int x1, .ref 26]) (h' := zHp s t) rfl ?_
      refine zX_bal (n := 100) rfl rfl hF (fun hF => ?_)
      refine zX_go (c := 1) (pc' := if (s 23 x1.toNatClampNeg) = 0 then 35 else 44) (lv' := [.ref 0, .int x1, .int x2]) (st' := []) (h' := zHp s t) rfl ?_
      refine zX_ite hF (fun c0 hF => ?_) (fun c0 hF => ?_)
      · refine zX_go (c := 3) (pc' := 38) (lv' := [.ref 0, .int x1, .int x2]) (st' := [.int x1, .int x2, .ref 0]) (h' := zHp s t) rfl ?_
        obtain ⟨q3, hq, hF⟩ := zbd_ok hF
        refine zX_inv (av := [.ref 0, .int x2, .int x1]) (st := []) (h' := zHp s t) rfl rfl rfl rfl rfl rfl (zcall_le (t_X5_isDoneOrSame M _ _ _ _ _ hq) (by decide)) ?_
        refine zX_go (c := 1) (pc' := if q3 = 0 then 47 else 44) (lv' := [.ref 0, .int x1, .int x2]) (st' := []) (h' := zHp s t) rfl ?_
        refine zX_ite hF (fun c0 hF => ?_) (fun c0 hF => ?_)
        · refine zX_go (c := 4) (pc' := 55) (lv' := [.ref 0, .int x1, .int x2]) (st' := [.int x1, .ref 25]) (h' := zHp s t) rfl ?_
          refine zX_ial (n := 100) rfl rfl hF (fun hF => ?_)
          refine zX_go (c := 2) (pc' := if (s 22 x1.toNatClampNeg) < (nI 4) then 63 else 60) (lv' := [.ref 0, .int x1, .int x2]) (st' := []) (h' := zHp s t) rfl ?_
          refine zX_ite hF (fun c0 hF => ?_) (fun c0 hF => ?_)
          · refine zX_go (c := 3) (pc' := if x2 = (-1) then 68 else 74) (lv' := [.ref 0, .int x1, .int x2]) (st' := []) (h' := zHp s t) rfl ?_
            refine zX_ite hF (fun c0 hF => ?_) (fun c0 hF => ?_)
            · refine zX_go (c := 2) (pc' := 70) (lv' := [.ref 0, .int x1, .int x2]) (st' := [.int (nI 1), .ref 0]) (h' := zHp s t) rfl ?_
              obtain ⟨q4, hq, hF⟩ := zbd_ok hF
              refine zX_inv (av := [.ref 0, .int (nI 1)]) (st := []) (h' := zHp q4.2 t) rfl rfl rfl rfl rfl rfl (zcall_le (t_X5_fail M _ _ _ _ hq) (by decide)) ?_
              obtain rfl := Option.some.inj hF
              exact zX_reti rfl
            · refine zX_go (c := 7) (pc' := 87) (lv' := [.ref 0, .int x1, .int x2]) (st' := [.int x1, .ref 24, .int x2, .ref 3]) (h' := zHp s t) rfl ?_
              refine zX_ial (n := 100) rfl rfl hF (fun hF => ?_)
              obtain ⟨q5, hq, hF⟩ := zbd_ok hF
              refine zX_inv (av := [.ref 3, .int x2, .int (s 21 x1.toNatClampNeg)]) (st := []) (h' := zHp s t) rfl rfl rfl rfl rfl rfl (zcall_le (t_X3_isOfKind M _ _ _ _ _ hq) (by decide)) ?_
              refine zX_go (c := 1) (pc' := if q5 = 0 then 94 else 100) (lv' := [.ref 0, .int x1, .int x2]) (st' := []) (h' := zHp s t) rfl ?_
              refine zX_ite hF (fun c0 hF => ?_) (fun c0 hF => ?_)
              · refine zX_go (c := 2) (pc' := 96) (lv' := [.ref 0, .int x1, .int x2]) (st' := [.int (nI 3), .ref 0]) (h' := zHp s t) rfl ?_
                obtain ⟨q6, hq, hF⟩ := zbd_ok hF
                refine zX_inv (av := [.ref 0, .int (nI 3)]) (st := []) (h' := zHp q6.2 t) rfl rfl rfl rfl rfl rfl (zcall_le (t_X5_fail M _ _ _ _ hq) (by decide)) ?_
                obtain rfl := Option.some.inj hF
                exact zX_reti rfl
              · refine zX_go (c := 2) (pc' := 102) (lv' := [.ref 0, .int x1, .int x2]) (st' := [.int (nI 0), .ref 0]) (h' := zHp s t) rfl ?_
                refine zX_pfi (h' := zHp (zup s 1 0 (nI 0)) t) rfl rfl rfl rfl (zst_0_6 _ _ _) ?_
                refine zX_go (c := 4) (pc' := 111) (lv' := [.ref 0, .int x1, .int x2]) (st' := [.int x2, .int x1, .ref 3]) (h' := zHp (zup s 1 0 (nI 0)) t) rfl ?_
                obtain ⟨q7, hq, hF⟩ := zbd_ok hF
                refine zX_inv (av := [.ref 3, .int x1, .int x2]) (st := []) (h' := zHp q7.2 t) rfl rfl rfl rfl rfl rfl (zcall_le (t_X3_append M _ _ _ _ _ hq) (by decide)) ?_
                obtain rfl := Option.some.inj hF
                exact zX_reti rfl
          · refine zX_go (c := 1) (pc' := 62) (lv' := [.ref 0, .int x1, .int x2]) (st' := [.int (-3)]) (h' := zHp s t) rfl ?_
            obtain rfl := Option.some.inj hF
            exact zX_reti rfl
        · refine zX_go (c := 1) (pc' := 46) (lv' := [.ref 0, .int x1, .int x2]) (st' := [.int (-4)]) (h' := zHp s t) rfl ?_
          obtain rfl := Option.some.inj hF
          exact zX_reti rfl
      · refine zX_go (c := 1) (pc' := 46) (lv' := [.ref 0, .int x1, .int x2]) (st' := [.int (-4)]) (h' := zHp s t) rfl ?_
        obtain rfl := Option.some.inj hF
        exact zX_reti rfl
def f_X5_instance (M : Nat) (s : zS) (x1 : Int32) : Option (Int32 × zS) :=
  zbd (f_X0_has M s x1) (fun q1 =>
   if q1 = 0 then
    some ((-2), s)
   else
    zbd (f_X3_add M s (nI 2) ((nI 10) + x1) (nI 0)) (fun q2 =>
     if q2.1 = (-3) then
      some (q2.1, q2.2)
     else
      zq (zin x1 12) <|
      some (q2.1, zup q2.2 10 x1.toNatClampNeg (zbn 1 (nI 1)))))
set_option maxRecDepth 100000 in
set_option maxHeartbeats 4000000 in
theorem t_X5_instance {L : Nat} {xs : Nat → Int32} (M : Nat) (s t : zS) (x1 : Int32) (R : Int32 × zS) (hF : f_X5_instance M s x1 = some R) : zcall (ztb L xs) 2 61 [.ref 0, .int x1] (zHp s t) = some (some (.int R.1), zHp R.2 t) := by
  unfold f_X5_instance at hF
  refine zcall_X (d := 1) (e := zm_X5_instance) rfl rfl ?_
  show zX (ztb L xs) (zcall (ztb L xs) 1) 5 1 zk_X5_instance 0 [.ref 0, .int x1, .retAddr 0] [] (zHp s t) _
  refine zX_go (c := 3) (pc' := 5) (lv' := [.ref 0, .int x1, .retAddr 0]) (st' := [.int x1, .ref 1]) (h' := zHp s t) rfl ?_
  obtain ⟨q1, hq, hF⟩ := zbd_ok hF
  refine zX_inv (av := [.ref 1, .int x1]) (st := []) (h' := zHp s t) rfl rfl rfl rfl rfl rfl (zcall_le (t_X0_has M _ _ _ _ hq) (by decide)) ?_
  refine zX_go (c := 1) (pc' := if q1 = 0 then 11 else 14) (lv' := [.ref 0, .int x1, .retAddr 0]) (st' := []) (h' := zHp s t) rfl ?_
  refine zX_ite hF (fun c0 hF => ?_) (fun c0 hF => ?_)
  · refine zX_go (c := 1) (pc' := 13) (lv' := [.ref 0, .int x1, .retAddr 0]) (st' := [.int (-2)]) (h' := zHp s t) rfl ?_
    obtain rfl := Option.some.inj hF
    exact zX_reti rfl
  · refine zX_go (c := 7) (pc' := 24) (lv' := [.ref 0, .int x1, .retAddr 0]) (st' := [.int (nI 0), .int ((nI 10) + x1), .int (nI 2), .ref 3]) (h' := zHp s t) rfl ?_
    obtain ⟨q2, hq, hF⟩ := zbd_ok hF
    refine zX_inv (av := [.ref 3, .int (nI 2), .int ((nI 10) + x1), .int (nI 0)]) (st := []) (h' := zHp q2.2 t) rfl rfl rfl rfl rfl rfl (zcall_le (t_X3_add M _ _ _ _ _ _ hq) (by decide)) ?_
    refine zX_go (c := 4) (pc' := if q2.1 = (-3) then 44 else 34) (lv' := [.ref 0, .int x1, .int q2.1]) (st' := []) (h' := zHp q2.2 t) rfl ?_
    refine zX_ite hF (fun c0 hF => ?_) (fun c0 hF => ?_)
    · refine zX_go (c := 1) (pc' := 45) (lv' := [.ref 0, .int x1, .int q2.1]) (st' := [.int q2.1]) (h' := zHp q2.2 t) rfl ?_
      obtain rfl := Option.some.inj hF
      exact zX_reti rfl
    · refine zX_go (c := 5) (pc' := 43) (lv' := [.ref 0, .int x1, .int q2.1]) (st' := [.int (nI 1), .int x1, .ref 15]) (h' := zHp q2.2 t) rfl ?_
      refine zX_bas (n := 12) (h' := zHp (zup q2.2 10 x1.toNatClampNeg (zbn 1 (nI 1))) t) rfl rfl (zst_15 _ _ _ _) hF (fun hF => ?_)
      refine zX_go (c := 1) (pc' := 45) (lv' := [.ref 0, .int x1, .int q2.1]) (st' := [.int q2.1]) (h' := zHp (zup q2.2 10 x1.toNatClampNeg (zbn 1 (nI 1))) t) rfl ?_
      obtain rfl := Option.some.inj hF
      exact zX_reti rfl
def f_X5_give (M : Nat) (s : zS) (x1 x2 x3 : Int32) : Option (Int32 × zS) :=
  zbd (f_X3_isSort M s x1 (nI 2)) (fun q1 =>
   if q1 = 0 then
    some ((-2), s)
   else
    zbd (f_X5_isValueOrNone M s x3) (fun q2 =>
     if q2 = 0 then
      some ((-2), s)
     else
      zbd (f_X3_markOf M s x1) (fun q3 =>
       zbd (f_X0_positionOf M s q3 x2) (fun q4 =>
        if q4 = (-1) then
         some ((-2), s)
        else
         zq (zin x1 100) <|
         if (s 23 x1.toNatClampNeg) = 0 then
          zbd (f_X5_isDoneOrSame M s x3 x1) (fun q5 =>
           if q5 = 0 then
            zbd (f_X3_partAt M s x1 q4) (fun q6 =>
             if q6 = (-1) then
              zbd (f_X0_slotOf M s q3 x2) (fun q7 =>
               zbd (f_X5_takeFor M s q7 x3) (fun q8 =>
                if q8.1 < 0 then
                 some (q8.1, q8.2)
                else
                 zbd (f_X3_setElement M q8.2 x1 q4 q8.1) (fun q9 =>
                  some (nI 1, q9))))
             else
              some ((-4), s))
           else
            some ((-4), s))
         else
          some ((-4), s)))))
set_option maxRecDepth 100000 in
set_option maxHeartbeats 4000000 in
theorem t_X5_give {L : Nat} {xs : Nat → Int32} (M : Nat) (s t : zS) (x1 x2 x3 : Int32) (R : Int32 × zS) (hF : f_X5_give M s x1 x2 x3 = some R) : zcall (ztb L xs) 5 62 [.ref 0, .int x1, .int x2, .int x3] (zHp s t) = some (some (.int R.1), zHp R.2 t) := by
  unfold f_X5_give at hF
  refine zcall_X (d := 4) (e := zm_X5_give) rfl rfl ?_
  show zX (ztb L xs) (zcall (ztb L xs) 4) 5 1 zk_X5_give 0 [.ref 0, .int x1, .int x2, .int x3, .retAddr 0, .retAddr 0, .retAddr 0] [] (zHp s t) _
  refine zX_go (c := 4) (pc' := 6) (lv' := [.ref 0, .int x1, .int x2, .int x3, .retAddr 0, .retAddr 0, .retAddr 0]) (st' := [.int (nI 2), .int x1, .ref 3]) (h' := zHp s t) rfl ?_
  obtain ⟨q1, hq, hF⟩ := zbd_ok hF
  refine zX_inv (av := [.ref 3, .int x1, .int (nI 2)]) (st := []) (h' := zHp s t) rfl rfl rfl rfl rfl rfl (zcall_le (t_X3_isSort M _ _ _ _ _ hq) (by decide)) ?_
  refine zX_go (c := 1) (pc' := if q1 = 0 then 20 else 12) (lv' := [.ref 0, .int x1, .int x2, .int x3, .retAddr 0, .retAddr 0, .retAddr 0]) (st' := []) (h' := zHp s t) rfl ?_
  refine zX_ite hF (fun c0 hF => ?_) (fun c0 hF => ?_)
  · refine zX_go (c := 1) (pc' := 22) (lv' := [.ref 0, .int x1, .int x2, .int x3, .retAddr 0, .retAddr 0, .retAddr 0]) (st' := [.int (-2)]) (h' := zHp s t) rfl ?_
    obtain rfl := Option.some.inj hF
    exact zX_reti rfl
  · refine zX_go (c := 2) (pc' := 14) (lv' := [.ref 0, .int x1, .int x2, .int x3, .retAddr 0, .retAddr 0, .retAddr 0]) (st' := [.int x3, .ref 0]) (h' := zHp s t) rfl ?_
    obtain ⟨q2, hq, hF⟩ := zbd_ok hF
    refine zX_inv (av := [.ref 0, .int x3]) (st := []) (h' := zHp s t) rfl rfl rfl rfl rfl rfl (zcall_le (t_X5_isValueOrNone M _ _ _ _ hq) (by decide)) ?_
    refine zX_go (c := 1) (pc' := if q2 = 0 then 20 else 23) (lv' := [.ref 0, .int x1, .int x2, .int x3, .retAddr 0, .retAddr 0, .retAddr 0]) (st' := []) (h' := zHp s t) rfl ?_
    refine zX_ite hF (fun c0 hF => ?_) (fun c0 hF => ?_)
    · refine zX_go (c := 1) (pc' := 22) (lv' := [.ref 0, .int x1, .int x2, .int x3, .retAddr 0, .retAddr 0, .retAddr 0]) (st' := [.int (-2)]) (h' := zHp s t) rfl ?_
      obtain rfl := Option.some.inj hF
      exact zX_reti rfl
    · refine zX_go (c := 3) (pc' := 28) (lv' := [.ref 0, .int x1, .int x2, .int x3, .retAddr 0, .retAddr 0, .retAddr 0]) (st' := [.int x1, .ref 3]) (h' := zHp s t) rfl ?_
      obtain ⟨q3, hq, hF⟩ := zbd_ok hF
      refine zX_inv (av := [.ref 3, .int x1]) (st := []) (h' := zHp s t) rfl rfl rfl rfl rfl rfl (zcall_le (t_X3_markOf M _ _ _ _ hq) (by decide)) ?_
      refine zX_go (c := 5) (pc' := 40) (lv' := [.ref 0, .int x1, .int x2, .int x3, .int q3, .retAddr 0, .retAddr 0]) (st' := [.int x2, .int q3, .ref 1]) (h' := zHp s t) rfl ?_
      obtain ⟨q4, hq, hF⟩ := zbd_ok hF
      refine zX_inv (av := [.ref 1, .int q3, .int x2]) (st := []) (h' := zHp s t) rfl rfl rfl rfl rfl rfl (zcall_le (t_X0_positionOf M _ _ _ _ _ hq) (by decide)) ?_
      refine zX_go (c := 4) (pc' := if q4 = (-1) then 51 else 54) (lv' := [.ref 0, .int x1, .int x2, .int x3, .int q3, .int q4, .retAddr 0]) (st' := []) (h' := zHp s t) rfl ?_
      refine zX_ite hF (fun c0 hF => ?_) (fun c0 hF => ?_)
      · refine zX_go (c := 1) (pc' := 53) (lv' := [.ref 0, .int x1, .int x2, .int x3, .int q3, .int q4, .retAddr 0]) (st' := [.int (-2)]) (h' := zHp s t) rfl ?_
        obtain rfl := Option.some.inj hF
        exact zX_reti rfl
      · refine zX_go (c := 4) (pc' := 62) (lv' := [.ref 0, .int x1, .int x2, .int x3, .int q3, .int q4, .retAddr 0]) (st' := [.int x1, .ref 26]) (h' := zHp s t) rfl ?_
        refine zX_bal (n := 100) rfl rfl hF (fun hF => ?_)
        refine zX_go (c := 1) (pc' := if (s 23 x1.toNatClampNeg) = 0 then 66 else 75) (lv' := [.ref 0, .int x1, .int x2, .int x3, .int q3, .int q4, .retAddr 0]) (st' := []) (h' := zHp s t) rfl ?_
        refine zX_ite hF (fun c0 hF => ?_) (fun c0 hF => ?_)
        · refine zX_go (c := 3) (pc' := 69) (lv' := [.ref 0, .int x1, .int x2, .int x3, .int q3, .int q4, .retAddr 0]) (st' := [.int x1, .int x3, .ref 0]) (h' := zHp s t) rfl ?_
          obtain ⟨q5, hq, hF⟩ := zbd_ok hF
          refine zX_inv (av := [.ref 0, .int x3, .int x1]) (st := []) (h' := zHp s t) rfl rfl rfl rfl rfl rfl (zcall_le (t_X5_isDoneOrSame M _ _ _ _ _ hq) (by decide)) ?_
          refine zX_go (c := 1) (pc' := if q5 = 0 then 78 else 75) (lv' := [.ref 0, .int x1, .int x2, .int x3, .int q3, .int q4, .retAddr 0]) (st' := []) (h' := zHp s t) rfl ?_
          refine zX_ite hF (fun c0 hF => ?_) (fun c0 hF => ?_)
          · refine zX_go (c := 4) (pc' := 85) (lv' := [.ref 0, .int x1, .int x2, .int x3, .int q3, .int q4, .retAddr 0]) (st' := [.int q4, .int x1, .ref 3]) (h' := zHp s t) rfl ?_
            obtain ⟨q6, hq, hF⟩ := zbd_ok hF
            refine zX_inv (av := [.ref 3, .int x1, .int q4]) (st := []) (h' := zHp s t) rfl rfl rfl rfl rfl rfl (zcall_le (t_X3_partAt M _ _ _ _ _ hq) (by decide)) ?_
            refine zX_go (c := 2) (pc' := if q6 = (-1) then 95 else 92) (lv' := [.ref 0, .int x1, .int x2, .int x3, .int q3, .int q4, .retAddr 0]) (st' := []) (h' := zHp s t) rfl ?_
            refine zX_ite hF (fun c0 hF => ?_) (fun c0 hF => ?_)
            · refine zX_go (c := 5) (pc' := 103) (lv' := [.ref 0, .int x1, .int x2, .int x3, .int q3, .int q4, .retAddr 0]) (st' := [.int x2, .int q3, .ref 1, .ref 0]) (h' := zHp s t) rfl ?_
              obtain ⟨q7, hq, hF⟩ := zbd_ok hF
              refine zX_inv (av := [.ref 1, .int q3, .int x2]) (st := [.ref 0]) (h' := zHp s t) rfl rfl rfl rfl rfl rfl (zcall_le (t_X0_slotOf M _ _ _ _ _ hq) (by decide)) ?_
              refine zX_go (c := 1) (pc' := 107) (lv' := [.ref 0, .int x1, .int x2, .int x3, .int q3, .int q4, .retAddr 0]) (st' := [.int x3, .int q7, .ref 0]) (h' := zHp s t) rfl ?_
              obtain ⟨q8, hq, hF⟩ := zbd_ok hF
              refine zX_inv (av := [.ref 0, .int q7, .int x3]) (st := []) (h' := zHp q8.2 t) rfl rfl rfl rfl rfl rfl (zcall_le (t_X5_takeFor M _ _ _ _ _ hq) (by decide)) ?_
              refine zX_go (c := 3) (pc' := if q8.1 < 0 then 117 else 120) (lv' := [.ref 0, .int x1, .int x2, .int x3, .int q3, .int q4, .int q8.1]) (st' := []) (h' := zHp q8.2 t) rfl ?_
              refine zX_ite hF (fun c0 hF => ?_) (fun c0 hF => ?_)
              · refine zX_go (c := 1) (pc' := 119) (lv' := [.ref 0, .int x1, .int x2, .int x3, .int q3, .int q4, .int q8.1]) (st' := [.int q8.1]) (h' := zHp q8.2 t) rfl ?_
                obtain rfl := Option.some.inj hF
                exact zX_reti rfl
              · refine zX_go (c := 5) (pc' := 129) (lv' := [.ref 0, .int x1, .int x2, .int x3, .int q3, .int q4, .int q8.1]) (st' := [.int q8.1, .int q4, .int x1, .ref 3]) (h' := zHp q8.2 t) rfl ?_
                obtain ⟨q9, hq, hF⟩ := zbd_ok hF
                refine zX_inv (av := [.ref 3, .int x1, .int q4, .int q8.1]) (st := []) (h' := zHp q9 t) rfl rfl rfl rfl rfl rfl (zcall_le (t_X3_setElement M _ _ _ _ _ _ hq) (by decide)) ?_
                refine zX_go (c := 1) (pc' := 133) (lv' := [.ref 0, .int x1, .int x2, .int x3, .int q3, .int q4, .int q8.1]) (st' := [.int (nI 1)]) (h' := zHp q9 t) rfl ?_
                obtain rfl := Option.some.inj hF
                exact zX_reti rfl
            · refine zX_go (c := 1) (pc' := 94) (lv' := [.ref 0, .int x1, .int x2, .int x3, .int q3, .int q4, .retAddr 0]) (st' := [.int (-4)]) (h' := zHp s t) rfl ?_
              obtain rfl := Option.some.inj hF
              exact zX_reti rfl
          · refine zX_go (c := 1) (pc' := 77) (lv' := [.ref 0, .int x1, .int x2, .int x3, .int q3, .int q4, .retAddr 0]) (st' := [.int (-4)]) (h' := zHp s t) rfl ?_
            obtain rfl := Option.some.inj hF
            exact zX_reti rfl
        · refine zX_go (c := 1) (pc' := 77) (lv' := [.ref 0, .int x1, .int x2, .int x3, .int q3, .int q4, .retAddr 0]) (st' := [.int (-4)]) (h' := zHp s t) rfl ?_
          obtain rfl := Option.some.inj hF
          exact zX_reti rfl
def f_X5_brokenRule (M : Nat) (s : zS) (x1 x2 : Int32) : Option (Int32) :=
  zbd (f_X3_markOf M s x2) (fun q1 =>
   zq (zin q1 12) <|
   zq (zin q1 12) <|
   zq (zin q1 12) <|
   zbd (f_X1_fittingTargets M s x1) (fun q2 =>
    if ((s 3 q1.toNatClampNeg) &&& q2) = 0 then
     some (nI 1)
    else
     zbd (g_X3_isWhole M 20 0 s x2 (nI 0)) (fun q3 =>
      if q3 = 0 then
       some (nI 2)
      else
       if (s 8 q1.toNatClampNeg) = (-1) then
        zbd (f_X2_howMany M s x1 q1) (fun q4 =>
         if 0 < q4 then
          some (nI 3)
         else
          if (s 8 q1.toNatClampNeg) = (-1) then
           if (s 9 q1.toNatClampNeg) = (-1) then
            some (nI 0)
           else
            zbd (f_X2_howMany M s x1 (s 9 q1.toNatClampNeg)) (fun q5 =>
             if 0 < q5 then
              some (nI 5)
             else
              some (nI 0))
          else
           zbd (f_X2_howMany M s x1 (s 8 q1.toNatClampNeg)) (fun q6 =>
            if 0 < q6 then
             some (nI 4)
            else
             if (s 9 q1.toNatClampNeg) = (-1) then
              some (nI 0)
             else
              zbd (f_X2_howMany M s x1 (s 9 q1.toNatClampNeg)) (fun q7 =>
               if 0 < q7 then
                some (nI 5)
               else
                some (nI 0))))
       else
        if (s 8 q1.toNatClampNeg) = (-1) then
         if (s 9 q1.toNatClampNeg) = (-1) then
          some (nI 0)
         else
          zbd (f_X2_howMany M s x1 (s 9 q1.toNatClampNeg)) (fun q8 =>
           if 0 < q8 then
            some (nI 5)
           else
            some (nI 0))
        else
         zbd (f_X2_howMany M s x1 (s 8 q1.toNatClampNeg)) (fun q9 =>
          if 0 < q9 then
           some (nI 4)
          else
           if (s 9 q1.toNatClampNeg) = (-1) then
            some (nI 0)
           else
            zbd (f_X2_howMany M s x1 (s 9 q1.toNatClampNeg)) (fun q10 =>
             if 0 < q10 then
              some (nI 5)
             else
              some (nI 0))))))
set_option maxRecDepth 100000 in
set_option maxHeartbeats 4000000 in
theorem t_X5_brokenRule {L : Nat} {xs : Nat → Int32} (M : Nat) (s t : zS) (x1 x2 : Int32) (R : Int32) (hF : f_X5_brokenRule M s x1 x2 = some R) : zcall (ztb L xs) 23 82 [.ref 0, .int x1, .int x2] (zHp s t) = some (some (.int R), zHp s t) := by
  unfold f_X5_brokenRule at hF
  refine zcall_X (d := 22) (e := zm_X5_brokenRule) rfl rfl ?_
  show zX (ztb L xs) (zcall (ztb L xs) 22) 5 1 zk_X5_brokenRule 0 [.ref 0, .int x1, .int x2, .retAddr 0, .retAddr 0, .retAddr 0] [] (zHp s t) _
  refine zX_go (c := 3) (pc' := 5) (lv' := [.ref 0, .int x1, .int x2, .retAddr 0, .retAddr 0, .retAddr 0]) (st' := [.int x2, .ref 3]) (h' := zHp s t) rfl ?_
  obtain ⟨q1, hq, hF⟩ := zbd_ok hF
  refine zX_inv (av := [.ref 3, .int x2]) (st := []) (h' := zHp s t) rfl rfl rfl rfl rfl rfl (zcall_le (t_X3_markOf M _ _ _ _ hq) (by decide)) ?_
  refine zX_go (c := 5) (pc' := 17) (lv' := [.ref 0, .int x1, .int x2, .int q1, .retAddr 0, .retAddr 0]) (st' := [.int q1, .ref 13]) (h' := zHp s t) rfl ?_
  refine zX_ial (n := 12) rfl rfl hF (fun hF => ?_)
  refine zX_go (c := 5) (pc' := 28) (lv' := [.ref 0, .int x1, .int x2, .int q1, .int (s 8 q1.toNatClampNeg), .retAddr 0]) (st' := [.int q1, .ref 14]) (h' := zHp s t) rfl ?_
  refine zX_ial (n := 12) rfl rfl hF (fun hF => ?_)
  refine zX_go (c := 5) (pc' := 39) (lv' := [.ref 0, .int x1, .int x2, .int q1, .int (s 8 q1.toNatClampNeg), .int (s 9 q1.toNatClampNeg)]) (st' := [.int q1, .ref 8]) (h' := zHp s t) rfl ?_
  refine zX_ial (n := 12) rfl rfl hF (fun hF => ?_)
  refine zX_go (c := 3) (pc' := 45) (lv' := [.ref 0, .int x1, .int x2, .int q1, .int (s 8 q1.toNatClampNeg), .int (s 9 q1.toNatClampNeg)]) (st' := [.int x1, .ref 2, .int (s 3 q1.toNatClampNeg)]) (h' := zHp s t) rfl ?_
  obtain ⟨q2, hq, hF⟩ := zbd_ok hF
  refine zX_inv (av := [.ref 2, .int x1]) (st := [.int (s 3 q1.toNatClampNeg)]) (h' := zHp s t) rfl rfl rfl rfl rfl rfl (zcall_le (t_X1_fittingTargets M _ _ _ _ hq) (by decide)) ?_
  refine zX_go (c := 2) (pc' := if ((s 3 q1.toNatClampNeg) &&& q2) = 0 then 52 else 54) (lv' := [.ref 0, .int x1, .int x2, .int q1, .int (s 8 q1.toNatClampNeg), .int (s 9 q1.toNatClampNeg)]) (st' := []) (h' := zHp s t) rfl ?_
  refine zX_ite hF (fun c0 hF => ?_) (fun c0 hF => ?_)
  · refine zX_go (c := 1) (pc' := 53) (lv' := [.ref 0, .int x1, .int x2, .int q1, .int (s 8 q1.toNatClampNeg), .int (s 9 q1.toNatClampNeg)]) (st' := [.int (nI 1)]) (h' := zHp s t) rfl ?_
    obtain rfl := Option.some.inj hF
    exact zX_reti rfl
  · refine zX_go (c := 4) (pc' := 60) (lv' := [.ref 0, .int x1, .int x2, .int q1, .int (s 8 q1.toNatClampNeg), .int (s 9 q1.toNatClampNeg)]) (st' := [.int (nI 0), .int x2, .ref 3]) (h' := zHp s t) rfl ?_
    obtain ⟨q3, hq, hF⟩ := zbd_ok hF
    refine zX_inv (av := [.ref 3, .int x2, .int (nI 0)]) (st := []) (h' := zHp s t) rfl rfl rfl rfl rfl rfl (zcall_le (t_X3_isWhole M 20 _ _ _ _ _ hq) (by decide)) ?_
    refine zX_go (c := 1) (pc' := if q3 = 0 then 66 else 68) (lv' := [.ref 0, .int x1, .int x2, .int q1, .int (s 8 q1.toNatClampNeg), .int (s 9 q1.toNatClampNeg)]) (st' := []) (h' := zHp s t) rfl ?_
    refine zX_ite hF (fun c0 hF => ?_) (fun c0 hF => ?_)
    · refine zX_go (c := 1) (pc' := 67) (lv' := [.ref 0, .int x1, .int x2, .int q1, .int (s 8 q1.toNatClampNeg), .int (s 9 q1.toNatClampNeg)]) (st' := [.int (nI 2)]) (h' := zHp s t) rfl ?_
      obtain rfl := Option.some.inj hF
      exact zX_reti rfl
    · refine zX_go (c := 3) (pc' := if (s 8 q1.toNatClampNeg) = (-1) then 74 else 88) (lv' := [.ref 0, .int x1, .int x2, .int q1, .int (s 8 q1.toNatClampNeg), .int (s 9 q1.toNatClampNeg)]) (st' := []) (h' := zHp s t) rfl ?_
      refine zX_ite hF (fun c0 hF => ?_) (fun c0 hF => ?_)
      · refine zX_go (c := 4) (pc' := 80) (lv' := [.ref 0, .int x1, .int x2, .int q1, .int (s 8 q1.toNatClampNeg), .int (s 9 q1.toNatClampNeg)]) (st' := [.int q1, .int x1, .ref 4]) (h' := zHp s t) rfl ?_
        obtain ⟨q4, hq, hF⟩ := zbd_ok hF
        refine zX_inv (av := [.ref 4, .int x1, .int q1]) (st := []) (h' := zHp s t) rfl rfl rfl rfl rfl rfl (zcall_le (t_X2_howMany M _ _ _ _ _ hq) (by decide)) ?_
        refine zX_go (c := 1) (pc' := if 0 < q4 then 86 else 88) (lv' := [.ref 0, .int x1, .int x2, .int q1, .int (s 8 q1.toNatClampNeg), .int (s 9 q1.toNatClampNeg)]) (st' := []) (h' := zHp s t) rfl ?_
        refine zX_ite hF (fun c0 hF => ?_) (fun c0 hF => ?_)
        · refine zX_go (c := 1) (pc' := 87) (lv' := [.ref 0, .int x1, .int x2, .int q1, .int (s 8 q1.toNatClampNeg), .int (s 9 q1.toNatClampNeg)]) (st' := [.int (nI 3)]) (h' := zHp s t) rfl ?_
          obtain rfl := Option.some.inj hF
          exact zX_reti rfl
        · refine zX_go (c := 3) (pc' := if (s 8 q1.toNatClampNeg) = (-1) then 109 else 94) (lv' := [.ref 0, .int x1, .int x2, .int q1, .int (s 8 q1.toNatClampNeg), .int (s 9 q1.toNatClampNeg)]) (st' := []) (h' := zHp s t) rfl ?_
          refine zX_ite hF (fun c0 hF => ?_) (fun c0 hF => ?_)
          · refine zX_go (c := 3) (pc' := if (s 9 q1.toNatClampNeg) = (-1) then 130 else 115) (lv' := [.ref 0, .int x1, .int x2, .int q1, .int (s 8 q1.toNatClampNeg), .int (s 9 q1.toNatClampNeg)]) (st' := []) (h' := zHp s t) rfl ?_
            refine zX_ite hF (fun c0 hF => ?_) (fun c0 hF => ?_)
            · refine zX_go (c := 1) (pc' := 131) (lv' := [.ref 0, .int x1, .int x2, .int q1, .int (s 8 q1.toNatClampNeg), .int (s 9 q1.toNatClampNeg)]) (st' := [.int (nI 0)]) (h' := zHp s t) rfl ?_
              obtain rfl := Option.some.inj hF
              exact zX_reti rfl
            · refine zX_go (c := 4) (pc' := 122) (lv' := [.ref 0, .int x1, .int x2, .int q1, .int (s 8 q1.toNatClampNeg), .int (s 9 q1.toNatClampNeg)]) (st' := [.int (s 9 q1.toNatClampNeg), .int x1, .ref 4]) (h' := zHp s t) rfl ?_
              obtain ⟨q5, hq, hF⟩ := zbd_ok hF
              refine zX_inv (av := [.ref 4, .int x1, .int (s 9 q1.toNatClampNeg)]) (st := []) (h' := zHp s t) rfl rfl rfl rfl rfl rfl (zcall_le (t_X2_howMany M _ _ _ _ _ hq) (by decide)) ?_
              refine zX_go (c := 1) (pc' := if 0 < q5 then 128 else 130) (lv' := [.ref 0, .int x1, .int x2, .int q1, .int (s 8 q1.toNatClampNeg), .int (s 9 q1.toNatClampNeg)]) (st' := []) (h' := zHp s t) rfl ?_
              refine zX_ite hF (fun c0 hF => ?_) (fun c0 hF => ?_)
              · refine zX_go (c := 1) (pc' := 129) (lv' := [.ref 0, .int x1, .int x2, .int q1, .int (s 8 q1.toNatClampNeg), .int (s 9 q1.toNatClampNeg)]) (st' := [.int (nI 5)]) (h' := zHp s t) rfl ?_
                obtain rfl := Option.some.inj hF
                exact zX_reti rfl
              · refine zX_go (c := 1) (pc' := 131) (lv' := [.ref 0, .int x1, .int x2, .int q1, .int (s 8 q1.toNatClampNeg), .int (s 9 q1.toNatClampNeg)]) (st' := [.int (nI 0)]) (h' := zHp s t) rfl ?_
                obtain rfl := Option.some.inj hF
                exact zX_reti rfl
          · refine zX_go (c := 4) (pc' := 101) (lv' := [.ref 0, .int x1, .int x2, .int q1, .int (s 8 q1.toNatClampNeg), .int (s 9 q1.toNatClampNeg)]) (st' := [.int (s 8 q1.toNatClampNeg), .int x1, .ref 4]) (h' := zHp s t) rfl ?_
            obtain ⟨q6, hq, hF⟩ := zbd_ok hF
            refine zX_inv (av := [.ref 4, .int x1, .int (s 8 q1.toNatClampNeg)]) (st := []) (h' := zHp s t) rfl rfl rfl rfl rfl rfl (zcall_le (t_X2_howMany M _ _ _ _ _ hq) (by decide)) ?_
            refine zX_go (c := 1) (pc' := if 0 < q6 then 107 else 109) (lv' := [.ref 0, .int x1, .int x2, .int q1, .int (s 8 q1.toNatClampNeg), .int (s 9 q1.toNatClampNeg)]) (st' := []) (h' := zHp s t) rfl ?_
            refine zX_ite hF (fun c0 hF => ?_) (fun c0 hF => ?_)
            · refine zX_go (c := 1) (pc' := 108) (lv' := [.ref 0, .int x1, .int x2, .int q1, .int (s 8 q1.toNatClampNeg), .int (s 9 q1.toNatClampNeg)]) (st' := [.int (nI 4)]) (h' := zHp s t) rfl ?_
              obtain rfl := Option.some.inj hF
              exact zX_reti rfl
            · refine zX_go (c := 3) (pc' := if (s 9 q1.toNatClampNeg) = (-1) then 130 else 115) (lv' := [.ref 0, .int x1, .int x2, .int q1, .int (s 8 q1.toNatClampNeg), .int (s 9 q1.toNatClampNeg)]) (st' := []) (h' := zHp s t) rfl ?_
              refine zX_ite hF (fun c0 hF => ?_) (fun c0 hF => ?_)
              · refine zX_go (c := 1) (pc' := 131) (lv' := [.ref 0, .int x1, .int x2, .int q1, .int (s 8 q1.toNatClampNeg), .int (s 9 q1.toNatClampNeg)]) (st' := [.int (nI 0)]) (h' := zHp s t) rfl ?_
                obtain rfl := Option.some.inj hF
                exact zX_reti rfl
              · refine zX_go (c := 4) (pc' := 122) (lv' := [.ref 0, .int x1, .int x2, .int q1, .int (s 8 q1.toNatClampNeg), .int (s 9 q1.toNatClampNeg)]) (st' := [.int (s 9 q1.toNatClampNeg), .int x1, .ref 4]) (h' := zHp s t) rfl ?_
                obtain ⟨q7, hq, hF⟩ := zbd_ok hF
                refine zX_inv (av := [.ref 4, .int x1, .int (s 9 q1.toNatClampNeg)]) (st := []) (h' := zHp s t) rfl rfl rfl rfl rfl rfl (zcall_le (t_X2_howMany M _ _ _ _ _ hq) (by decide)) ?_
                refine zX_go (c := 1) (pc' := if 0 < q7 then 128 else 130) (lv' := [.ref 0, .int x1, .int x2, .int q1, .int (s 8 q1.toNatClampNeg), .int (s 9 q1.toNatClampNeg)]) (st' := []) (h' := zHp s t) rfl ?_
                refine zX_ite hF (fun c0 hF => ?_) (fun c0 hF => ?_)
                · refine zX_go (c := 1) (pc' := 129) (lv' := [.ref 0, .int x1, .int x2, .int q1, .int (s 8 q1.toNatClampNeg), .int (s 9 q1.toNatClampNeg)]) (st' := [.int (nI 5)]) (h' := zHp s t) rfl ?_
                  obtain rfl := Option.some.inj hF
                  exact zX_reti rfl
                · refine zX_go (c := 1) (pc' := 131) (lv' := [.ref 0, .int x1, .int x2, .int q1, .int (s 8 q1.toNatClampNeg), .int (s 9 q1.toNatClampNeg)]) (st' := [.int (nI 0)]) (h' := zHp s t) rfl ?_
                  obtain rfl := Option.some.inj hF
                  exact zX_reti rfl
      · refine zX_go (c := 3) (pc' := if (s 8 q1.toNatClampNeg) = (-1) then 109 else 94) (lv' := [.ref 0, .int x1, .int x2, .int q1, .int (s 8 q1.toNatClampNeg), .int (s 9 q1.toNatClampNeg)]) (st' := []) (h' := zHp s t) rfl ?_
        refine zX_ite hF (fun c0 hF => ?_) (fun c0 hF => ?_)
        · refine zX_go (c := 3) (pc' := if (s 9 q1.toNatClampNeg) = (-1) then 130 else 115) (lv' := [.ref 0, .int x1, .int x2, .int q1, .int (s 8 q1.toNatClampNeg), .int (s 9 q1.toNatClampNeg)]) (st' := []) (h' := zHp s t) rfl ?_
          refine zX_ite hF (fun c0 hF => ?_) (fun c0 hF => ?_)
          · refine zX_go (c := 1) (pc' := 131) (lv' := [.ref 0, .int x1, .int x2, .int q1, .int (s 8 q1.toNatClampNeg), .int (s 9 q1.toNatClampNeg)]) (st' := [.int (nI 0)]) (h' := zHp s t) rfl ?_
            obtain rfl := Option.some.inj hF
            exact zX_reti rfl
          · refine zX_go (c := 4) (pc' := 122) (lv' := [.ref 0, .int x1, .int x2, .int q1, .int (s 8 q1.toNatClampNeg), .int (s 9 q1.toNatClampNeg)]) (st' := [.int (s 9 q1.toNatClampNeg), .int x1, .ref 4]) (h' := zHp s t) rfl ?_
            obtain ⟨q8, hq, hF⟩ := zbd_ok hF
            refine zX_inv (av := [.ref 4, .int x1, .int (s 9 q1.toNatClampNeg)]) (st := []) (h' := zHp s t) rfl rfl rfl rfl rfl rfl (zcall_le (t_X2_howMany M _ _ _ _ _ hq) (by decide)) ?_
            refine zX_go (c := 1) (pc' := if 0 < q8 then 128 else 130) (lv' := [.ref 0, .int x1, .int x2, .int q1, .int (s 8 q1.toNatClampNeg), .int (s 9 q1.toNatClampNeg)]) (st' := []) (h' := zHp s t) rfl ?_
            refine zX_ite hF (fun c0 hF => ?_) (fun c0 hF => ?_)
            · refine zX_go (c := 1) (pc' := 129) (lv' := [.ref 0, .int x1, .int x2, .int q1, .int (s 8 q1.toNatClampNeg), .int (s 9 q1.toNatClampNeg)]) (st' := [.int (nI 5)]) (h' := zHp s t) rfl ?_
              obtain rfl := Option.some.inj hF
              exact zX_reti rfl
            · refine zX_go (c := 1) (pc' := 131) (lv' := [.ref 0, .int x1, .int x2, .int q1, .int (s 8 q1.toNatClampNeg), .int (s 9 q1.toNatClampNeg)]) (st' := [.int (nI 0)]) (h' := zHp s t) rfl ?_
              obtain rfl := Option.some.inj hF
              exact zX_reti rfl
        · refine zX_go (c := 4) (pc' := 101) (lv' := [.ref 0, .int x1, .int x2, .int q1, .int (s 8 q1.toNatClampNeg), .int (s 9 q1.toNatClampNeg)]) (st' := [.int (s 8 q1.toNatClampNeg), .int x1, .ref 4]) (h' := zHp s t) rfl ?_
          obtain ⟨q9, hq, hF⟩ := zbd_ok hF
          refine zX_inv (av := [.ref 4, .int x1, .int (s 8 q1.toNatClampNeg)]) (st := []) (h' := zHp s t) rfl rfl rfl rfl rfl rfl (zcall_le (t_X2_howMany M _ _ _ _ _ hq) (by decide)) ?_
          refine zX_go (c := 1) (pc' := if 0 < q9 then 107 else 109) (lv' := [.ref 0, .int x1, .int x2, .int q1, .int (s 8 q1.toNatClampNeg), .int (s 9 q1.toNatClampNeg)]) (st' := []) (h' := zHp s t) rfl ?_
          refine zX_ite hF (fun c0 hF => ?_) (fun c0 hF => ?_)
          · refine zX_go (c := 1) (pc' := 108) (lv' := [.ref 0, .int x1, .int x2, .int q1, .int (s 8 q1.toNatClampNeg), .int (s 9 q1.toNatClampNeg)]) (st' := [.int (nI 4)]) (h' := zHp s t) rfl ?_
            obtain rfl := Option.some.inj hF
            exact zX_reti rfl
          · refine zX_go (c := 3) (pc' := if (s 9 q1.toNatClampNeg) = (-1) then 130 else 115) (lv' := [.ref 0, .int x1, .int x2, .int q1, .int (s 8 q1.toNatClampNeg), .int (s 9 q1.toNatClampNeg)]) (st' := []) (h' := zHp s t) rfl ?_
            refine zX_ite hF (fun c0 hF => ?_) (fun c0 hF => ?_)
            · refine zX_go (c := 1) (pc' := 131) (lv' := [.ref 0, .int x1, .int x2, .int q1, .int (s 8 q1.toNatClampNeg), .int (s 9 q1.toNatClampNeg)]) (st' := [.int (nI 0)]) (h' := zHp s t) rfl ?_
              obtain rfl := Option.some.inj hF
              exact zX_reti rfl
            · refine zX_go (c := 4) (pc' := 122) (lv' := [.ref 0, .int x1, .int x2, .int q1, .int (s 8 q1.toNatClampNeg), .int (s 9 q1.toNatClampNeg)]) (st' := [.int (s 9 q1.toNatClampNeg), .int x1, .ref 4]) (h' := zHp s t) rfl ?_
              obtain ⟨q10, hq, hF⟩ := zbd_ok hF
              refine zX_inv (av := [.ref 4, .int x1, .int (s 9 q1.toNatClampNeg)]) (st := []) (h' := zHp s t) rfl rfl rfl rfl rfl rfl (zcall_le (t_X2_howMany M _ _ _ _ _ hq) (by decide)) ?_
              refine zX_go (c := 1) (pc' := if 0 < q10 then 128 else 130) (lv' := [.ref 0, .int x1, .int x2, .int q1, .int (s 8 q1.toNatClampNeg), .int (s 9 q1.toNatClampNeg)]) (st' := []) (h' := zHp s t) rfl ?_
              refine zX_ite hF (fun c0 hF => ?_) (fun c0 hF => ?_)
              · refine zX_go (c := 1) (pc' := 129) (lv' := [.ref 0, .int x1, .int x2, .int q1, .int (s 8 q1.toNatClampNeg), .int (s 9 q1.toNatClampNeg)]) (st' := [.int (nI 5)]) (h' := zHp s t) rfl ?_
                obtain rfl := Option.some.inj hF
                exact zX_reti rfl
              · refine zX_go (c := 1) (pc' := 131) (lv' := [.ref 0, .int x1, .int x2, .int q1, .int (s 8 q1.toNatClampNeg), .int (s 9 q1.toNatClampNeg)]) (st' := [.int (nI 0)]) (h' := zHp s t) rfl ?_
                obtain rfl := Option.some.inj hF
                exact zX_reti rfl
def f_X5_put (M : Nat) (s : zS) (x1 x2 : Int32) : Option (Int32 × zS) :=
  zbd (f_X1_has M s x1) (fun q1 =>
   if q1 = 0 then
    some ((-2), s)
   else
    zbd (f_X3_isSort M s x2 (nI 2)) (fun q2 =>
     if q2 = 0 then
      some ((-2), s)
     else
      zq (zin x2 100) <|
      if (s 23 x2.toNatClampNeg) = 0 then
       zbd (f_X5_brokenRule M s x1 x2) (fun q3 =>
        if q3 = 0 then
         zbd (f_X3_markOf M s x2) (fun q4 =>
          zbd (f_X2_howMany M s x1 q4) (fun q5 =>
           if q5 < (nI 4) then
            zq (zin x2 100) <|
            zq (zin q4 12) <|
            zbd (f_X2_add M (zup (zup s 23 x2.toNatClampNeg (zbn 1 (nI 1))) 11 q4.toNatClampNeg (zbn 1 (nI 1))) x1 q4 x2) (fun q6 =>
             zbd (f_X2_howMany M q6 x1 q4) (fun q7 =>
              some (q7, q6)))
           else
            some ((-3), s)))
        else
         some ((-10) - q3, s))
      else
       some ((-4), s)))
set_option maxRecDepth 100000 in
set_option maxHeartbeats 4000000 in
theorem t_X5_put {L : Nat} {xs : Nat → Int32} (M : Nat) (s t : zS) (x1 x2 : Int32) (R : Int32 × zS) (hF : f_X5_put M s x1 x2 = some R) : zcall (ztb L xs) 24 63 [.ref 0, .int x1, .int x2] (zHp s t) = some (some (.int R.1), zHp R.2 t) := by
  unfold f_X5_put at hF
  refine zcall_X (d := 23) (e := zm_X5_put) rfl rfl ?_
  show zX (ztb L xs) (zcall (ztb L xs) 23) 5 1 zk_X5_put 0 [.ref 0, .int x1, .int x2, .retAddr 0, .retAddr 0] [] (zHp s t) _
  refine zX_go (c := 3) (pc' := 5) (lv' := [.ref 0, .int x1, .int x2, .retAddr 0, .retAddr 0]) (st' := [.int x1, .ref 2]) (h' := zHp s t) rfl ?_
  obtain ⟨q1, hq, hF⟩ := zbd_ok hF
  refine zX_inv (av := [.ref 2, .int x1]) (st := []) (h' := zHp s t) rfl rfl rfl rfl rfl rfl (zcall_le (t_X1_has M _ _ _ _ hq) (by decide)) ?_
  refine zX_go (c := 1) (pc' := if q1 = 0 then 23 else 11) (lv' := [.ref 0, .int x1, .int x2, .retAddr 0, .retAddr 0]) (st' := []) (h' := zHp s t) rfl ?_
  refine zX_ite hF (fun c0 hF => ?_) (fun c0 hF => ?_)
  · refine zX_go (c := 1) (pc' := 25) (lv' := [.ref 0, .int x1, .int x2, .retAddr 0, .retAddr 0]) (st' := [.int (-2)]) (h' := zHp s t) rfl ?_
    obtain rfl := Option.some.inj hF
    exact zX_reti rfl
  · refine zX_go (c := 4) (pc' := 17) (lv' := [.ref 0, .int x1, .int x2, .retAddr 0, .retAddr 0]) (st' := [.int (nI 2), .int x2, .ref 3]) (h' := zHp s t) rfl ?_
    obtain ⟨q2, hq, hF⟩ := zbd_ok hF
    refine zX_inv (av := [.ref 3, .int x2, .int (nI 2)]) (st := []) (h' := zHp s t) rfl rfl rfl rfl rfl rfl (zcall_le (t_X3_isSort M _ _ _ _ _ hq) (by decide)) ?_
    refine zX_go (c := 1) (pc' := if q2 = 0 then 23 else 26) (lv' := [.ref 0, .int x1, .int x2, .retAddr 0, .retAddr 0]) (st' := []) (h' := zHp s t) rfl ?_
    refine zX_ite hF (fun c0 hF => ?_) (fun c0 hF => ?_)
    · refine zX_go (c := 1) (pc' := 25) (lv' := [.ref 0, .int x1, .int x2, .retAddr 0, .retAddr 0]) (st' := [.int (-2)]) (h' := zHp s t) rfl ?_
      obtain rfl := Option.some.inj hF
      exact zX_reti rfl
    · refine zX_go (c := 4) (pc' := 34) (lv' := [.ref 0, .int x1, .int x2, .retAddr 0, .retAddr 0]) (st' := [.int x2, .ref 26]) (h' := zHp s t) rfl ?_
      refine zX_bal (n := 100) rfl rfl hF (fun hF => ?_)
      refine zX_go (c := 1) (pc' := if (s 23 x2.toNatClampNeg) = 0 then 41 else 38) (lv' := [.ref 0, .int x1, .int x2, .retAddr 0, .retAddr 0]) (st' := []) (h' := zHp s t) rfl ?_
      refine zX_ite hF (fun c0 hF => ?_) (fun c0 hF => ?_)
      · refine zX_go (c := 3) (pc' := 44) (lv' := [.ref 0, .int x1, .int x2, .retAddr 0, .retAddr 0]) (st' := [.int x2, .int x1, .ref 0]) (h' := zHp s t) rfl ?_
        obtain ⟨q3, hq, hF⟩ := zbd_ok hF
        refine zX_inv (av := [.ref 0, .int x1, .int x2]) (st := []) (h' := zHp s t) rfl rfl rfl rfl rfl rfl (zcall_le (t_X5_brokenRule M _ _ _ _ _ hq) (by decide)) ?_
        refine zX_go (c := 3) (pc' := if q3 = 0 then 57 else 52) (lv' := [.ref 0, .int x1, .int x2, .int q3, .retAddr 0]) (st' := []) (h' := zHp s t) rfl ?_
        refine zX_ite hF (fun c0 hF => ?_) (fun c0 hF => ?_)
        · refine zX_go (c := 3) (pc' := 62) (lv' := [.ref 0, .int x1, .int x2, .int q3, .retAddr 0]) (st' := [.int x2, .ref 3]) (h' := zHp s t) rfl ?_
          obtain ⟨q4, hq, hF⟩ := zbd_ok hF
          refine zX_inv (av := [.ref 3, .int x2]) (st := []) (h' := zHp s t) rfl rfl rfl rfl rfl rfl (zcall_le (t_X3_markOf M _ _ _ _ hq) (by decide)) ?_
          refine zX_go (c := 5) (pc' := 74) (lv' := [.ref 0, .int x1, .int x2, .int q3, .int q4]) (st' := [.int q4, .int x1, .ref 4]) (h' := zHp s t) rfl ?_
          obtain ⟨q5, hq, hF⟩ := zbd_ok hF
          refine zX_inv (av := [.ref 4, .int x1, .int q4]) (st := []) (h' := zHp s t) rfl rfl rfl rfl rfl rfl (zcall_le (t_X2_howMany M _ _ _ _ _ hq) (by decide)) ?_
          refine zX_go (c := 2) (pc' := if q5 < (nI 4) then 84 else 81) (lv' := [.ref 0, .int x1, .int x2, .int q3, .int q4]) (st' := []) (h' := zHp s t) rfl ?_
          refine zX_ite hF (fun c0 hF => ?_) (fun c0 hF => ?_)
          · refine zX_go (c := 5) (pc' := 93) (lv' := [.ref 0, .int x1, .int x2, .int q3, .int q4]) (st' := [.int (nI 1), .int x2, .ref 26]) (h' := zHp s t) rfl ?_
            refine zX_bas (n := 100) (h' := zHp (zup s 23 x2.toNatClampNeg (zbn 1 (nI 1))) t) rfl rfl (zst_26 _ _ _ _) hF (fun hF => ?_)
            refine zX_go (c := 5) (pc' := 104) (lv' := [.ref 0, .int x1, .int x2, .int q3, .int q4]) (st' := [.int (nI 1), .int q4, .ref 16]) (h' := zHp (zup s 23 x2.toNatClampNeg (zbn 1 (nI 1))) t) rfl ?_
            refine zX_bas (n := 12) (h' := zHp (zup (zup s 23 x2.toNatClampNeg (zbn 1 (nI 1))) 11 q4.toNatClampNeg (zbn 1 (nI 1))) t) rfl rfl (zst_16 _ _ _ _) hF (fun hF => ?_)
            refine zX_go (c := 5) (pc' := 113) (lv' := [.ref 0, .int x1, .int x2, .int q3, .int q4]) (st' := [.int x2, .int q4, .int x1, .ref 4]) (h' := zHp (zup (zup s 23 x2.toNatClampNeg (zbn 1 (nI 1))) 11 q4.toNatClampNeg (zbn 1 (nI 1))) t) rfl ?_
            obtain ⟨q6, hq, hF⟩ := zbd_ok hF
            refine zX_inv (av := [.ref 4, .int x1, .int q4, .int x2]) (st := []) (h' := zHp q6 t) rfl rfl rfl rfl rfl rfl (zcall_le (t_X2_add M _ _ _ _ _ _ hq) (by decide)) ?_
            refine zX_go (c := 4) (pc' := 123) (lv' := [.ref 0, .int x1, .int x2, .int q3, .int q4]) (st' := [.int q4, .int x1, .ref 4]) (h' := zHp q6 t) rfl ?_
            obtain ⟨q7, hq, hF⟩ := zbd_ok hF
            refine zX_inv (av := [.ref 4, .int x1, .int q4]) (st := []) (h' := zHp q6 t) rfl rfl rfl rfl rfl rfl (zcall_le (t_X2_howMany M _ _ _ _ _ hq) (by decide)) ?_
            obtain rfl := Option.some.inj hF
            exact zX_reti rfl
          · refine zX_go (c := 1) (pc' := 83) (lv' := [.ref 0, .int x1, .int x2, .int q3, .int q4]) (st' := [.int (-3)]) (h' := zHp s t) rfl ?_
            obtain rfl := Option.some.inj hF
            exact zX_reti rfl
        · refine zX_go (c := 3) (pc' := 56) (lv' := [.ref 0, .int x1, .int x2, .int q3, .retAddr 0]) (st' := [.int ((-10) - q3)]) (h' := zHp s t) rfl ?_
          obtain rfl := Option.some.inj hF
          exact zX_reti rfl
      · refine zX_go (c := 1) (pc' := 40) (lv' := [.ref 0, .int x1, .int x2, .retAddr 0, .retAddr 0]) (st' := [.int (-4)]) (h' := zHp s t) rfl ?_
        obtain rfl := Option.some.inj hF
        exact zX_reti rfl
def f_X5_cause (M : Nat) (s : zS) : Option (Int32) :=
  some (s 1 0)
set_option maxRecDepth 100000 in
set_option maxHeartbeats 4000000 in
theorem t_X5_cause {L : Nat} {xs : Nat → Int32} (M : Nat) (s t : zS) (R : Int32) (hF : f_X5_cause M s = some R) : zcall (ztb L xs) 1 64 [.ref 0] (zHp s t) = some (some (.int R), zHp s t) := by
  unfold f_X5_cause at hF
  refine zcall_X (d := 0) (e := zm_X5_cause) rfl rfl ?_
  show zX (ztb L xs) (zcall (ztb L xs) 0) 5 1 zk_X5_cause 0 [.ref 0] [] (zHp s t) _
  refine zX_go (c := 2) (pc' := 4) (lv' := [.ref 0]) (st' := [.int (s 1 0)]) (h' := zHp s t) rfl ?_
  obtain rfl := Option.some.inj hF
  exact zX_reti rfl
def f_X5_asNumber (M : Nat) (s : zS) (x1 : Int32) : Option (Int32) :=
  if x1 = 0 then
   some (nI 0)
  else
   some (nI 1)
set_option maxRecDepth 100000 in
set_option maxHeartbeats 4000000 in
theorem t_X5_asNumber {L : Nat} {xs : Nat → Int32} (M : Nat) (s t : zS) (x1 : Int32) (R : Int32) (hF : f_X5_asNumber M s x1 = some R) : zcall (ztb L xs) 1 76 [.int x1] (zHp s t) = some (some (.int R), zHp s t) := by
  unfold f_X5_asNumber at hF
  refine zcall_X (d := 0) (e := zm_X5_asNumber) rfl rfl ?_
  show zX (ztb L xs) (zcall (ztb L xs) 0) 5 1 zk_X5_asNumber 0 [.int x1] [] (zHp s t) _
  refine zX_go (c := 2) (pc' := if x1 = 0 then 8 else 4) (lv' := [.int x1]) (st' := []) (h' := zHp s t) rfl ?_
  refine zX_ite hF (fun c0 hF => ?_) (fun c0 hF => ?_)
  · refine zX_go (c := 1) (pc' := 9) (lv' := [.int x1]) (st' := [.int (nI 0)]) (h' := zHp s t) rfl ?_
    obtain rfl := Option.some.inj hF
    exact zX_reti rfl
  · refine zX_go (c := 2) (pc' := 9) (lv' := [.int x1]) (st' := [.int (nI 1)]) (h' := zHp s t) rfl ?_
    obtain rfl := Option.some.inj hF
    exact zX_reti rfl
def f_X5_told (M : Nat) (s : zS) (x1 x2 : Int32) : Option (Int32) :=
  zbd (f_X3_has M s x1) (fun q1 =>
   if q1 = 0 then
    some (-2)
   else
    if x2 = (nI 0) then
     zq (zin x1 100) <|
     some (s 20 x1.toNatClampNeg)
    else
     if x2 = (nI 1) then
      zq (zin x1 100) <|
      some (s 21 x1.toNatClampNeg)
     else
      if x2 = (nI 2) then
       zq (zin x1 100) <|
       some (s 22 x1.toNatClampNeg)
      else
       if x2 = (nI 3) then
        zq (zin x1 100) <|
        zbd (f_X5_asNumber M s (s 23 x1.toNatClampNeg)) (fun q2 =>
         some q2)
       else
        if x2 = (nI 4) then
         zbd (g_X3_isWhole M 20 0 s x1 (nI 0)) (fun q3 =>
          zbd (f_X5_asNumber M s q3) (fun q4 =>
           some q4))
        else
         some (-2))
set_option maxRecDepth 100000 in
set_option maxHeartbeats 4000000 in
theorem t_X5_told {L : Nat} {xs : Nat → Int32} (M : Nat) (s t : zS) (x1 x2 : Int32) (R : Int32) (hF : f_X5_told M s x1 x2 = some R) : zcall (ztb L xs) 23 65 [.ref 0, .int x1, .int x2] (zHp s t) = some (some (.int R), zHp s t) := by
  unfold f_X5_told at hF
  refine zcall_X (d := 22) (e := zm_X5_told) rfl rfl ?_
  show zX (ztb L xs) (zcall (ztb L xs) 22) 5 1 zk_X5_told 0 [.ref 0, .int x1, .int x2] [] (zHp s t) _
  refine zX_go (c := 3) (pc' := 5) (lv' := [.ref 0, .int x1, .int x2]) (st' := [.int x1, .ref 3]) (h' := zHp s t) rfl ?_
  obtain ⟨q1, hq, hF⟩ := zbd_ok hF
  refine zX_inv (av := [.ref 3, .int x1]) (st := []) (h' := zHp s t) rfl rfl rfl rfl rfl rfl (zcall_le (t_X3_has M _ _ _ _ hq) (by decide)) ?_
  refine zX_go (c := 1) (pc' := if q1 = 0 then 11 else 14) (lv' := [.ref 0, .int x1, .int x2]) (st' := []) (h' := zHp s t) rfl ?_
  refine zX_ite hF (fun c0 hF => ?_) (fun c0 hF => ?_)
  · refine zX_go (c := 1) (pc' := 13) (lv' := [.ref 0, .int x1, .int x2]) (st' := [.int (-2)]) (h' := zHp s t) rfl ?_
    obtain rfl := Option.some.inj hF
    exact zX_reti rfl
  · refine zX_go (c := 2) (pc' := if x2 = (nI 0) then 48 else if x2 = (nI 1) then 58 else if x2 = (nI 2) then 68 else if x2 = (nI 3) then 78 else if x2 = (nI 4) then 91 else 104) (lv' := [.ref 0, .int x1, .int x2]) (st' := []) (h' := zHp s t) rfl ?_
    refine zX_ite hF (fun c0 hF => ?_) (fun c0 hF => ?_)
    · refine zX_go (c := 4) (pc' := 56) (lv' := [.ref 0, .int x1, .int x2]) (st' := [.int x1, .ref 23]) (h' := zHp s t) rfl ?_
      refine zX_ial (n := 100) rfl rfl hF (fun hF => ?_)
      obtain rfl := Option.some.inj hF
      exact zX_reti rfl
    · refine zX_ite hF (fun c0 hF => ?_) (fun c0 hF => ?_)
      · refine zX_go (c := 4) (pc' := 66) (lv' := [.ref 0, .int x1, .int x2]) (st' := [.int x1, .ref 24]) (h' := zHp s t) rfl ?_
        refine zX_ial (n := 100) rfl rfl hF (fun hF => ?_)
        obtain rfl := Option.some.inj hF
        exact zX_reti rfl
      · refine zX_ite hF (fun c0 hF => ?_) (fun c0 hF => ?_)
        · refine zX_go (c := 4) (pc' := 76) (lv' := [.ref 0, .int x1, .int x2]) (st' := [.int x1, .ref 25]) (h' := zHp s t) rfl ?_
          refine zX_ial (n := 100) rfl rfl hF (fun hF => ?_)
          obtain rfl := Option.some.inj hF
          exact zX_reti rfl
        · refine zX_ite hF (fun c0 hF => ?_) (fun c0 hF => ?_)
          · refine zX_go (c := 4) (pc' := 86) (lv' := [.ref 0, .int x1, .int x2]) (st' := [.int x1, .ref 26]) (h' := zHp s t) rfl ?_
            refine zX_bal (n := 100) rfl rfl hF (fun hF => ?_)
            obtain ⟨q2, hq, hF⟩ := zbd_ok hF
            refine zX_ins (av := [.int (s 23 x1.toNatClampNeg)]) (st := []) (h' := zHp s t) rfl rfl rfl rfl rfl rfl (zcall_le (t_X5_asNumber M _ _ _ _ hq) (by decide)) ?_
            obtain rfl := Option.some.inj hF
            exact zX_reti rfl
          · refine zX_ite hF (fun c0 hF => ?_) (fun c0 hF => ?_)
            · refine zX_go (c := 4) (pc' := 97) (lv' := [.ref 0, .int x1, .int x2]) (st' := [.int (nI 0), .int x1, .ref 3]) (h' := zHp s t) rfl ?_
              obtain ⟨q3, hq, hF⟩ := zbd_ok hF
              refine zX_inv (av := [.ref 3, .int x1, .int (nI 0)]) (st := []) (h' := zHp s t) rfl rfl rfl rfl rfl rfl (zcall_le (t_X3_isWhole M 20 _ _ _ _ _ hq) (by decide)) ?_
              obtain ⟨q4, hq, hF⟩ := zbd_ok hF
              refine zX_ins (av := [.int q3]) (st := []) (h' := zHp s t) rfl rfl rfl rfl rfl rfl (zcall_le (t_X5_asNumber M _ _ _ _ hq) (by decide)) ?_
              obtain rfl := Option.some.inj hF
              exact zX_reti rfl
            · refine zX_go (c := 1) (pc' := 106) (lv' := [.ref 0, .int x1, .int x2]) (st' := [.int (-2)]) (h' := zHp s t) rfl ?_
              obtain rfl := Option.some.inj hF
              exact zX_reti rfl
def f_X5_part (M : Nat) (s : zS) (x1 x2 : Int32) : Option (Int32) :=
  zbd (f_X3_isSort M s x1 (nI 1)) (fun q1 =>
   if q1 = 0 then
    zbd (f_X3_isSort M s x1 (nI 2)) (fun q2 =>
     if q2 = 0 then
      some (-2)
     else
      zbd (f_X3_elementByName M s x1 x2) (fun q3 =>
       some q3))
   else
    zbd (f_X3_inRow M s x1 x2) (fun q4 =>
     some q4))
set_option maxRecDepth 100000 in
set_option maxHeartbeats 4000000 in
theorem t_X5_part {L : Nat} {xs : Nat → Int32} (M : Nat) (s t : zS) (x1 x2 : Int32) (R : Int32) (hF : f_X5_part M s x1 x2 = some R) : zcall (ztb L xs) 4 66 [.ref 0, .int x1, .int x2] (zHp s t) = some (some (.int R), zHp s t) := by
  unfold f_X5_part at hF
  refine zcall_X (d := 3) (e := zm_X5_part) rfl rfl ?_
  show zX (ztb L xs) (zcall (ztb L xs) 3) 5 1 zk_X5_part 0 [.ref 0, .int x1, .int x2] [] (zHp s t) _
  refine zX_go (c := 4) (pc' := 6) (lv' := [.ref 0, .int x1, .int x2]) (st' := [.int (nI 1), .int x1, .ref 3]) (h' := zHp s t) rfl ?_
  obtain ⟨q1, hq, hF⟩ := zbd_ok hF
  refine zX_inv (av := [.ref 3, .int x1, .int (nI 1)]) (st := []) (h' := zHp s t) rfl rfl rfl rfl rfl rfl (zcall_le (t_X3_isSort M _ _ _ _ _ hq) (by decide)) ?_
  refine zX_go (c := 1) (pc' := if q1 = 0 then 22 else 12) (lv' := [.ref 0, .int x1, .int x2]) (st' := []) (h' := zHp s t) rfl ?_
  refine zX_ite hF (fun c0 hF => ?_) (fun c0 hF => ?_)
  · refine zX_go (c := 4) (pc' := 28) (lv' := [.ref 0, .int x1, .int x2]) (st' := [.int (nI 2), .int x1, .ref 3]) (h' := zHp s t) rfl ?_
    obtain ⟨q2, hq, hF⟩ := zbd_ok hF
    refine zX_inv (av := [.ref 3, .int x1, .int (nI 2)]) (st := []) (h' := zHp s t) rfl rfl rfl rfl rfl rfl (zcall_le (t_X3_isSort M _ _ _ _ _ hq) (by decide)) ?_
    refine zX_go (c := 1) (pc' := if q2 = 0 then 44 else 34) (lv' := [.ref 0, .int x1, .int x2]) (st' := []) (h' := zHp s t) rfl ?_
    refine zX_ite hF (fun c0 hF => ?_) (fun c0 hF => ?_)
    · refine zX_go (c := 1) (pc' := 46) (lv' := [.ref 0, .int x1, .int x2]) (st' := [.int (-2)]) (h' := zHp s t) rfl ?_
      obtain rfl := Option.some.inj hF
      exact zX_reti rfl
    · refine zX_go (c := 4) (pc' := 40) (lv' := [.ref 0, .int x1, .int x2]) (st' := [.int x2, .int x1, .ref 3]) (h' := zHp s t) rfl ?_
      obtain ⟨q3, hq, hF⟩ := zbd_ok hF
      refine zX_inv (av := [.ref 3, .int x1, .int x2]) (st := []) (h' := zHp s t) rfl rfl rfl rfl rfl rfl (zcall_le (t_X3_elementByName M _ _ _ _ _ hq) (by decide)) ?_
      obtain rfl := Option.some.inj hF
      exact zX_reti rfl
  · refine zX_go (c := 4) (pc' := 18) (lv' := [.ref 0, .int x1, .int x2]) (st' := [.int x2, .int x1, .ref 3]) (h' := zHp s t) rfl ?_
    obtain ⟨q4, hq, hF⟩ := zbd_ok hF
    refine zX_inv (av := [.ref 3, .int x1, .int x2]) (st := []) (h' := zHp s t) rfl rfl rfl rfl rfl rfl (zcall_le (t_X3_inRow M _ _ _ _ _ hq) (by decide)) ?_
    obtain rfl := Option.some.inj hF
    exact zX_reti rfl
def f_X5_equal (M : Nat) (s : zS) (x1 x2 : Int32) : Option (Int32) :=
  zbd (f_X3_has M s x1) (fun q1 =>
   if q1 = 0 then
    some (-2)
   else
    zbd (f_X3_has M s x2) (fun q2 =>
     if q2 = 0 then
      some (-2)
     else
      zbd (g_X3_areEqual M 20 0 s x1 x2 (nI 0)) (fun q3 =>
       zbd (f_X5_asNumber M s q3) (fun q4 =>
        some q4))))
set_option maxRecDepth 100000 in
set_option maxHeartbeats 4000000 in
theorem t_X5_equal {L : Nat} {xs : Nat → Int32} (M : Nat) (s t : zS) (x1 x2 : Int32) (R : Int32) (hF : f_X5_equal M s x1 x2 = some R) : zcall (ztb L xs) 23 67 [.ref 0, .int x1, .int x2] (zHp s t) = some (some (.int R), zHp s t) := by
  unfold f_X5_equal at hF
  refine zcall_X (d := 22) (e := zm_X5_equal) rfl rfl ?_
  show zX (ztb L xs) (zcall (ztb L xs) 22) 5 1 zk_X5_equal 0 [.ref 0, .int x1, .int x2] [] (zHp s t) _
  refine zX_go (c := 3) (pc' := 5) (lv' := [.ref 0, .int x1, .int x2]) (st' := [.int x1, .ref 3]) (h' := zHp s t) rfl ?_
  obtain ⟨q1, hq, hF⟩ := zbd_ok hF
  refine zX_inv (av := [.ref 3, .int x1]) (st := []) (h' := zHp s t) rfl rfl rfl rfl rfl rfl (zcall_le (t_X3_has M _ _ _ _ hq) (by decide)) ?_
  refine zX_go (c := 1) (pc' := if q1 = 0 then 22 else 11) (lv' := [.ref 0, .int x1, .int x2]) (st' := []) (h' := zHp s t) rfl ?_
  refine zX_ite hF (fun c0 hF => ?_) (fun c0 hF => ?_)
  · refine zX_go (c := 1) (pc' := 24) (lv' := [.ref 0, .int x1, .int x2]) (st' := [.int (-2)]) (h' := zHp s t) rfl ?_
    obtain rfl := Option.some.inj hF
    exact zX_reti rfl
  · refine zX_go (c := 3) (pc' := 16) (lv' := [.ref 0, .int x1, .int x2]) (st' := [.int x2, .ref 3]) (h' := zHp s t) rfl ?_
    obtain ⟨q2, hq, hF⟩ := zbd_ok hF
    refine zX_inv (av := [.ref 3, .int x2]) (st := []) (h' := zHp s t) rfl rfl rfl rfl rfl rfl (zcall_le (t_X3_has M _ _ _ _ hq) (by decide)) ?_
    refine zX_go (c := 1) (pc' := if q2 = 0 then 22 else 25) (lv' := [.ref 0, .int x1, .int x2]) (st' := []) (h' := zHp s t) rfl ?_
    refine zX_ite hF (fun c0 hF => ?_) (fun c0 hF => ?_)
    · refine zX_go (c := 1) (pc' := 24) (lv' := [.ref 0, .int x1, .int x2]) (st' := [.int (-2)]) (h' := zHp s t) rfl ?_
      obtain rfl := Option.some.inj hF
      exact zX_reti rfl
    · refine zX_go (c := 5) (pc' := 32) (lv' := [.ref 0, .int x1, .int x2]) (st' := [.int (nI 0), .int x2, .int x1, .ref 3]) (h' := zHp s t) rfl ?_
      obtain ⟨q3, hq, hF⟩ := zbd_ok hF
      refine zX_inv (av := [.ref 3, .int x1, .int x2, .int (nI 0)]) (st := []) (h' := zHp s t) rfl rfl rfl rfl rfl rfl (zcall_le (t_X3_areEqual M 20 _ _ _ _ _ _ hq) (by decide)) ?_
      obtain ⟨q4, hq, hF⟩ := zbd_ok hF
      refine zX_ins (av := [.int q3]) (st := []) (h' := zHp s t) rfl rfl rfl rfl rfl rfl (zcall_le (t_X5_asNumber M _ _ _ _ hq) (by decide)) ?_
      obtain rfl := Option.some.inj hF
      exact zX_reti rfl
def f_X5_written (M : Nat) (s : zS) (x1 : Int32) : Option (Int32 × zS) :=
  zbd (f_X3_has M s x1) (fun q1 =>
   if q1 = 0 then
    some ((-2), s)
   else
    zbd (f_X4_write M s x1) (fun q2 =>
     some (q2.1, q2.2)))
set_option maxRecDepth 100000 in
set_option maxHeartbeats 4000000 in
theorem t_X5_written {L : Nat} {xs : Nat → Int32} (M : Nat) (s t : zS) (x1 : Int32) (R : Int32 × zS) (hF : f_X5_written M s x1 = some R) : zcall (ztb L xs) 25 68 [.ref 0, .int x1] (zHp s t) = some (some (.int R.1), zHp R.2 t) := by
  unfold f_X5_written at hF
  refine zcall_X (d := 24) (e := zm_X5_written) rfl rfl ?_
  show zX (ztb L xs) (zcall (ztb L xs) 24) 5 1 zk_X5_written 0 [.ref 0, .int x1] [] (zHp s t) _
  refine zX_go (c := 3) (pc' := 5) (lv' := [.ref 0, .int x1]) (st' := [.int x1, .ref 3]) (h' := zHp s t) rfl ?_
  obtain ⟨q1, hq, hF⟩ := zbd_ok hF
  refine zX_inv (av := [.ref 3, .int x1]) (st := []) (h' := zHp s t) rfl rfl rfl rfl rfl rfl (zcall_le (t_X3_has M _ _ _ _ hq) (by decide)) ?_
  refine zX_go (c := 1) (pc' := if q1 = 0 then 22 else 11) (lv' := [.ref 0, .int x1]) (st' := []) (h' := zHp s t) rfl ?_
  refine zX_ite hF (fun c0 hF => ?_) (fun c0 hF => ?_)
  · refine zX_go (c := 1) (pc' := 24) (lv' := [.ref 0, .int x1]) (st' := [.int (-2)]) (h' := zHp s t) rfl ?_
    obtain rfl := Option.some.inj hF
    exact zX_reti rfl
  · refine zX_go (c := 3) (pc' := 16) (lv' := [.ref 0, .int x1]) (st' := [.int x1, .ref 5]) (h' := zHp s t) rfl ?_
    obtain ⟨q2, hq, hF⟩ := zbd_ok hF
    refine zX_inv (av := [.ref 5, .int x1]) (st := []) (h' := zHp q2.2 t) rfl rfl rfl rfl rfl rfl (zcall_le (t_X4_write M _ _ _ _ hq) (by decide)) ?_
    refine zX_go (c := 1) (pc' := 24) (lv' := [.ref 0, .int x1]) (st' := [.int q2.1]) (h' := zHp q2.2 t) rfl ?_
    obtain rfl := Option.some.inj hF
    exact zX_reti rfl
def f_X5_letter (M : Nat) (s : zS) (x1 : Int32) : Option (Int32) :=
  if x1 < 0 then
   some (-1)
  else
   if x1 < (s 30 0) then
    zq (zin x1 2000) <|
    some (s 29 x1.toNatClampNeg)
   else
    some (-1)
set_option maxRecDepth 100000 in
set_option maxHeartbeats 4000000 in
theorem t_X5_letter {L : Nat} {xs : Nat → Int32} (M : Nat) (s t : zS) (x1 : Int32) (R : Int32) (hF : f_X5_letter M s x1 = some R) : zcall (ztb L xs) 1 69 [.ref 0, .int x1] (zHp s t) = some (some (.int R), zHp s t) := by
  unfold f_X5_letter at hF
  refine zcall_X (d := 0) (e := zm_X5_letter) rfl rfl ?_
  show zX (ztb L xs) (zcall (ztb L xs) 0) 5 1 zk_X5_letter 0 [.ref 0, .int x1] [] (zHp s t) _
  refine zX_go (c := 2) (pc' := if x1 < 0 then 27 else 4) (lv' := [.ref 0, .int x1]) (st' := []) (h' := zHp s t) rfl ?_
  refine zX_ite hF (fun c0 hF => ?_) (fun c0 hF => ?_)
  · refine zX_go (c := 1) (pc' := 28) (lv' := [.ref 0, .int x1]) (st' := [.int (-1)]) (h' := zHp s t) rfl ?_
    obtain rfl := Option.some.inj hF
    exact zX_reti rfl
  · refine zX_go (c := 5) (pc' := if x1 < (s 30 0) then 15 else 27) (lv' := [.ref 0, .int x1]) (st' := []) (h' := zHp s t) rfl ?_
    refine zX_ite hF (fun c0 hF => ?_) (fun c0 hF => ?_)
    · refine zX_go (c := 4) (pc' := 23) (lv' := [.ref 0, .int x1]) (st' := [.int x1, .ref 31]) (h' := zHp s t) rfl ?_
      refine zX_bal (n := 2000) rfl rfl hF (fun hF => ?_)
      refine zX_go (c := 1) (pc' := 28) (lv' := [.ref 0, .int x1]) (st' := [.int (s 29 x1.toNatClampNeg)]) (h' := zHp s t) rfl ?_
      obtain rfl := Option.some.inj hF
      exact zX_reti rfl
    · refine zX_go (c := 1) (pc' := 28) (lv' := [.ref 0, .int x1]) (st' := [.int (-1)]) (h' := zHp s t) rfl ?_
      obtain rfl := Option.some.inj hF
      exact zX_reti rfl
def f_X5_gatheredAt (M : Nat) (s : zS) (x1 x2 : Int32) : Option (Int32) :=
  if x2 = (-1) then
   some (-1)
  else
   zq (zin x2 12) <|
   if (s 4 x2.toNatClampNeg) = (nI 2) then
    zbd (f_X2_howMany M s x1 x2) (fun q1 =>
     if (nI 1) < q1 then
      some ((-100) - q1)
     else
      some (-1))
   else
    some (-1)
set_option maxRecDepth 100000 in
set_option maxHeartbeats 4000000 in
theorem t_X5_gatheredAt {L : Nat} {xs : Nat → Int32} (M : Nat) (s t : zS) (x1 x2 : Int32) (R : Int32) (hF : f_X5_gatheredAt M s x1 x2 = some R) : zcall (ztb L xs) 2 84 [.ref 0, .int x1, .int x2] (zHp s t) = some (some (.int R), zHp s t) := by
  unfold f_X5_gatheredAt at hF
  refine zcall_X (d := 1) (e := zm_X5_gatheredAt) rfl rfl ?_
  show zX (ztb L xs) (zcall (ztb L xs) 1) 5 1 zk_X5_gatheredAt 0 [.ref 0, .int x1, .int x2, .retAddr 0] [] (zHp s t) _
  refine zX_go (c := 3) (pc' := if x2 = (-1) then 18 else 5) (lv' := [.ref 0, .int x1, .int x2, .retAddr 0]) (st' := []) (h' := zHp s t) rfl ?_
  refine zX_ite hF (fun c0 hF => ?_) (fun c0 hF => ?_)
  · refine zX_go (c := 1) (pc' := 19) (lv' := [.ref 0, .int x1, .int x2, .retAddr 0]) (st' := [.int (-1)]) (h' := zHp s t) rfl ?_
    obtain rfl := Option.some.inj hF
    exact zX_reti rfl
  · refine zX_go (c := 4) (pc' := 13) (lv' := [.ref 0, .int x1, .int x2, .retAddr 0]) (st' := [.int x2, .ref 9]) (h' := zHp s t) rfl ?_
    refine zX_ial (n := 12) rfl rfl hF (fun hF => ?_)
    refine zX_go (c := 2) (pc' := if (s 4 x2.toNatClampNeg) = (nI 2) then 20 else 18) (lv' := [.ref 0, .int x1, .int x2, .retAddr 0]) (st' := []) (h' := zHp s t) rfl ?_
    refine zX_ite hF (fun c0 hF => ?_) (fun c0 hF => ?_)
    · refine zX_go (c := 4) (pc' := 26) (lv' := [.ref 0, .int x1, .int x2, .retAddr 0]) (st' := [.int x2, .int x1, .ref 4]) (h' := zHp s t) rfl ?_
      obtain ⟨q1, hq, hF⟩ := zbd_ok hF
      refine zX_inv (av := [.ref 4, .int x1, .int x2]) (st := []) (h' := zHp s t) rfl rfl rfl rfl rfl rfl (zcall_le (t_X2_howMany M _ _ _ _ _ hq) (by decide)) ?_
      refine zX_go (c := 4) (pc' := if (nI 1) < q1 then 35 else 42) (lv' := [.ref 0, .int x1, .int x2, .int q1]) (st' := []) (h' := zHp s t) rfl ?_
      refine zX_ite hF (fun c0 hF => ?_) (fun c0 hF => ?_)
      · refine zX_go (c := 4) (pc' := 43) (lv' := [.ref 0, .int x1, .int x2, .int q1]) (st' := [.int ((-100) - q1)]) (h' := zHp s t) rfl ?_
        obtain rfl := Option.some.inj hF
        exact zX_reti rfl
      · refine zX_go (c := 1) (pc' := 43) (lv' := [.ref 0, .int x1, .int x2, .int q1]) (st' := [.int (-1)]) (h' := zHp s t) rfl ?_
        obtain rfl := Option.some.inj hF
        exact zX_reti rfl
    · refine zX_go (c := 1) (pc' := 19) (lv' := [.ref 0, .int x1, .int x2, .retAddr 0]) (st' := [.int (-1)]) (h' := zHp s t) rfl ?_
      obtain rfl := Option.some.inj hF
      exact zX_reti rfl
def f_X5_ownAt (M : Nat) (s : zS) (x1 x2 : Int32) : Option (Int32) :=
  zq (zin x2 12) <|
  if (s 4 x2.toNatClampNeg) = (nI 2) then
   zbd (f_X2_howMany M s x1 x2) (fun q1 =>
    if q1 = 0 then
     zq (zin x2 12) <|
     zbd (f_X5_gatheredAt M s x1 (s 9 x2.toNatClampNeg)) (fun q2 =>
      some q2)
    else
     if q1 = (nI 1) then
      zbd (f_X2_nth M s x1 x2 (nI 0)) (fun q3 =>
       some q3)
     else
      some (-1))
  else
   some (-1)
set_option maxRecDepth 100000 in
set_option maxHeartbeats 4000000 in
theorem t_X5_ownAt {L : Nat} {xs : Nat → Int32} (M : Nat) (s t : zS) (x1 x2 : Int32) (R : Int32) (hF : f_X5_ownAt M s x1 x2 = some R) : zcall (ztb L xs) 3 83 [.ref 0, .int x1, .int x2] (zHp s t) = some (some (.int R), zHp s t) := by
  unfold f_X5_ownAt at hF
  refine zcall_X (d := 2) (e := zm_X5_ownAt) rfl rfl ?_
  show zX (ztb L xs) (zcall (ztb L xs) 2) 5 1 zk_X5_ownAt 0 [.ref 0, .int x1, .int x2, .retAddr 0] [] (zHp s t) _
  refine zX_go (c := 4) (pc' := 8) (lv' := [.ref 0, .int x1, .int x2, .retAddr 0]) (st' := [.int x2, .ref 9]) (h' := zHp s t) rfl ?_
  refine zX_ial (n := 12) rfl rfl hF (fun hF => ?_)
  refine zX_go (c := 2) (pc' := if (s 4 x2.toNatClampNeg) = (nI 2) then 15 else 13) (lv' := [.ref 0, .int x1, .int x2, .retAddr 0]) (st' := []) (h' := zHp s t) rfl ?_
  refine zX_ite hF (fun c0 hF => ?_) (fun c0 hF => ?_)
  · refine zX_go (c := 4) (pc' := 21) (lv' := [.ref 0, .int x1, .int x2, .retAddr 0]) (st' := [.int x2, .int x1, .ref 4]) (h' := zHp s t) rfl ?_
    obtain ⟨q1, hq, hF⟩ := zbd_ok hF
    refine zX_inv (av := [.ref 4, .int x1, .int x2]) (st := []) (h' := zHp s t) rfl rfl rfl rfl rfl rfl (zcall_le (t_X2_howMany M _ _ _ _ _ hq) (by decide)) ?_
    refine zX_go (c := 3) (pc' := if q1 = 0 then 29 else 44) (lv' := [.ref 0, .int x1, .int x2, .int q1]) (st' := []) (h' := zHp s t) rfl ?_
    refine zX_ite hF (fun c0 hF => ?_) (fun c0 hF => ?_)
    · refine zX_go (c := 6) (pc' := 39) (lv' := [.ref 0, .int x1, .int x2, .int q1]) (st' := [.int x2, .ref 14, .int x1, .ref 0]) (h' := zHp s t) rfl ?_
      refine zX_ial (n := 12) rfl rfl hF (fun hF => ?_)
      obtain ⟨q2, hq, hF⟩ := zbd_ok hF
      refine zX_inv (av := [.ref 0, .int x1, .int (s 9 x2.toNatClampNeg)]) (st := []) (h' := zHp s t) rfl rfl rfl rfl rfl rfl (zcall_le (t_X5_gatheredAt M _ _ _ _ _ hq) (by decide)) ?_
      obtain rfl := Option.some.inj hF
      exact zX_reti rfl
    · refine zX_go (c := 3) (pc' := if q1 = (nI 1) then 49 else 62) (lv' := [.ref 0, .int x1, .int x2, .int q1]) (st' := []) (h' := zHp s t) rfl ?_
      refine zX_ite hF (fun c0 hF => ?_) (fun c0 hF => ?_)
      · refine zX_go (c := 5) (pc' := 56) (lv' := [.ref 0, .int x1, .int x2, .int q1]) (st' := [.int (nI 0), .int x2, .int x1, .ref 4]) (h' := zHp s t) rfl ?_
        obtain ⟨q3, hq, hF⟩ := zbd_ok hF
        refine zX_inv (av := [.ref 4, .int x1, .int x2, .int (nI 0)]) (st := []) (h' := zHp s t) rfl rfl rfl rfl rfl rfl (zcall_le (t_X2_nth M _ _ _ _ _ _ hq) (by decide)) ?_
        refine zX_go (c := 1) (pc' := 63) (lv' := [.ref 0, .int x1, .int x2, .int q1]) (st' := [.int q3]) (h' := zHp s t) rfl ?_
        obtain rfl := Option.some.inj hF
        exact zX_reti rfl
      · refine zX_go (c := 1) (pc' := 63) (lv' := [.ref 0, .int x1, .int x2, .int q1]) (st' := [.int (-1)]) (h' := zHp s t) rfl ?_
        obtain rfl := Option.some.inj hF
        exact zX_reti rfl
  · refine zX_go (c := 1) (pc' := 14) (lv' := [.ref 0, .int x1, .int x2, .retAddr 0]) (st' := [.int (-1)]) (h' := zHp s t) rfl ?_
    obtain rfl := Option.some.inj hF
    exact zX_reti rfl
def f_X5_inheritsFrom (M : Nat) (s : zS) (x1 x2 : Int32) : Option (Int32) :=
  zq (zin x2 12) <|
  if (s 5 x2.toNatClampNeg) = 0 then
   some (-1)
  else
   zbd (f_X1_parentOf M s x1) (fun q1 =>
    some q1)
set_option maxRecDepth 100000 in
set_option maxHeartbeats 4000000 in
theorem t_X5_inheritsFrom {L : Nat} {xs : Nat → Int32} (M : Nat) (s t : zS) (x1 x2 : Int32) (R : Int32) (hF : f_X5_inheritsFrom M s x1 x2 = some R) : zcall (ztb L xs) 4 86 [.ref 0, .int x1, .int x2] (zHp s t) = some (some (.int R), zHp s t) := by
  unfold f_X5_inheritsFrom at hF
  refine zcall_X (d := 3) (e := zm_X5_inheritsFrom) rfl rfl ?_
  show zX (ztb L xs) (zcall (ztb L xs) 3) 5 1 zk_X5_inheritsFrom 0 [.ref 0, .int x1, .int x2] [] (zHp s t) _
  refine zX_go (c := 4) (pc' := 8) (lv' := [.ref 0, .int x1, .int x2]) (st' := [.int x2, .ref 10]) (h' := zHp s t) rfl ?_
  refine zX_bal (n := 12) rfl rfl hF (fun hF => ?_)
  refine zX_go (c := 1) (pc' := if (s 5 x2.toNatClampNeg) = 0 then 23 else 12) (lv' := [.ref 0, .int x1, .int x2]) (st' := []) (h' := zHp s t) rfl ?_
  refine zX_ite hF (fun c0 hF => ?_) (fun c0 hF => ?_)
  · refine zX_go (c := 1) (pc' := 24) (lv' := [.ref 0, .int x1, .int x2]) (st' := [.int (-1)]) (h' := zHp s t) rfl ?_
    obtain rfl := Option.some.inj hF
    exact zX_reti rfl
  · refine zX_go (c := 3) (pc' := 17) (lv' := [.ref 0, .int x1, .int x2]) (st' := [.int x1, .ref 2]) (h' := zHp s t) rfl ?_
    obtain ⟨q1, hq, hF⟩ := zbd_ok hF
    refine zX_inv (av := [.ref 2, .int x1]) (st := []) (h' := zHp s t) rfl rfl rfl rfl rfl rfl (zcall_le (t_X1_parentOf M _ _ _ _ hq) (by decide)) ?_
    refine zX_go (c := 1) (pc' := 24) (lv' := [.ref 0, .int x1, .int x2]) (st' := [.int q1]) (h' := zHp s t) rfl ?_
    obtain rfl := Option.some.inj hF
    exact zX_reti rfl
def l_X5_foundAt (M : Nat) : Nat → zS → Int32 → Int32 → Int32 → Option (Int32)
  | 0, _, _, _, _ => none
  | N + 1, s, y2, y3, y4 =>
    if y4 < (nI 40) then
     if y3 = (-1) then
      some (-1)
     else
      zbd (f_X5_ownAt M s y3 y2) (fun q1 =>
       if q1 = (-1) then
        zbd (f_X5_inheritsFrom M s y3 y2) (fun q2 =>
         l_X5_foundAt M N s y2 q2 (y4 + (nI 1)))
       else
        some q1)
    else
     some (-1)
set_option maxRecDepth 100000 in
set_option maxHeartbeats 4000000 in
theorem tl_X5_foundAt {L : Nat} {xs : Nat → Int32} (M : Nat) (t : zS) : ∀ (N : Nat) (s : zS) (y2 : Int32) (y3 : Int32) (y4 : Int32) (R : Int32) (u1 : Int32) (u5 : Value) (hF : l_X5_foundAt M N s y2 y3 y4 = some R), zX (ztb L xs) (zcall (ztb L xs) 4) 5 1 zk_X5_foundAt 5 [.ref 0, .int u1, .int y2, .int y3, .int y4, u5] [] (zHp s t) (some (.int R), zHp s t) := by
  intro N
  induction N with
  | zero => intro s y2 y3 y4 R u1 u5 hF; cases hF
  | succ N ih =>
    intro s y2 y3 y4 R u1 u5 hF
    unfold l_X5_foundAt at hF
    refine zX_go (c := 3) (pc' := if y4 < (nI 40) then 12 else 47) (lv' := [.ref 0, .int u1, .int y2, .int y3, .int y4, u5]) (st' := []) (h' := zHp s t) rfl ?_
    refine zX_ite hF (fun c0 hF => ?_) (fun c0 hF => ?_)
    · refine zX_go (c := 3) (pc' := if y3 = (-1) then 47 else 17) (lv' := [.ref 0, .int u1, .int y2, .int y3, .int y4, u5]) (st' := []) (h' := zHp s t) rfl ?_
      refine zX_ite hF (fun c0 hF => ?_) (fun c0 hF => ?_)
      · refine zX_go (c := 1) (pc' := 48) (lv' := [.ref 0, .int u1, .int y2, .int y3, .int y4, u5]) (st' := [.int (-1)]) (h' := zHp s t) rfl ?_
        obtain rfl := Option.some.inj hF
        exact zX_reti rfl
      · refine zX_go (c := 3) (pc' := 20) (lv' := [.ref 0, .int u1, .int y2, .int y3, .int y4, u5]) (st' := [.int y2, .int y3, .ref 0]) (h' := zHp s t) rfl ?_
        obtain ⟨q1, hq, hF⟩ := zbd_ok hF
        refine zX_inv (av := [.ref 0, .int y3, .int y2]) (st := []) (h' := zHp s t) rfl rfl rfl rfl rfl rfl (zcall_le (t_X5_ownAt M _ _ _ _ _ hq) (by decide)) ?_
        refine zX_go (c := 4) (pc' := if q1 = (-1) then 34 else 31) (lv' := [.ref 0, .int u1, .int y2, .int y3, .int y4, .int q1]) (st' := []) (h' := zHp s t) rfl ?_
        refine zX_ite hF (fun c0 hF => ?_) (fun c0 hF => ?_)
        · refine zX_go (c := 3) (pc' := 37) (lv' := [.ref 0, .int u1, .int y2, .int y3, .int y4, .int q1]) (st' := [.int y2, .int y3, .ref 0]) (h' := zHp s t) rfl ?_
          obtain ⟨q2, hq, hF⟩ := zbd_ok hF
          refine zX_inv (av := [.ref 0, .int y3, .int y2]) (st := []) (h' := zHp s t) rfl rfl rfl rfl rfl rfl (zcall_le (t_X5_inheritsFrom M _ _ _ _ _ hq) (by decide)) ?_
          refine zX_go (c := 3) (pc' := 5) (lv' := [.ref 0, .int u1, .int y2, .int q2, .int (y4 + (nI 1)), .int q1]) (st' := []) (h' := zHp s t) rfl ?_
          exact ih s y2 q2 (y4 + (nI 1)) _ u1 (.int q1) hF
        · refine zX_go (c := 1) (pc' := 33) (lv' := [.ref 0, .int u1, .int y2, .int y3, .int y4, .int q1]) (st' := [.int q1]) (h' := zHp s t) rfl ?_
          obtain rfl := Option.some.inj hF
          exact zX_reti rfl
    · refine zX_go (c := 1) (pc' := 48) (lv' := [.ref 0, .int u1, .int y2, .int y3, .int y4, u5]) (st' := [.int (-1)]) (h' := zHp s t) rfl ?_
      obtain rfl := Option.some.inj hF
      exact zX_reti rfl
def f_X5_foundAt (M : Nat) (s : zS) (x1 x2 : Int32) : Option (Int32) :=
  l_X5_foundAt M M s x2 x1 (nI 0)
set_option maxRecDepth 100000 in
set_option maxHeartbeats 4000000 in
theorem t_X5_foundAt {L : Nat} {xs : Nat → Int32} (M : Nat) (s t : zS) (x1 x2 : Int32) (R : Int32) (hF : f_X5_foundAt M s x1 x2 = some R) : zcall (ztb L xs) 5 85 [.ref 0, .int x1, .int x2] (zHp s t) = some (some (.int R), zHp s t) := by
  unfold f_X5_foundAt at hF
  refine zcall_X (d := 4) (e := zm_X5_foundAt) rfl rfl ?_
  show zX (ztb L xs) (zcall (ztb L xs) 4) 5 1 zk_X5_foundAt 0 [.ref 0, .int x1, .int x2, .retAddr 0, .retAddr 0, .retAddr 0] [] (zHp s t) _
  refine zX_go (c := 4) (pc' := 5) (lv' := [.ref 0, .int x1, .int x2, .int x1, .int (nI 0), .retAddr 0]) (st' := []) (h' := zHp s t) rfl ?_
  exact tl_X5_foundAt M t M s x2 x1 (nI 0) _ x1 (.retAddr 0) hF
def f_X5_ask (M : Nat) (s : zS) (x1 x2 x3 : Int32) : Option (Int32) :=
  zbd (f_X1_has M s x1) (fun q1 =>
   if q1 = 0 then
    some (-2)
   else
    zbd (f_X0_has M s x2) (fun q2 =>
     if q2 = 0 then
      some (-2)
     else
      if x3 = 0 then
       zbd (f_X5_ownAt M s x1 x2) (fun q3 =>
        some q3)
      else
       zbd (f_X5_foundAt M s x1 x2) (fun q4 =>
        some q4)))
set_option maxRecDepth 100000 in
set_option maxHeartbeats 4000000 in
theorem t_X5_ask {L : Nat} {xs : Nat → Int32} (M : Nat) (s t : zS) (x1 x2 x3 : Int32) (R : Int32) (hF : f_X5_ask M s x1 x2 x3 = some R) : zcall (ztb L xs) 6 70 [.ref 0, .int x1, .int x2, .int x3] (zHp s t) = some (some (.int R), zHp s t) := by
  unfold f_X5_ask at hF
  refine zcall_X (d := 5) (e := zm_X5_ask) rfl rfl ?_
  show zX (ztb L xs) (zcall (ztb L xs) 5) 5 1 zk_X5_ask 0 [.ref 0, .int x1, .int x2, .int x3] [] (zHp s t) _
  refine zX_go (c := 3) (pc' := 5) (lv' := [.ref 0, .int x1, .int x2, .int x3]) (st' := [.int x1, .ref 2]) (h' := zHp s t) rfl ?_
  obtain ⟨q1, hq, hF⟩ := zbd_ok hF
  refine zX_inv (av := [.ref 2, .int x1]) (st := []) (h' := zHp s t) rfl rfl rfl rfl rfl rfl (zcall_le (t_X1_has M _ _ _ _ hq) (by decide)) ?_
  refine zX_go (c := 1) (pc' := if q1 = 0 then 22 else 11) (lv' := [.ref 0, .int x1, .int x2, .int x3]) (st' := []) (h' := zHp s t) rfl ?_
  refine zX_ite hF (fun c0 hF => ?_) (fun c0 hF => ?_)
  · refine zX_go (c := 1) (pc' := 24) (lv' := [.ref 0, .int x1, .int x2, .int x3]) (st' := [.int (-2)]) (h' := zHp s t) rfl ?_
    obtain rfl := Option.some.inj hF
    exact zX_reti rfl
  · refine zX_go (c := 3) (pc' := 16) (lv' := [.ref 0, .int x1, .int x2, .int x3]) (st' := [.int x2, .ref 1]) (h' := zHp s t) rfl ?_
    obtain ⟨q2, hq, hF⟩ := zbd_ok hF
    refine zX_inv (av := [.ref 1, .int x2]) (st := []) (h' := zHp s t) rfl rfl rfl rfl rfl rfl (zcall_le (t_X0_has M _ _ _ _ hq) (by decide)) ?_
    refine zX_go (c := 1) (pc' := if q2 = 0 then 22 else 25) (lv' := [.ref 0, .int x1, .int x2, .int x3]) (st' := []) (h' := zHp s t) rfl ?_
    refine zX_ite hF (fun c0 hF => ?_) (fun c0 hF => ?_)
    · refine zX_go (c := 1) (pc' := 24) (lv' := [.ref 0, .int x1, .int x2, .int x3]) (st' := [.int (-2)]) (h' := zHp s t) rfl ?_
      obtain rfl := Option.some.inj hF
      exact zX_reti rfl
    · refine zX_go (c := 2) (pc' := if x3 = 0 then 38 else 29) (lv' := [.ref 0, .int x1, .int x2, .int x3]) (st' := []) (h' := zHp s t) rfl ?_
      refine zX_ite hF (fun c0 hF => ?_) (fun c0 hF => ?_)
      · refine zX_go (c := 3) (pc' := 41) (lv' := [.ref 0, .int x1, .int x2, .int x3]) (st' := [.int x2, .int x1, .ref 0]) (h' := zHp s t) rfl ?_
        obtain ⟨q3, hq, hF⟩ := zbd_ok hF
        refine zX_inv (av := [.ref 0, .int x1, .int x2]) (st := []) (h' := zHp s t) rfl rfl rfl rfl rfl rfl (zcall_le (t_X5_ownAt M _ _ _ _ _ hq) (by decide)) ?_
        obtain rfl := Option.some.inj hF
        exact zX_reti rfl
      · refine zX_go (c := 3) (pc' := 32) (lv' := [.ref 0, .int x1, .int x2, .int x3]) (st' := [.int x2, .int x1, .ref 0]) (h' := zHp s t) rfl ?_
        obtain ⟨q4, hq, hF⟩ := zbd_ok hF
        refine zX_inv (av := [.ref 0, .int x1, .int x2]) (st := []) (h' := zHp s t) rfl rfl rfl rfl rfl rfl (zcall_le (t_X5_foundAt M _ _ _ _ _ hq) (by decide)) ?_
        refine zX_go (c := 1) (pc' := 44) (lv' := [.ref 0, .int x1, .int x2, .int x3]) (st' := [.int q4]) (h' := zHp s t) rfl ?_
        obtain rfl := Option.some.inj hF
        exact zX_reti rfl
def f_X5_containerRowAt (M : Nat) (s : zS) (x1 x2 : Int32) : Option (Int32) :=
  zq (zin x2 12) <|
  if (s 8 x2.toNatClampNeg) = (-1) then
   some (-1)
  else
   zbd (f_X5_ownAt M s x1 (s 8 x2.toNatClampNeg)) (fun q1 =>
    zbd (f_X3_isSort M s q1 (nI 2)) (fun q2 =>
     if q2 = 0 then
      some (-1)
     else
      zbd (f_X3_elementByName M s q1 (nI 0)) (fun q3 =>
       some q3)))
set_option maxRecDepth 100000 in
set_option maxHeartbeats 4000000 in
theorem t_X5_containerRowAt {L : Nat} {xs : Nat → Int32} (M : Nat) (s t : zS) (x1 x2 : Int32) (R : Int32) (hF : f_X5_containerRowAt M s x1 x2 = some R) : zcall (ztb L xs) 4 89 [.ref 0, .int x1, .int x2] (zHp s t) = some (some (.int R), zHp s t) := by
  unfold f_X5_containerRowAt at hF
  refine zcall_X (d := 3) (e := zm_X5_containerRowAt) rfl rfl ?_
  show zX (ztb L xs) (zcall (ztb L xs) 3) 5 1 zk_X5_containerRowAt 0 [.ref 0, .int x1, .int x2, .retAddr 0, .retAddr 0] [] (zHp s t) _
  refine zX_go (c := 4) (pc' := 8) (lv' := [.ref 0, .int x1, .int x2, .retAddr 0, .retAddr 0]) (st' := [.int x2, .ref 13]) (h' := zHp s t) rfl ?_
  refine zX_ial (n := 12) rfl rfl hF (fun hF => ?_)
  refine zX_go (c := 4) (pc' := if (s 8 x2.toNatClampNeg) = (-1) then 15 else 17) (lv' := [.ref 0, .int x1, .int x2, .int (s 8 x2.toNatClampNeg), .retAddr 0]) (st' := []) (h' := zHp s t) rfl ?_
  refine zX_ite hF (fun c0 hF => ?_) (fun c0 hF => ?_)
  · refine zX_go (c := 1) (pc' := 16) (lv' := [.ref 0, .int x1, .int x2, .int (s 8 x2.toNatClampNeg), .retAddr 0]) (st' := [.int (-1)]) (h' := zHp s t) rfl ?_
    obtain rfl := Option.some.inj hF
    exact zX_reti rfl
  · refine zX_go (c := 3) (pc' := 20) (lv' := [.ref 0, .int x1, .int x2, .int (s 8 x2.toNatClampNeg), .retAddr 0]) (st' := [.int (s 8 x2.toNatClampNeg), .int x1, .ref 0]) (h' := zHp s t) rfl ?_
    obtain ⟨q1, hq, hF⟩ := zbd_ok hF
    refine zX_inv (av := [.ref 0, .int x1, .int (s 8 x2.toNatClampNeg)]) (st := []) (h' := zHp s t) rfl rfl rfl rfl rfl rfl (zcall_le (t_X5_ownAt M _ _ _ _ _ hq) (by decide)) ?_
    refine zX_go (c := 5) (pc' := 32) (lv' := [.ref 0, .int x1, .int x2, .int (s 8 x2.toNatClampNeg), .int q1]) (st' := [.int (nI 2), .int q1, .ref 3]) (h' := zHp s t) rfl ?_
    obtain ⟨q2, hq, hF⟩ := zbd_ok hF
    refine zX_inv (av := [.ref 3, .int q1, .int (nI 2)]) (st := []) (h' := zHp s t) rfl rfl rfl rfl rfl rfl (zcall_le (t_X3_isSort M _ _ _ _ _ hq) (by decide)) ?_
    refine zX_go (c := 1) (pc' := if q2 = 0 then 51 else 38) (lv' := [.ref 0, .int x1, .int x2, .int (s 8 x2.toNatClampNeg), .int q1]) (st' := []) (h' := zHp s t) rfl ?_
    refine zX_ite hF (fun c0 hF => ?_) (fun c0 hF => ?_)
    · refine zX_go (c := 1) (pc' := 52) (lv' := [.ref 0, .int x1, .int x2, .int (s 8 x2.toNatClampNeg), .int q1]) (st' := [.int (-1)]) (h' := zHp s t) rfl ?_
      obtain rfl := Option.some.inj hF
      exact zX_reti rfl
    · refine zX_go (c := 4) (pc' := 45) (lv' := [.ref 0, .int x1, .int x2, .int (s 8 x2.toNatClampNeg), .int q1]) (st' := [.int (nI 0), .int q1, .ref 3]) (h' := zHp s t) rfl ?_
      obtain ⟨q3, hq, hF⟩ := zbd_ok hF
      refine zX_inv (av := [.ref 3, .int q1, .int (nI 0)]) (st := []) (h' := zHp s t) rfl rfl rfl rfl rfl rfl (zcall_le (t_X3_elementByName M _ _ _ _ _ hq) (by decide)) ?_
      refine zX_go (c := 1) (pc' := 52) (lv' := [.ref 0, .int x1, .int x2, .int (s 8 x2.toNatClampNeg), .int q1]) (st' := [.int q3]) (h' := zHp s t) rfl ?_
      obtain rfl := Option.some.inj hF
      exact zX_reti rfl
def f_X5_howManyHere (M : Nat) (s : zS) (x1 x2 : Int32) : Option (Int32) :=
  zbd (f_X2_howMany M s x1 x2) (fun q1 =>
   if 0 < q1 then
    some q1
   else
    zbd (f_X5_containerRowAt M s x1 x2) (fun q2 =>
     if q2 = (-1) then
      some (nI 0)
     else
      zq (zin q2 100) <|
      some (s 22 q2.toNatClampNeg)))
set_option maxRecDepth 100000 in
set_option maxHeartbeats 4000000 in
theorem t_X5_howManyHere {L : Nat} {xs : Nat → Int32} (M : Nat) (s t : zS) (x1 x2 : Int32) (R : Int32) (hF : f_X5_howManyHere M s x1 x2 = some R) : zcall (ztb L xs) 5 88 [.ref 0, .int x1, .int x2] (zHp s t) = some (some (.int R), zHp s t) := by
  unfold f_X5_howManyHere at hF
  refine zcall_X (d := 4) (e := zm_X5_howManyHere) rfl rfl ?_
  show zX (ztb L xs) (zcall (ztb L xs) 4) 5 1 zk_X5_howManyHere 0 [.ref 0, .int x1, .int x2, .retAddr 0, .retAddr 0] [] (zHp s t) _
  refine zX_go (c := 4) (pc' := 6) (lv' := [.ref 0, .int x1, .int x2, .retAddr 0, .retAddr 0]) (st' := [.int x2, .int x1, .ref 4]) (h' := zHp s t) rfl ?_
  obtain ⟨q1, hq, hF⟩ := zbd_ok hF
  refine zX_inv (av := [.ref 4, .int x1, .int x2]) (st := []) (h' := zHp s t) rfl rfl rfl rfl rfl rfl (zcall_le (t_X2_howMany M _ _ _ _ _ hq) (by decide)) ?_
  refine zX_go (c := 3) (pc' := if 0 < q1 then 14 else 16) (lv' := [.ref 0, .int x1, .int x2, .int q1, .retAddr 0]) (st' := []) (h' := zHp s t) rfl ?_
  refine zX_ite hF (fun c0 hF => ?_) (fun c0 hF => ?_)
  · refine zX_go (c := 1) (pc' := 15) (lv' := [.ref 0, .int x1, .int x2, .int q1, .retAddr 0]) (st' := [.int q1]) (h' := zHp s t) rfl ?_
    obtain rfl := Option.some.inj hF
    exact zX_reti rfl
  · refine zX_go (c := 3) (pc' := 19) (lv' := [.ref 0, .int x1, .int x2, .int q1, .retAddr 0]) (st' := [.int x2, .int x1, .ref 0]) (h' := zHp s t) rfl ?_
    obtain ⟨q2, hq, hF⟩ := zbd_ok hF
    refine zX_inv (av := [.ref 0, .int x1, .int x2]) (st := []) (h' := zHp s t) rfl rfl rfl rfl rfl rfl (zcall_le (t_X5_containerRowAt M _ _ _ _ _ hq) (by decide)) ?_
    refine zX_go (c := 4) (pc' := if q2 = (-1) then 30 else 34) (lv' := [.ref 0, .int x1, .int x2, .int q1, .int q2]) (st' := []) (h' := zHp s t) rfl ?_
    refine zX_ite hF (fun c0 hF => ?_) (fun c0 hF => ?_)
    · refine zX_go (c := 2) (pc' := 44) (lv' := [.ref 0, .int x1, .int x2, .int q1, .int q2]) (st' := [.int (nI 0)]) (h' := zHp s t) rfl ?_
      obtain rfl := Option.some.inj hF
      exact zX_reti rfl
    · refine zX_go (c := 4) (pc' := 43) (lv' := [.ref 0, .int x1, .int x2, .int q1, .int q2]) (st' := [.int q2, .ref 25]) (h' := zHp s t) rfl ?_
      refine zX_ial (n := 100) rfl rfl hF (fun hF => ?_)
      obtain rfl := Option.some.inj hF
      exact zX_reti rfl
def l_X5_sourceOfAll (M : Nat) : Nat → zS → Int32 → Int32 → Int32 → Option (Int32)
  | 0, _, _, _, _ => none
  | N + 1, s, y2, y3, y4 =>
    if y4 < (nI 40) then
     if y3 = (-1) then
      some (-1)
     else
      zbd (f_X5_howManyHere M s y3 y2) (fun q1 =>
       if 0 < q1 then
        some y3
       else
        zbd (f_X5_inheritsFrom M s y3 y2) (fun q2 =>
         l_X5_sourceOfAll M N s y2 q2 (y4 + (nI 1))))
    else
     some (-1)
set_option maxRecDepth 100000 in
set_option maxHeartbeats 4000000 in
theorem tl_X5_sourceOfAll {L : Nat} {xs : Nat → Int32} (M : Nat) (t : zS) : ∀ (N : Nat) (s : zS) (y2 : Int32) (y3 : Int32) (y4 : Int32) (R : Int32) (u1 : Int32) (hF : l_X5_sourceOfAll M N s y2 y3 y4 = some R), zX (ztb L xs) (zcall (ztb L xs) 5) 5 1 zk_X5_sourceOfAll 20 [.ref 0, .int u1, .int y2, .int y3, .int y4] [] (zHp s t) (some (.int R), zHp s t) := by
  intro N
  induction N with
  | zero => intro s y2 y3 y4 R u1 hF; cases hF
  | succ N ih =>
    intro s y2 y3 y4 R u1 hF
    unfold l_X5_sourceOfAll at hF
    refine zX_go (c := 3) (pc' := if y4 < (nI 40) then 27 else 56) (lv' := [.ref 0, .int u1, .int y2, .int y3, .int y4]) (st' := []) (h' := zHp s t) rfl ?_
    refine zX_ite hF (fun c0 hF => ?_) (fun c0 hF => ?_)
    · refine zX_go (c := 3) (pc' := if y3 = (-1) then 56 else 32) (lv' := [.ref 0, .int u1, .int y2, .int y3, .int y4]) (st' := []) (h' := zHp s t) rfl ?_
      refine zX_ite hF (fun c0 hF => ?_) (fun c0 hF => ?_)
      · refine zX_go (c := 1) (pc' := 57) (lv' := [.ref 0, .int u1, .int y2, .int y3, .int y4]) (st' := [.int (-1)]) (h' := zHp s t) rfl ?_
        obtain rfl := Option.some.inj hF
        exact zX_reti rfl
      · refine zX_go (c := 3) (pc' := 35) (lv' := [.ref 0, .int u1, .int y2, .int y3, .int y4]) (st' := [.int y2, .int y3, .ref 0]) (h' := zHp s t) rfl ?_
        obtain ⟨q1, hq, hF⟩ := zbd_ok hF
        refine zX_inv (av := [.ref 0, .int y3, .int y2]) (st := []) (h' := zHp s t) rfl rfl rfl rfl rfl rfl (zcall_le (t_X5_howManyHere M _ _ _ _ _ hq) (by decide)) ?_
        refine zX_go (c := 1) (pc' := if 0 < q1 then 41 else 43) (lv' := [.ref 0, .int u1, .int y2, .int y3, .int y4]) (st' := []) (h' := zHp s t) rfl ?_
        refine zX_ite hF (fun c0 hF => ?_) (fun c0 hF => ?_)
        · refine zX_go (c := 1) (pc' := 42) (lv' := [.ref 0, .int u1, .int y2, .int y3, .int y4]) (st' := [.int y3]) (h' := zHp s t) rfl ?_
          obtain rfl := Option.some.inj hF
          exact zX_reti rfl
        · refine zX_go (c := 3) (pc' := 46) (lv' := [.ref 0, .int u1, .int y2, .int y3, .int y4]) (st' := [.int y2, .int y3, .ref 0]) (h' := zHp s t) rfl ?_
          obtain ⟨q2, hq, hF⟩ := zbd_ok hF
          refine zX_inv (av := [.ref 0, .int y3, .int y2]) (st := []) (h' := zHp s t) rfl rfl rfl rfl rfl rfl (zcall_le (t_X5_inheritsFrom M _ _ _ _ _ hq) (by decide)) ?_
          refine zX_go (c := 3) (pc' := 20) (lv' := [.ref 0, .int u1, .int y2, .int q2, .int (y4 + (nI 1))]) (st' := []) (h' := zHp s t) rfl ?_
          exact ih s y2 q2 (y4 + (nI 1)) _ u1 hF
    · refine zX_go (c := 1) (pc' := 57) (lv' := [.ref 0, .int u1, .int y2, .int y3, .int y4]) (st' := [.int (-1)]) (h' := zHp s t) rfl ?_
      obtain rfl := Option.some.inj hF
      exact zX_reti rfl
def f_X5_sourceOfAll (M : Nat) (s : zS) (x1 x2 : Int32) : Option (Int32) :=
  zq (zin x2 12) <|
  if (s 4 x2.toNatClampNeg) = (nI 2) then
   l_X5_sourceOfAll M M s x2 x1 (nI 0)
  else
   some (-1)
set_option maxRecDepth 100000 in
set_option maxHeartbeats 4000000 in
theorem t_X5_sourceOfAll {L : Nat} {xs : Nat → Int32} (M : Nat) (s t : zS) (x1 x2 : Int32) (R : Int32) (hF : f_X5_sourceOfAll M s x1 x2 = some R) : zcall (ztb L xs) 6 87 [.ref 0, .int x1, .int x2] (zHp s t) = some (some (.int R), zHp s t) := by
  unfold f_X5_sourceOfAll at hF
  refine zcall_X (d := 5) (e := zm_X5_sourceOfAll) rfl rfl ?_
  show zX (ztb L xs) (zcall (ztb L xs) 5) 5 1 zk_X5_sourceOfAll 0 [.ref 0, .int x1, .int x2, .retAddr 0, .retAddr 0] [] (zHp s t) _
  refine zX_go (c := 4) (pc' := 8) (lv' := [.ref 0, .int x1, .int x2, .retAddr 0, .retAddr 0]) (st' := [.int x2, .ref 9]) (h' := zHp s t) rfl ?_
  refine zX_ial (n := 12) rfl rfl hF (fun hF => ?_)
  refine zX_go (c := 2) (pc' := if (s 4 x2.toNatClampNeg) = (nI 2) then 15 else 13) (lv' := [.ref 0, .int x1, .int x2, .retAddr 0, .retAddr 0]) (st' := []) (h' := zHp s t) rfl ?_
  refine zX_ite hF (fun c0 hF => ?_) (fun c0 hF => ?_)
  · refine zX_go (c := 4) (pc' := 20) (lv' := [.ref 0, .int x1, .int x2, .int x1, .int (nI 0)]) (st' := []) (h' := zHp s t) rfl ?_
    exact tl_X5_sourceOfAll M t M s x2 x1 (nI 0) _ x1 hF
  · refine zX_go (c := 1) (pc' := 14) (lv' := [.ref 0, .int x1, .int x2, .retAddr 0, .retAddr 0]) (st' := [.int (-1)]) (h' := zHp s t) rfl ?_
    obtain rfl := Option.some.inj hF
    exact zX_reti rfl
def f_X5_all (M : Nat) (s : zS) (x1 x2 : Int32) : Option (Int32) :=
  zbd (f_X1_has M s x1) (fun q1 =>
   if q1 = 0 then
    some (-2)
   else
    zbd (f_X0_has M s x2) (fun q2 =>
     if q2 = 0 then
      some (-2)
     else
      zbd (f_X5_sourceOfAll M s x1 x2) (fun q3 =>
       if q3 = (-1) then
        some (nI 0)
       else
        zbd (f_X5_howManyHere M s q3 x2) (fun q4 =>
         some q4))))
set_option maxRecDepth 100000 in
set_option maxHeartbeats 4000000 in
theorem t_X5_all {L : Nat} {xs : Nat → Int32} (M : Nat) (s t : zS) (x1 x2 : Int32) (R : Int32) (hF : f_X5_all M s x1 x2 = some R) : zcall (ztb L xs) 7 71 [.ref 0, .int x1, .int x2] (zHp s t) = some (some (.int R), zHp s t) := by
  unfold f_X5_all at hF
  refine zcall_X (d := 6) (e := zm_X5_all) rfl rfl ?_
  show zX (ztb L xs) (zcall (ztb L xs) 6) 5 1 zk_X5_all 0 [.ref 0, .int x1, .int x2, .retAddr 0] [] (zHp s t) _
  refine zX_go (c := 3) (pc' := 5) (lv' := [.ref 0, .int x1, .int x2, .retAddr 0]) (st' := [.int x1, .ref 2]) (h' := zHp s t) rfl ?_
  obtain ⟨q1, hq, hF⟩ := zbd_ok hF
  refine zX_inv (av := [.ref 2, .int x1]) (st := []) (h' := zHp s t) rfl rfl rfl rfl rfl rfl (zcall_le (t_X1_has M _ _ _ _ hq) (by decide)) ?_
  refine zX_go (c := 1) (pc' := if q1 = 0 then 22 else 11) (lv' := [.ref 0, .int x1, .int x2, .retAddr 0]) (st' := []) (h' := zHp s t) rfl ?_
  refine zX_ite hF (fun c0 hF => ?_) (fun c0 hF => ?_)
  · refine zX_go (c := 1) (pc' := 24) (lv' := [.ref 0, .int x1, .int x2, .retAddr 0]) (st' := [.int (-2)]) (h' := zHp s t) rfl ?_
    obtain rfl := Option.some.inj hF
    exact zX_reti rfl
  · refine zX_go (c := 3) (pc' := 16) (lv' := [.ref 0, .int x1, .int x2, .retAddr 0]) (st' := [.int x2, .ref 1]) (h' := zHp s t) rfl ?_
    obtain ⟨q2, hq, hF⟩ := zbd_ok hF
    refine zX_inv (av := [.ref 1, .int x2]) (st := []) (h' := zHp s t) rfl rfl rfl rfl rfl rfl (zcall_le (t_X0_has M _ _ _ _ hq) (by decide)) ?_
    refine zX_go (c := 1) (pc' := if q2 = 0 then 22 else 25) (lv' := [.ref 0, .int x1, .int x2, .retAddr 0]) (st' := []) (h' := zHp s t) rfl ?_
    refine zX_ite hF (fun c0 hF => ?_) (fun c0 hF => ?_)
    · refine zX_go (c := 1) (pc' := 24) (lv' := [.ref 0, .int x1, .int x2, .retAddr 0]) (st' := [.int (-2)]) (h' := zHp s t) rfl ?_
      obtain rfl := Option.some.inj hF
      exact zX_reti rfl
    · refine zX_go (c := 3) (pc' := 28) (lv' := [.ref 0, .int x1, .int x2, .retAddr 0]) (st' := [.int x2, .int x1, .ref 0]) (h' := zHp s t) rfl ?_
      obtain ⟨q3, hq, hF⟩ := zbd_ok hF
      refine zX_inv (av := [.ref 0, .int x1, .int x2]) (st := []) (h' := zHp s t) rfl rfl rfl rfl rfl rfl (zcall_le (t_X5_sourceOfAll M _ _ _ _ _ hq) (by decide)) ?_
      refine zX_go (c := 4) (pc' := if q3 = (-1) then 37 else 41) (lv' := [.ref 0, .int x1, .int x2, .int q3]) (st' := []) (h' := zHp s t) rfl ?_
      refine zX_ite hF (fun c0 hF => ?_) (fun c0 hF => ?_)
      · refine zX_go (c := 2) (pc' := 47) (lv' := [.ref 0, .int x1, .int x2, .int q3]) (st' := [.int (nI 0)]) (h' := zHp s t) rfl ?_
        obtain rfl := Option.some.inj hF
        exact zX_reti rfl
      · refine zX_go (c := 3) (pc' := 44) (lv' := [.ref 0, .int x1, .int x2, .int q3]) (st' := [.int x2, .int q3, .ref 0]) (h' := zHp s t) rfl ?_
        obtain ⟨q4, hq, hF⟩ := zbd_ok hF
        refine zX_inv (av := [.ref 0, .int q3, .int x2]) (st := []) (h' := zHp s t) rfl rfl rfl rfl rfl rfl (zcall_le (t_X5_howManyHere M _ _ _ _ _ hq) (by decide)) ?_
        obtain rfl := Option.some.inj hF
        exact zX_reti rfl
def f_X5_of (M : Nat) (s : zS) (x1 x2 x3 : Int32) : Option (Int32) :=
  zbd (f_X1_has M s x1) (fun q1 =>
   if q1 = 0 then
    some (-2)
   else
    zbd (f_X0_has M s x2) (fun q2 =>
     if q2 = 0 then
      some (-2)
     else
      zbd (f_X5_sourceOfAll M s x1 x2) (fun q3 =>
       if q3 = (-1) then
        some (-1)
       else
        zbd (f_X2_howMany M s q3 x2) (fun q4 =>
         if 0 < q4 then
          zbd (f_X2_nth M s q3 x2 x3) (fun q5 =>
           some q5)
         else
          zbd (f_X5_containerRowAt M s q3 x2) (fun q6 =>
           zbd (f_X3_inRow M s q6 x3) (fun q7 =>
            some q7))))))
set_option maxRecDepth 100000 in
set_option maxHeartbeats 4000000 in
theorem t_X5_of {L : Nat} {xs : Nat → Int32} (M : Nat) (s t : zS) (x1 x2 x3 : Int32) (R : Int32) (hF : f_X5_of M s x1 x2 x3 = some R) : zcall (ztb L xs) 7 72 [.ref 0, .int x1, .int x2, .int x3] (zHp s t) = some (some (.int R), zHp s t) := by
  unfold f_X5_of at hF
  refine zcall_X (d := 6) (e := zm_X5_of) rfl rfl ?_
  show zX (ztb L xs) (zcall (ztb L xs) 6) 5 1 zk_X5_of 0 [.ref 0, .int x1, .int x2, .int x3, .retAddr 0] [] (zHp s t) _
  refine zX_go (c := 3) (pc' := 5) (lv' := [.ref 0, .int x1, .int x2, .int x3, .retAddr 0]) (st' := [.int x1, .ref 2]) (h' := zHp s t) rfl ?_
  obtain ⟨q1, hq, hF⟩ := zbd_ok hF
  refine zX_inv (av := [.ref 2, .int x1]) (st := []) (h' := zHp s t) rfl rfl rfl rfl rfl rfl (zcall_le (t_X1_has M _ _ _ _ hq) (by decide)) ?_
  refine zX_go (c := 1) (pc' := if q1 = 0 then 22 else 11) (lv' := [.ref 0, .int x1, .int x2, .int x3, .retAddr 0]) (st' := []) (h' := zHp s t) rfl ?_
  refine zX_ite hF (fun c0 hF => ?_) (fun c0 hF => ?_)
  · refine zX_go (c := 1) (pc' := 24) (lv' := [.ref 0, .int x1, .int x2, .int x3, .retAddr 0]) (st' := [.int (-2)]) (h' := zHp s t) rfl ?_
    obtain rfl := Option.some.inj hF
    exact zX_reti rfl
  · refine zX_go (c := 3) (pc' := 16) (lv' := [.ref 0, .int x1, .int x2, .int x3, .retAddr 0]) (st' := [.int x2, .ref 1]) (h' := zHp s t) rfl ?_
    obtain ⟨q2, hq, hF⟩ := zbd_ok hF
    refine zX_inv (av := [.ref 1, .int x2]) (st := []) (h' := zHp s t) rfl rfl rfl rfl rfl rfl (zcall_le (t_X0_has M _ _ _ _ hq) (by decide)) ?_
    refine zX_go (c := 1) (pc' := if q2 = 0 then 22 else 25) (lv' := [.ref 0, .int x1, .int x2, .int x3, .retAddr 0]) (st' := []) (h' := zHp s t) rfl ?_
    refine zX_ite hF (fun c0 hF => ?_) (fun c0 hF => ?_)
    · refine zX_go (c := 1) (pc' := 24) (lv' := [.ref 0, .int x1, .int x2, .int x3, .retAddr 0]) (st' := [.int (-2)]) (h' := zHp s t) rfl ?_
      obtain rfl := Option.some.inj hF
      exact zX_reti rfl
    · refine zX_go (c := 3) (pc' := 28) (lv' := [.ref 0, .int x1, .int x2, .int x3, .retAddr 0]) (st' := [.int x2, .int x1, .ref 0]) (h' := zHp s t) rfl ?_
      obtain ⟨q3, hq, hF⟩ := zbd_ok hF
      refine zX_inv (av := [.ref 0, .int x1, .int x2]) (st := []) (h' := zHp s t) rfl rfl rfl rfl rfl rfl (zcall_le (t_X5_sourceOfAll M _ _ _ _ _ hq) (by decide)) ?_
      refine zX_go (c := 4) (pc' := if q3 = (-1) then 39 else 41) (lv' := [.ref 0, .int x1, .int x2, .int x3, .int q3]) (st' := []) (h' := zHp s t) rfl ?_
      refine zX_ite hF (fun c0 hF => ?_) (fun c0 hF => ?_)
      · refine zX_go (c := 1) (pc' := 40) (lv' := [.ref 0, .int x1, .int x2, .int x3, .int q3]) (st' := [.int (-1)]) (h' := zHp s t) rfl ?_
        obtain rfl := Option.some.inj hF
        exact zX_reti rfl
      · refine zX_go (c := 4) (pc' := 48) (lv' := [.ref 0, .int x1, .int x2, .int x3, .int q3]) (st' := [.int x2, .int q3, .ref 4]) (h' := zHp s t) rfl ?_
        obtain ⟨q4, hq, hF⟩ := zbd_ok hF
        refine zX_inv (av := [.ref 4, .int q3, .int x2]) (st := []) (h' := zHp s t) rfl rfl rfl rfl rfl rfl (zcall_le (t_X2_howMany M _ _ _ _ _ hq) (by decide)) ?_
        refine zX_go (c := 1) (pc' := if 0 < q4 then 54 else 66) (lv' := [.ref 0, .int x1, .int x2, .int x3, .int q3]) (st' := []) (h' := zHp s t) rfl ?_
        refine zX_ite hF (fun c0 hF => ?_) (fun c0 hF => ?_)
        · refine zX_go (c := 5) (pc' := 62) (lv' := [.ref 0, .int x1, .int x2, .int x3, .int q3]) (st' := [.int x3, .int x2, .int q3, .ref 4]) (h' := zHp s t) rfl ?_
          obtain ⟨q5, hq, hF⟩ := zbd_ok hF
          refine zX_inv (av := [.ref 4, .int q3, .int x2, .int x3]) (st := []) (h' := zHp s t) rfl rfl rfl rfl rfl rfl (zcall_le (t_X2_nth M _ _ _ _ _ _ hq) (by decide)) ?_
          obtain rfl := Option.some.inj hF
          exact zX_reti rfl
        · refine zX_go (c := 5) (pc' := 74) (lv' := [.ref 0, .int x1, .int x2, .int x3, .int q3]) (st' := [.int x2, .int q3, .ref 0, .ref 3]) (h' := zHp s t) rfl ?_
          obtain ⟨q6, hq, hF⟩ := zbd_ok hF
          refine zX_inv (av := [.ref 0, .int q3, .int x2]) (st := [.ref 3]) (h' := zHp s t) rfl rfl rfl rfl rfl rfl (zcall_le (t_X5_containerRowAt M _ _ _ _ _ hq) (by decide)) ?_
          refine zX_go (c := 1) (pc' := 78) (lv' := [.ref 0, .int x1, .int x2, .int x3, .int q3]) (st' := [.int x3, .int q6, .ref 3]) (h' := zHp s t) rfl ?_
          obtain ⟨q7, hq, hF⟩ := zbd_ok hF
          refine zX_inv (av := [.ref 3, .int q6, .int x3]) (st := []) (h' := zHp s t) rfl rfl rfl rfl rfl rfl (zcall_le (t_X3_inRow M _ _ _ _ _ hq) (by decide)) ?_
          obtain rfl := Option.some.inj hF
          exact zX_reti rfl
def f_X5_stands (M : Nat) (s : zS) (x1 : Int32) : Option (Int32) :=
  zbd (f_X1_has M s x1) (fun q1 =>
   if q1 = 0 then
    some (-2)
   else
    zbd (f_X2_howManyAt M s x1) (fun q2 =>
     some q2))
set_option maxRecDepth 100000 in
set_option maxHeartbeats 4000000 in
theorem t_X5_stands {L : Nat} {xs : Nat → Int32} (M : Nat) (s t : zS) (x1 : Int32) (R : Int32) (hF : f_X5_stands M s x1 = some R) : zcall (ztb L xs) 2 73 [.ref 0, .int x1] (zHp s t) = some (some (.int R), zHp s t) := by
  unfold f_X5_stands at hF
  refine zcall_X (d := 1) (e := zm_X5_stands) rfl rfl ?_
  show zX (ztb L xs) (zcall (ztb L xs) 1) 5 1 zk_X5_stands 0 [.ref 0, .int x1] [] (zHp s t) _
  refine zX_go (c := 3) (pc' := 5) (lv' := [.ref 0, .int x1]) (st' := [.int x1, .ref 2]) (h' := zHp s t) rfl ?_
  obtain ⟨q1, hq, hF⟩ := zbd_ok hF
  refine zX_inv (av := [.ref 2, .int x1]) (st := []) (h' := zHp s t) rfl rfl rfl rfl rfl rfl (zcall_le (t_X1_has M _ _ _ _ hq) (by decide)) ?_
  refine zX_go (c := 1) (pc' := if q1 = 0 then 22 else 11) (lv' := [.ref 0, .int x1]) (st' := []) (h' := zHp s t) rfl ?_
  refine zX_ite hF (fun c0 hF => ?_) (fun c0 hF => ?_)
  · refine zX_go (c := 1) (pc' := 24) (lv' := [.ref 0, .int x1]) (st' := [.int (-2)]) (h' := zHp s t) rfl ?_
    obtain rfl := Option.some.inj hF
    exact zX_reti rfl
  · refine zX_go (c := 3) (pc' := 16) (lv' := [.ref 0, .int x1]) (st' := [.int x1, .ref 4]) (h' := zHp s t) rfl ?_
    obtain ⟨q2, hq, hF⟩ := zbd_ok hF
    refine zX_inv (av := [.ref 4, .int x1]) (st := []) (h' := zHp s t) rfl rfl rfl rfl rfl rfl (zcall_le (t_X2_howManyAt M _ _ _ _ hq) (by decide)) ?_
    refine zX_go (c := 1) (pc' := 24) (lv' := [.ref 0, .int x1]) (st' := [.int q2]) (h' := zHp s t) rfl ?_
    obtain rfl := Option.some.inj hF
    exact zX_reti rfl
def f_X5_countOfMark (M : Nat) (s : zS) (x1 : Int32) : Option (Int32) :=
  zbd (f_X0_has M s (x1 - (nI 20))) (fun q1 =>
   if q1 = 0 then
    zbd (f_X0_has M s (x1 - (nI 40))) (fun q2 =>
     if q2 = 0 then
      some (-2)
     else
      zq (zin (x1 - (nI 40)) 12) <|
      some (s 8 (x1 - (nI 40)).toNatClampNeg))
   else
    zq (zin (x1 - (nI 20)) 12) <|
    some (s 6 (x1 - (nI 20)).toNatClampNeg))
set_option maxRecDepth 100000 in
set_option maxHeartbeats 4000000 in
theorem t_X5_countOfMark {L : Nat} {xs : Nat → Int32} (M : Nat) (s t : zS) (x1 : Int32) (R : Int32) (hF : f_X5_countOfMark M s x1 = some R) : zcall (ztb L xs) 2 75 [.ref 0, .int x1] (zHp s t) = some (some (.int R), zHp s t) := by
  unfold f_X5_countOfMark at hF
  refine zcall_X (d := 1) (e := zm_X5_countOfMark) rfl rfl ?_
  show zX (ztb L xs) (zcall (ztb L xs) 1) 5 1 zk_X5_countOfMark 0 [.ref 0, .int x1] [] (zHp s t) _
  refine zX_go (c := 5) (pc' := 8) (lv' := [.ref 0, .int x1]) (st' := [.int (x1 - (nI 20)), .ref 1]) (h' := zHp s t) rfl ?_
  obtain ⟨q1, hq, hF⟩ := zbd_ok hF
  refine zX_inv (av := [.ref 1, .int (x1 - (nI 20))]) (st := []) (h' := zHp s t) rfl rfl rfl rfl rfl rfl (zcall_le (t_X0_has M _ _ _ _ hq) (by decide)) ?_
  refine zX_go (c := 1) (pc' := if q1 = 0 then 27 else 14) (lv' := [.ref 0, .int x1]) (st' := []) (h' := zHp s t) rfl ?_
  refine zX_ite hF (fun c0 hF => ?_) (fun c0 hF => ?_)
  · refine zX_go (c := 5) (pc' := 35) (lv' := [.ref 0, .int x1]) (st' := [.int (x1 - (nI 40)), .ref 1]) (h' := zHp s t) rfl ?_
    obtain ⟨q2, hq, hF⟩ := zbd_ok hF
    refine zX_inv (av := [.ref 1, .int (x1 - (nI 40))]) (st := []) (h' := zHp s t) rfl rfl rfl rfl rfl rfl (zcall_le (t_X0_has M _ _ _ _ hq) (by decide)) ?_
    refine zX_go (c := 1) (pc' := if q2 = 0 then 54 else 41) (lv' := [.ref 0, .int x1]) (st' := []) (h' := zHp s t) rfl ?_
    refine zX_ite hF (fun c0 hF => ?_) (fun c0 hF => ?_)
    · refine zX_go (c := 1) (pc' := 56) (lv' := [.ref 0, .int x1]) (st' := [.int (-2)]) (h' := zHp s t) rfl ?_
      obtain rfl := Option.some.inj hF
      exact zX_reti rfl
    · refine zX_go (c := 6) (pc' := 52) (lv' := [.ref 0, .int x1]) (st' := [.int (x1 - (nI 40)), .ref 13]) (h' := zHp s t) rfl ?_
      refine zX_ial (n := 12) rfl rfl hF (fun hF => ?_)
      obtain rfl := Option.some.inj hF
      exact zX_reti rfl
  · refine zX_go (c := 6) (pc' := 25) (lv' := [.ref 0, .int x1]) (st' := [.int (x1 - (nI 20)), .ref 11]) (h' := zHp s t) rfl ?_
    refine zX_ial (n := 12) rfl rfl hF (fun hF => ?_)
    obtain rfl := Option.some.inj hF
    exact zX_reti rfl
def f_X5_count (M : Nat) (s : zS) (x1 : Int32) : Option (Int32) :=
  if x1 = (nI 0) then
   some (s 2 0)
  else
   if x1 = (nI 1) then
    some (s 16 0)
   else
    if x1 = (nI 2) then
     some (s 19 0)
    else
     if x1 = (nI 3) then
      some (s 25 0)
     else
      if x1 = (nI 4) then
       zbd (f_X5_countOfMark M s x1) (fun q1 =>
        some q1)
      else
       if x1 = (nI 5) then
        zbd (f_X5_countOfMark M s x1) (fun q2 =>
         some q2)
       else
        if x1 = (nI 6) then
         zbd (f_X5_countOfMark M s x1) (fun q3 =>
          some q3)
        else
         if x1 = (nI 7) then
          zbd (f_X5_countOfMark M s x1) (fun q4 =>
           some q4)
         else
          if x1 = (nI 8) then
           zbd (f_X5_countOfMark M s x1) (fun q5 =>
            some q5)
          else
           if x1 = (nI 9) then
            zbd (f_X5_countOfMark M s x1) (fun q6 =>
             some q6)
           else
            if x1 = (nI 10) then
             zbd (f_X5_countOfMark M s x1) (fun q7 =>
              some q7)
            else
             if x1 = (nI 11) then
              zq (zin (x1 - (nI 10)) 4) <|
              some (s 0 (x1 - (nI 10)).toNatClampNeg)
             else
              if x1 = (nI 12) then
               zq (zin (x1 - (nI 10)) 4) <|
               some (s 0 (x1 - (nI 10)).toNatClampNeg)
              else
               if x1 = (nI 13) then
                zq (zin (x1 - (nI 10)) 4) <|
                some (s 0 (x1 - (nI 10)).toNatClampNeg)
               else
                zbd (f_X5_countOfMark M s x1) (fun q8 =>
                 some q8)
set_option maxRecDepth 100000 in
set_option maxHeartbeats 4000000 in
theorem t_X5_count {L : Nat} {xs : Nat → Int32} (M : Nat) (s t : zS) (x1 : Int32) (R : Int32) (hF : f_X5_count M s x1 = some R) : zcall (ztb L xs) 3 74 [.ref 0, .int x1] (zHp s t) = some (some (.int R), zHp s t) := by
  unfold f_X5_count at hF
  refine zcall_X (d := 2) (e := zm_X5_count) rfl rfl ?_
  show zX (ztb L xs) (zcall (ztb L xs) 2) 5 1 zk_X5_count 0 [.ref 0, .int x1] [] (zHp s t) _
  refine zX_go (c := 2) (pc' := if x1 = (nI 0) then 72 else if x1 = (nI 1) then 80 else if x1 = (nI 2) then 88 else if x1 = (nI 3) then 96 else if x1 = (nI 4) then 114 else if x1 = (nI 5) then 114 else if x1 = (nI 6) then 114 else if x1 = (nI 7) then 114 else if x1 = (nI 8) then 114 else if x1 = (nI 9) then 114 else if x1 = (nI 10) then 114 else if x1 = (nI 11) then 104 else if x1 = (nI 12) then 104 else if x1 = (nI 13) then 104 else 114) (lv' := [.ref 0, .int x1]) (st' := []) (h' := zHp s t) rfl ?_
  refine zX_ite hF (fun c0 hF => ?_) (fun c0 hF => ?_)
  · refine zX_go (c := 3) (pc' := 79) (lv' := [.ref 0, .int x1]) (st' := [.int (s 2 0)]) (h' := zHp s t) rfl ?_
    obtain rfl := Option.some.inj hF
    exact zX_reti rfl
  · refine zX_ite hF (fun c0 hF => ?_) (fun c0 hF => ?_)
    · refine zX_go (c := 3) (pc' := 87) (lv' := [.ref 0, .int x1]) (st' := [.int (s 16 0)]) (h' := zHp s t) rfl ?_
      obtain rfl := Option.some.inj hF
      exact zX_reti rfl
    · refine zX_ite hF (fun c0 hF => ?_) (fun c0 hF => ?_)
      · refine zX_go (c := 3) (pc' := 95) (lv' := [.ref 0, .int x1]) (st' := [.int (s 19 0)]) (h' := zHp s t) rfl ?_
        obtain rfl := Option.some.inj hF
        exact zX_reti rfl
      · refine zX_ite hF (fun c0 hF => ?_) (fun c0 hF => ?_)
        · refine zX_go (c := 3) (pc' := 103) (lv' := [.ref 0, .int x1]) (st' := [.int (s 25 0)]) (h' := zHp s t) rfl ?_
          obtain rfl := Option.some.inj hF
          exact zX_reti rfl
        · refine zX_ite hF (fun c0 hF => ?_) (fun c0 hF => ?_)
          · refine zX_go (c := 2) (pc' := 116) (lv' := [.ref 0, .int x1]) (st' := [.int x1, .ref 0]) (h' := zHp s t) rfl ?_
            obtain ⟨q1, hq, hF⟩ := zbd_ok hF
            refine zX_inv (av := [.ref 0, .int x1]) (st := []) (h' := zHp s t) rfl rfl rfl rfl rfl rfl (zcall_le (t_X5_countOfMark M _ _ _ _ hq) (by decide)) ?_
            obtain rfl := Option.some.inj hF
            exact zX_reti rfl
          · refine zX_ite hF (fun c0 hF => ?_) (fun c0 hF => ?_)
            · refine zX_go (c := 2) (pc' := 116) (lv' := [.ref 0, .int x1]) (st' := [.int x1, .ref 0]) (h' := zHp s t) rfl ?_
              obtain ⟨q2, hq, hF⟩ := zbd_ok hF
              refine zX_inv (av := [.ref 0, .int x1]) (st := []) (h' := zHp s t) rfl rfl rfl rfl rfl rfl (zcall_le (t_X5_countOfMark M _ _ _ _ hq) (by decide)) ?_
              obtain rfl := Option.some.inj hF
              exact zX_reti rfl
            · refine zX_ite hF (fun c0 hF => ?_) (fun c0 hF => ?_)
              · refine zX_go (c := 2) (pc' := 116) (lv' := [.ref 0, .int x1]) (st' := [.int x1, .ref 0]) (h' := zHp s t) rfl ?_
                obtain ⟨q3, hq, hF⟩ := zbd_ok hF
                refine zX_inv (av := [.ref 0, .int x1]) (st := []) (h' := zHp s t) rfl rfl rfl rfl rfl rfl (zcall_le (t_X5_countOfMark M _ _ _ _ hq) (by decide)) ?_
                obtain rfl := Option.some.inj hF
                exact zX_reti rfl
              · refine zX_ite hF (fun c0 hF => ?_) (fun c0 hF => ?_)
                · refine zX_go (c := 2) (pc' := 116) (lv' := [.ref 0, .int x1]) (st' := [.int x1, .ref 0]) (h' := zHp s t) rfl ?_
                  obtain ⟨q4, hq, hF⟩ := zbd_ok hF
                  refine zX_inv (av := [.ref 0, .int x1]) (st := []) (h' := zHp s t) rfl rfl rfl rfl rfl rfl (zcall_le (t_X5_countOfMark M _ _ _ _ hq) (by decide)) ?_
                  obtain rfl := Option.some.inj hF
                  exact zX_reti rfl
                · refine zX_ite hF (fun c0 hF => ?_) (fun c0 hF => ?_)
                  · refine zX_go (c := 2) (pc' := 116) (lv' := [.ref 0, .int x1]) (st' := [.int x1, .ref 0]) (h' := zHp s t) rfl ?_
                    obtain ⟨q5, hq, hF⟩ := zbd_ok hF
                    refine zX_inv (av := [.ref 0, .int x1]) (st := []) (h' := zHp s t) rfl rfl rfl rfl rfl rfl (zcall_le (t_X5_countOfMark M _ _ _ _ hq) (by decide)) ?_
                    obtain rfl := Option.some.inj hF
                    exact zX_reti rfl
                  · refine zX_ite hF (fun c0 hF => ?_) (fun c0 hF => ?_)
                    · refine zX_go (c := 2) (pc' := 116) (lv' := [.ref 0, .int x1]) (st' := [.int x1, .ref 0]) (h' := zHp s t) rfl ?_
                      obtain ⟨q6, hq, hF⟩ := zbd_ok hF
                      refine zX_inv (av := [.ref 0, .int x1]) (st := []) (h' := zHp s t) rfl rfl rfl rfl rfl rfl (zcall_le (t_X5_countOfMark M _ _ _ _ hq) (by decide)) ?_
                      obtain rfl := Option.some.inj hF
                      exact zX_reti rfl
                    · refine zX_ite hF (fun c0 hF => ?_) (fun c0 hF => ?_)
                      · refine zX_go (c := 2) (pc' := 116) (lv' := [.ref 0, .int x1]) (st' := [.int x1, .ref 0]) (h' := zHp s t) rfl ?_
                        obtain ⟨q7, hq, hF⟩ := zbd_ok hF
                        refine zX_inv (av := [.ref 0, .int x1]) (st := []) (h' := zHp s t) rfl rfl rfl rfl rfl rfl (zcall_le (t_X5_countOfMark M _ _ _ _ hq) (by decide)) ?_
                        obtain rfl := Option.some.inj hF
                        exact zX_reti rfl
                      · refine zX_ite hF (fun c0 hF => ?_) (fun c0 hF => ?_)
                        · refine zX_go (c := 5) (pc' := 112) (lv' := [.ref 0, .int x1]) (st' := [.int (x1 - (nI 10)), .ref 7]) (h' := zHp s t) rfl ?_
                          refine zX_ial (n := 4) rfl rfl hF (fun hF => ?_)
                          obtain rfl := Option.some.inj hF
                          exact zX_reti rfl
                        · refine zX_ite hF (fun c0 hF => ?_) (fun c0 hF => ?_)
                          · refine zX_go (c := 5) (pc' := 112) (lv' := [.ref 0, .int x1]) (st' := [.int (x1 - (nI 10)), .ref 7]) (h' := zHp s t) rfl ?_
                            refine zX_ial (n := 4) rfl rfl hF (fun hF => ?_)
                            obtain rfl := Option.some.inj hF
                            exact zX_reti rfl
                          · refine zX_ite hF (fun c0 hF => ?_) (fun c0 hF => ?_)
                            · refine zX_go (c := 5) (pc' := 112) (lv' := [.ref 0, .int x1]) (st' := [.int (x1 - (nI 10)), .ref 7]) (h' := zHp s t) rfl ?_
                              refine zX_ial (n := 4) rfl rfl hF (fun hF => ?_)
                              obtain rfl := Option.some.inj hF
                              exact zX_reti rfl
                            · refine zX_go (c := 2) (pc' := 116) (lv' := [.ref 0, .int x1]) (st' := [.int x1, .ref 0]) (h' := zHp s t) rfl ?_
                              obtain ⟨q8, hq, hF⟩ := zbd_ok hF
                              refine zX_inv (av := [.ref 0, .int x1]) (st := []) (h' := zHp s t) rfl rfl rfl rfl rfl rfl (zcall_le (t_X5_countOfMark M _ _ _ _ hq) (by decide)) ?_
                              obtain rfl := Option.some.inj hF
                              exact zX_reti rfl
