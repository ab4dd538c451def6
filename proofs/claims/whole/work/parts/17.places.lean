/-! What the methods answer, and that the small machine answers so: by program (gen2.py). -/
def f_X1_has (M : Nat) (s : zS) (x1 : Int32) : Option (Int32) :=
  if x1 < 0 then
   some (nI 0)
  else
   if x1 < (s 16 0) then
    some (nI 1)
   else
    some (nI 0)
set_option maxRecDepth 100000 in
set_option maxHeartbeats 4000000 in
theorem t_X1_has {L : Nat} {xs : Nat → Int32} (M : Nat) (s t : zS) (x1 : Int32) (R : Int32) (hF : f_X1_has M s x1 = some R) : zcall (ztb L xs) 1 12 [.ref 2, .int x1] (zHp s t) = some (some (.int R), zHp s t) := by
  unfold f_X1_has at hF
  refine zcall_X (d := 0) (e := zm_X1_has) rfl rfl ?_
  show zX (ztb L xs) (zcall (ztb L xs) 0) 1 2 zk_X1_has 0 [.ref 2, .int x1] [] (zHp s t) _
  refine zX_go (c := 2) (pc' := if x1 < 0 then 16 else 4) (lv' := [.ref 2, .int x1]) (st' := []) (h' := zHp s t) rfl ?_
  refine zX_ite hF (fun c0 hF => ?_) (fun c0 hF => ?_)
  · refine zX_go (c := 1) (pc' := 17) (lv' := [.ref 2, .int x1]) (st' := [.int (nI 0)]) (h' := zHp s t) rfl ?_
    obtain rfl := Option.some.inj hF
    exact zX_retz rfl (by decide)
  · refine zX_go (c := 4) (pc' := if x1 < (s 16 0) then 12 else 16) (lv' := [.ref 2, .int x1]) (st' := []) (h' := zHp s t) rfl ?_
    refine zX_ite hF (fun c0 hF => ?_) (fun c0 hF => ?_)
    · refine zX_go (c := 2) (pc' := 17) (lv' := [.ref 2, .int x1]) (st' := [.int (nI 1)]) (h' := zHp s t) rfl ?_
      obtain rfl := Option.some.inj hF
      exact zX_retz rfl (by decide)
    · refine zX_go (c := 1) (pc' := 17) (lv' := [.ref 2, .int x1]) (st' := [.int (nI 0)]) (h' := zHp s t) rfl ?_
      obtain rfl := Option.some.inj hF
      exact zX_retz rfl (by decide)
def f_X1_isType (M : Nat) (s : zS) (x1 : Int32) : Option (Int32) :=
  zbd (f_X1_has M s x1) (fun q1 =>
   if q1 = 0 then
    some (nI 0)
   else
    zq (zin x1 40) <|
    if (s 17 x1.toNatClampNeg) = 0 then
     some (nI 1)
    else
     zq (zin x1 40) <|
     if (s 17 x1.toNatClampNeg) = (nI 1) then
      some (nI 1)
     else
      some (nI 0))
set_option maxRecDepth 100000 in
set_option maxHeartbeats 4000000 in
theorem t_X1_isType {L : Nat} {xs : Nat → Int32} (M : Nat) (s t : zS) (x1 : Int32) (R : Int32) (hF : f_X1_isType M s x1 = some R) : zcall (ztb L xs) 2 13 [.ref 2, .int x1] (zHp s t) = some (some (.int R), zHp s t) := by
  unfold f_X1_isType at hF
  refine zcall_X (d := 1) (e := zm_X1_isType) rfl rfl ?_
  show zX (ztb L xs) (zcall (ztb L xs) 1) 1 2 zk_X1_isType 0 [.ref 2, .int x1] [] (zHp s t) _
  refine zX_go (c := 2) (pc' := 2) (lv' := [.ref 2, .int x1]) (st' := [.int x1, .ref 2]) (h' := zHp s t) rfl ?_
  obtain ⟨q1, hq, hF⟩ := zbd_ok hF
  refine zX_inv (av := [.ref 2, .int x1]) (st := []) (h' := zHp s t) rfl rfl rfl rfl rfl rfl (zcall_le (t_X1_has M _ _ _ _ hq) (by decide)) ?_
  refine zX_go (c := 1) (pc' := if q1 = 0 then 31 else 8) (lv' := [.ref 2, .int x1]) (st' := []) (h' := zHp s t) rfl ?_
  refine zX_ite hF (fun c0 hF => ?_) (fun c0 hF => ?_)
  · refine zX_go (c := 1) (pc' := 32) (lv' := [.ref 2, .int x1]) (st' := [.int (nI 0)]) (h' := zHp s t) rfl ?_
    obtain rfl := Option.some.inj hF
    exact zX_retz rfl (by decide)
  · refine zX_go (c := 3) (pc' := 13) (lv' := [.ref 2, .int x1]) (st' := [.int x1, .ref 21]) (h' := zHp s t) rfl ?_
    refine zX_ial (n := 40) rfl rfl hF (fun hF => ?_)
    refine zX_go (c := 1) (pc' := if (s 17 x1.toNatClampNeg) = 0 then 27 else 17) (lv' := [.ref 2, .int x1]) (st' := []) (h' := zHp s t) rfl ?_
    refine zX_ite hF (fun c0 hF => ?_) (fun c0 hF => ?_)
    · refine zX_go (c := 2) (pc' := 32) (lv' := [.ref 2, .int x1]) (st' := [.int (nI 1)]) (h' := zHp s t) rfl ?_
      obtain rfl := Option.some.inj hF
      exact zX_retz rfl (by decide)
    · refine zX_go (c := 3) (pc' := 22) (lv' := [.ref 2, .int x1]) (st' := [.int x1, .ref 21]) (h' := zHp s t) rfl ?_
      refine zX_ial (n := 40) rfl rfl hF (fun hF => ?_)
      refine zX_go (c := 2) (pc' := if (s 17 x1.toNatClampNeg) = (nI 1) then 27 else 31) (lv' := [.ref 2, .int x1]) (st' := []) (h' := zHp s t) rfl ?_
      refine zX_ite hF (fun c0 hF => ?_) (fun c0 hF => ?_)
      · refine zX_go (c := 2) (pc' := 32) (lv' := [.ref 2, .int x1]) (st' := [.int (nI 1)]) (h' := zHp s t) rfl ?_
        obtain rfl := Option.some.inj hF
        exact zX_retz rfl (by decide)
      · refine zX_go (c := 1) (pc' := 32) (lv' := [.ref 2, .int x1]) (st' := [.int (nI 0)]) (h' := zHp s t) rfl ?_
        obtain rfl := Option.some.inj hF
        exact zX_retz rfl (by decide)
def f_X1_isClass (M : Nat) (s : zS) (x1 : Int32) : Option (Int32) :=
  zbd (f_X1_has M s x1) (fun q1 =>
   if q1 = 0 then
    some (nI 0)
   else
    zq (zin x1 40) <|
    if (s 17 x1.toNatClampNeg) = 0 then
     some (nI 1)
    else
     some (nI 0))
set_option maxRecDepth 100000 in
set_option maxHeartbeats 4000000 in
theorem t_X1_isClass {L : Nat} {xs : Nat → Int32} (M : Nat) (s t : zS) (x1 : Int32) (R : Int32) (hF : f_X1_isClass M s x1 = some R) : zcall (ztb L xs) 2 14 [.ref 2, .int x1] (zHp s t) = some (some (.int R), zHp s t) := by
  unfold f_X1_isClass at hF
  refine zcall_X (d := 1) (e := zm_X1_isClass) rfl rfl ?_
  show zX (ztb L xs) (zcall (ztb L xs) 1) 1 2 zk_X1_isClass 0 [.ref 2, .int x1] [] (zHp s t) _
  refine zX_go (c := 2) (pc' := 2) (lv' := [.ref 2, .int x1]) (st' := [.int x1, .ref 2]) (h' := zHp s t) rfl ?_
  obtain ⟨q1, hq, hF⟩ := zbd_ok hF
  refine zX_inv (av := [.ref 2, .int x1]) (st := []) (h' := zHp s t) rfl rfl rfl rfl rfl rfl (zcall_le (t_X1_has M _ _ _ _ hq) (by decide)) ?_
  refine zX_go (c := 1) (pc' := if q1 = 0 then 21 else 8) (lv' := [.ref 2, .int x1]) (st' := []) (h' := zHp s t) rfl ?_
  refine zX_ite hF (fun c0 hF => ?_) (fun c0 hF => ?_)
  · refine zX_go (c := 1) (pc' := 22) (lv' := [.ref 2, .int x1]) (st' := [.int (nI 0)]) (h' := zHp s t) rfl ?_
    obtain rfl := Option.some.inj hF
    exact zX_retz rfl (by decide)
  · refine zX_go (c := 3) (pc' := 13) (lv' := [.ref 2, .int x1]) (st' := [.int x1, .ref 21]) (h' := zHp s t) rfl ?_
    refine zX_ial (n := 40) rfl rfl hF (fun hF => ?_)
    refine zX_go (c := 1) (pc' := if (s 17 x1.toNatClampNeg) = 0 then 17 else 21) (lv' := [.ref 2, .int x1]) (st' := []) (h' := zHp s t) rfl ?_
    refine zX_ite hF (fun c0 hF => ?_) (fun c0 hF => ?_)
    · refine zX_go (c := 2) (pc' := 22) (lv' := [.ref 2, .int x1]) (st' := [.int (nI 1)]) (h' := zHp s t) rfl ?_
      obtain rfl := Option.some.inj hF
      exact zX_retz rfl (by decide)
    · refine zX_go (c := 1) (pc' := 22) (lv' := [.ref 2, .int x1]) (st' := [.int (nI 0)]) (h' := zHp s t) rfl ?_
      obtain rfl := Option.some.inj hF
      exact zX_retz rfl (by decide)
def f_X1_isMethod (M : Nat) (s : zS) (x1 : Int32) : Option (Int32) :=
  zbd (f_X1_has M s x1) (fun q1 =>
   if q1 = 0 then
    some (nI 0)
   else
    zq (zin x1 40) <|
    if (s 17 x1.toNatClampNeg) = (nI 3) then
     some (nI 1)
    else
     zq (zin x1 40) <|
     if (s 17 x1.toNatClampNeg) = (nI 4) then
      some (nI 1)
     else
      some (nI 0))
set_option maxRecDepth 100000 in
set_option maxHeartbeats 4000000 in
theorem t_X1_isMethod {L : Nat} {xs : Nat → Int32} (M : Nat) (s t : zS) (x1 : Int32) (R : Int32) (hF : f_X1_isMethod M s x1 = some R) : zcall (ztb L xs) 2 15 [.ref 2, .int x1] (zHp s t) = some (some (.int R), zHp s t) := by
  unfold f_X1_isMethod at hF
  refine zcall_X (d := 1) (e := zm_X1_isMethod) rfl rfl ?_
  show zX (ztb L xs) (zcall (ztb L xs) 1) 1 2 zk_X1_isMethod 0 [.ref 2, .int x1] [] (zHp s t) _
  refine zX_go (c := 2) (pc' := 2) (lv' := [.ref 2, .int x1]) (st' := [.int x1, .ref 2]) (h' := zHp s t) rfl ?_
  obtain ⟨q1, hq, hF⟩ := zbd_ok hF
  refine zX_inv (av := [.ref 2, .int x1]) (st := []) (h' := zHp s t) rfl rfl rfl rfl rfl rfl (zcall_le (t_X1_has M _ _ _ _ hq) (by decide)) ?_
  refine zX_go (c := 1) (pc' := if q1 = 0 then 32 else 8) (lv' := [.ref 2, .int x1]) (st' := []) (h' := zHp s t) rfl ?_
  refine zX_ite hF (fun c0 hF => ?_) (fun c0 hF => ?_)
  · refine zX_go (c := 1) (pc' := 33) (lv' := [.ref 2, .int x1]) (st' := [.int (nI 0)]) (h' := zHp s t) rfl ?_
    obtain rfl := Option.some.inj hF
    exact zX_retz rfl (by decide)
  · refine zX_go (c := 3) (pc' := 13) (lv' := [.ref 2, .int x1]) (st' := [.int x1, .ref 21]) (h' := zHp s t) rfl ?_
    refine zX_ial (n := 40) rfl rfl hF (fun hF => ?_)
    refine zX_go (c := 2) (pc' := if (s 17 x1.toNatClampNeg) = (nI 3) then 28 else 18) (lv' := [.ref 2, .int x1]) (st' := []) (h' := zHp s t) rfl ?_
    refine zX_ite hF (fun c0 hF => ?_) (fun c0 hF => ?_)
    · refine zX_go (c := 2) (pc' := 33) (lv' := [.ref 2, .int x1]) (st' := [.int (nI 1)]) (h' := zHp s t) rfl ?_
      obtain rfl := Option.some.inj hF
      exact zX_retz rfl (by decide)
    · refine zX_go (c := 3) (pc' := 23) (lv' := [.ref 2, .int x1]) (st' := [.int x1, .ref 21]) (h' := zHp s t) rfl ?_
      refine zX_ial (n := 40) rfl rfl hF (fun hF => ?_)
      refine zX_go (c := 2) (pc' := if (s 17 x1.toNatClampNeg) = (nI 4) then 28 else 32) (lv' := [.ref 2, .int x1]) (st' := []) (h' := zHp s t) rfl ?_
      refine zX_ite hF (fun c0 hF => ?_) (fun c0 hF => ?_)
      · refine zX_go (c := 2) (pc' := 33) (lv' := [.ref 2, .int x1]) (st' := [.int (nI 1)]) (h' := zHp s t) rfl ?_
        obtain rfl := Option.some.inj hF
        exact zX_retz rfl (by decide)
      · refine zX_go (c := 1) (pc' := 33) (lv' := [.ref 2, .int x1]) (st' := [.int (nI 0)]) (h' := zHp s t) rfl ?_
        obtain rfl := Option.some.inj hF
        exact zX_retz rfl (by decide)
def f_X1_fits (M : Nat) (s : zS) (x1 x2 : Int32) : Option (Int32) :=
  if x1 = (nI 0) then
   if x2 = (-1) then
    some (nI 1)
   else
    zbd (f_X1_isClass M s x2) (fun q1 =>
     if q1 = 0 then
      some (nI 0)
     else
      some (nI 1))
  else
   if x1 = (nI 1) then
    if x2 = (-1) then
     some (nI 1)
    else
     some (nI 0)
   else
    if x1 = (nI 2) then
     zbd (f_X1_isType M s x2) (fun q2 =>
      zq (q2 &&& 1 == q2) <|
      some q2)
    else
     if x1 = (nI 3) then
      zbd (f_X1_isType M s x2) (fun q3 =>
       zq (q3 &&& 1 == q3) <|
       some q3)
     else
      if x1 = (nI 4) then
       zbd (f_X1_isType M s x2) (fun q4 =>
        zq (q4 &&& 1 == q4) <|
        some q4)
      else
       if x1 = (nI 5) then
        zbd (f_X1_isMethod M s x2) (fun q5 =>
         zq (q5 &&& 1 == q5) <|
         some q5)
       else
        some (nI 0)
set_option maxRecDepth 100000 in
set_option maxHeartbeats 4000000 in
theorem t_X1_fits {L : Nat} {xs : Nat → Int32} (M : Nat) (s t : zS) (x1 x2 : Int32) (R : Int32) (hF : f_X1_fits M s x1 x2 = some R) : zcall (ztb L xs) 3 16 [.ref 2, .int x1, .int x2] (zHp s t) = some (some (.int R), zHp s t) := by
  unfold f_X1_fits at hF
  refine zcall_X (d := 2) (e := zm_X1_fits) rfl rfl ?_
  show zX (ztb L xs) (zcall (ztb L xs) 2) 1 2 zk_X1_fits 0 [.ref 2, .int x1, .int x2] [] (zHp s t) _
  refine zX_go (c := 2) (pc' := if x1 = (nI 0) then 40 else if x1 = (nI 1) then 59 else if x1 = (nI 2) then 70 else if x1 = (nI 3) then 70 else if x1 = (nI 4) then 70 else if x1 = (nI 5) then 76 else 82) (lv' := [.ref 2, .int x1, .int x2]) (st' := []) (h' := zHp s t) rfl ?_
  refine zX_ite hF (fun c0 hF => ?_) (fun c0 hF => ?_)
  · refine zX_go (c := 3) (pc' := if x2 = (-1) then 53 else 45) (lv' := [.ref 2, .int x1, .int x2]) (st' := []) (h' := zHp s t) rfl ?_
    refine zX_ite hF (fun c0 hF => ?_) (fun c0 hF => ?_)
    · refine zX_go (c := 2) (pc' := 58) (lv' := [.ref 2, .int x1, .int x2]) (st' := [.int (nI 1)]) (h' := zHp s t) rfl ?_
      obtain rfl := Option.some.inj hF
      exact zX_retz rfl (by decide)
    · refine zX_go (c := 2) (pc' := 47) (lv' := [.ref 2, .int x1, .int x2]) (st' := [.int x2, .ref 2]) (h' := zHp s t) rfl ?_
      obtain ⟨q1, hq, hF⟩ := zbd_ok hF
      refine zX_inv (av := [.ref 2, .int x2]) (st := []) (h' := zHp s t) rfl rfl rfl rfl rfl rfl (zcall_le (t_X1_isClass M _ _ _ _ hq) (by decide)) ?_
      refine zX_go (c := 1) (pc' := if q1 = 0 then 57 else 53) (lv' := [.ref 2, .int x1, .int x2]) (st' := []) (h' := zHp s t) rfl ?_
      refine zX_ite hF (fun c0 hF => ?_) (fun c0 hF => ?_)
      · refine zX_go (c := 1) (pc' := 58) (lv' := [.ref 2, .int x1, .int x2]) (st' := [.int (nI 0)]) (h' := zHp s t) rfl ?_
        obtain rfl := Option.some.inj hF
        exact zX_retz rfl (by decide)
      · refine zX_go (c := 2) (pc' := 58) (lv' := [.ref 2, .int x1, .int x2]) (st' := [.int (nI 1)]) (h' := zHp s t) rfl ?_
        obtain rfl := Option.some.inj hF
        exact zX_retz rfl (by decide)
  · refine zX_ite hF (fun c0 hF => ?_) (fun c0 hF => ?_)
    · refine zX_go (c := 3) (pc' := if x2 = (-1) then 64 else 68) (lv' := [.ref 2, .int x1, .int x2]) (st' := []) (h' := zHp s t) rfl ?_
      refine zX_ite hF (fun c0 hF => ?_) (fun c0 hF => ?_)
      · refine zX_go (c := 2) (pc' := 69) (lv' := [.ref 2, .int x1, .int x2]) (st' := [.int (nI 1)]) (h' := zHp s t) rfl ?_
        obtain rfl := Option.some.inj hF
        exact zX_retz rfl (by decide)
      · refine zX_go (c := 1) (pc' := 69) (lv' := [.ref 2, .int x1, .int x2]) (st' := [.int (nI 0)]) (h' := zHp s t) rfl ?_
        obtain rfl := Option.some.inj hF
        exact zX_retz rfl (by decide)
    · refine zX_ite hF (fun c0 hF => ?_) (fun c0 hF => ?_)
      · refine zX_go (c := 2) (pc' := 72) (lv' := [.ref 2, .int x1, .int x2]) (st' := [.int x2, .ref 2]) (h' := zHp s t) rfl ?_
        obtain ⟨q2, hq, hF⟩ := zbd_ok hF
        refine zX_inv (av := [.ref 2, .int x2]) (st := []) (h' := zHp s t) rfl rfl rfl rfl rfl rfl (zcall_le (t_X1_isType M _ _ _ _ hq) (by decide)) ?_
        obtain ⟨hb, hF⟩ := zq_ok hF
        obtain rfl := Option.some.inj hF
        exact zX_retz rfl (by simpa using hb)
      · refine zX_ite hF (fun c0 hF => ?_) (fun c0 hF => ?_)
        · refine zX_go (c := 2) (pc' := 72) (lv' := [.ref 2, .int x1, .int x2]) (st' := [.int x2, .ref 2]) (h' := zHp s t) rfl ?_
          obtain ⟨q3, hq, hF⟩ := zbd_ok hF
          refine zX_inv (av := [.ref 2, .int x2]) (st := []) (h' := zHp s t) rfl rfl rfl rfl rfl rfl (zcall_le (t_X1_isType M _ _ _ _ hq) (by decide)) ?_
          obtain ⟨hb, hF⟩ := zq_ok hF
          obtain rfl := Option.some.inj hF
          exact zX_retz rfl (by simpa using hb)
        · refine zX_ite hF (fun c0 hF => ?_) (fun c0 hF => ?_)
          · refine zX_go (c := 2) (pc' := 72) (lv' := [.ref 2, .int x1, .int x2]) (st' := [.int x2, .ref 2]) (h' := zHp s t) rfl ?_
            obtain ⟨q4, hq, hF⟩ := zbd_ok hF
            refine zX_inv (av := [.ref 2, .int x2]) (st := []) (h' := zHp s t) rfl rfl rfl rfl rfl rfl (zcall_le (t_X1_isType M _ _ _ _ hq) (by decide)) ?_
            obtain ⟨hb, hF⟩ := zq_ok hF
            obtain rfl := Option.some.inj hF
            exact zX_retz rfl (by simpa using hb)
          · refine zX_ite hF (fun c0 hF => ?_) (fun c0 hF => ?_)
            · refine zX_go (c := 2) (pc' := 78) (lv' := [.ref 2, .int x1, .int x2]) (st' := [.int x2, .ref 2]) (h' := zHp s t) rfl ?_
              obtain ⟨q5, hq, hF⟩ := zbd_ok hF
              refine zX_inv (av := [.ref 2, .int x2]) (st := []) (h' := zHp s t) rfl rfl rfl rfl rfl rfl (zcall_le (t_X1_isMethod M _ _ _ _ hq) (by decide)) ?_
              obtain ⟨hb, hF⟩ := zq_ok hF
              obtain rfl := Option.some.inj hF
              exact zX_retz rfl (by simpa using hb)
            · refine zX_go (c := 1) (pc' := 83) (lv' := [.ref 2, .int x1, .int x2]) (st' := [.int (nI 0)]) (h' := zHp s t) rfl ?_
              obtain rfl := Option.some.inj hF
              exact zX_retz rfl (by decide)
def f_X1_add (M : Nat) (s : zS) (x1 x2 : Int32) : Option (Int32 × zS) :=
  if (s 16 0) < (nI 40) then
   zq (zin (s 16 0) 40) <|
   zq (zin (s 16 0) 40) <|
   some (((s 16 0) + (nI 1)) - (nI 1), zup (zup (zup s 17 (s 16 0).toNatClampNeg x1) 18 (s 16 0).toNatClampNeg x2) 16 0 ((s 16 0) + (nI 1)))
  else
   some ((-3), s)
set_option maxRecDepth 100000 in
set_option maxHeartbeats 4000000 in
theorem t_X1_add {L : Nat} {xs : Nat → Int32} (M : Nat) (s t : zS) (x1 x2 : Int32) (R : Int32 × zS) (hF : f_X1_add M s x1 x2 = some R) : zcall (ztb L xs) 1 17 [.ref 2, .int x1, .int x2] (zHp s t) = some (some (.int R.1), zHp R.2 t) := by
  unfold f_X1_add at hF
  refine zcall_X (d := 0) (e := zm_X1_add) rfl rfl ?_
  show zX (ztb L xs) (zcall (ztb L xs) 0) 1 1 zk_X1_add 0 [.ref 2, .int x1, .int x2] [] (zHp s t) _
  refine zX_go (c := 4) (pc' := if (s 16 0) < (nI 40) then 12 else 9) (lv' := [.ref 2, .int x1, .int x2]) (st' := []) (h' := zHp s t) rfl ?_
  refine zX_ite hF (fun c0 hF => ?_) (fun c0 hF => ?_)
  · refine zX_go (c := 5) (pc' := 21) (lv' := [.ref 2, .int x1, .int x2]) (st' := [.int x1, .int (s 16 0), .ref 21]) (h' := zHp s t) rfl ?_
    refine zX_ias (n := 40) (h' := zHp (zup s 17 (s 16 0).toNatClampNeg x1) t) rfl rfl (zst_21 _ _ _ _) hF (fun hF => ?_)
    refine zX_go (c := 5) (pc' := 31) (lv' := [.ref 2, .int x1, .int x2]) (st' := [.int x2, .int (s 16 0), .ref 22]) (h' := zHp (zup s 17 (s 16 0).toNatClampNeg x1) t) rfl ?_
    refine zX_ias (n := 40) (h' := zHp (zup (zup s 17 (s 16 0).toNatClampNeg x1) 18 (s 16 0).toNatClampNeg x2) t) rfl rfl (zst_22 _ _ _ _) hF (fun hF => ?_)
    refine zX_go (c := 5) (pc' := 39) (lv' := [.ref 2, .int x1, .int x2]) (st' := [.int ((s 16 0) + (nI 1)), .ref 2]) (h' := zHp (zup (zup s 17 (s 16 0).toNatClampNeg x1) 18 (s 16 0).toNatClampNeg x2) t) rfl ?_
    refine zX_pfi (h' := zHp (zup (zup (zup s 17 (s 16 0).toNatClampNeg x1) 18 (s 16 0).toNatClampNeg x2) 16 0 ((s 16 0) + (nI 1))) t) rfl rfl rfl rfl (zst_2_0 _ _ _) ?_
    refine zX_go (c := 4) (pc' := 48) (lv' := [.ref 2, .int x1, .int x2]) (st' := [.int (((s 16 0) + (nI 1)) - (nI 1))]) (h' := zHp (zup (zup (zup s 17 (s 16 0).toNatClampNeg x1) 18 (s 16 0).toNatClampNeg x2) 16 0 ((s 16 0) + (nI 1))) t) rfl ?_
    obtain rfl := Option.some.inj hF
    exact zX_reti rfl
  · refine zX_go (c := 1) (pc' := 11) (lv' := [.ref 2, .int x1, .int x2]) (st' := [.int (-3)]) (h' := zHp s t) rfl ?_
    obtain rfl := Option.some.inj hF
    exact zX_reti rfl
def f_X1_parentOf (M : Nat) (s : zS) (x1 : Int32) : Option (Int32) :=
  zbd (f_X1_isClass M s x1) (fun q1 =>
   if q1 = 0 then
    some (-1)
   else
    zq (zin x1 40) <|
    some (s 18 x1.toNatClampNeg))
set_option maxRecDepth 100000 in
set_option maxHeartbeats 4000000 in
theorem t_X1_parentOf {L : Nat} {xs : Nat → Int32} (M : Nat) (s t : zS) (x1 : Int32) (R : Int32) (hF : f_X1_parentOf M s x1 = some R) : zcall (ztb L xs) 3 18 [.ref 2, .int x1] (zHp s t) = some (some (.int R), zHp s t) := by
  unfold f_X1_parentOf at hF
  refine zcall_X (d := 2) (e := zm_X1_parentOf) rfl rfl ?_
  show zX (ztb L xs) (zcall (ztb L xs) 2) 1 1 zk_X1_parentOf 0 [.ref 2, .int x1] [] (zHp s t) _
  refine zX_go (c := 2) (pc' := 2) (lv' := [.ref 2, .int x1]) (st' := [.int x1, .ref 2]) (h' := zHp s t) rfl ?_
  obtain ⟨q1, hq, hF⟩ := zbd_ok hF
  refine zX_inv (av := [.ref 2, .int x1]) (st := []) (h' := zHp s t) rfl rfl rfl rfl rfl rfl (zcall_le (t_X1_isClass M _ _ _ _ hq) (by decide)) ?_
  refine zX_go (c := 1) (pc' := if q1 = 0 then 17 else 8) (lv' := [.ref 2, .int x1]) (st' := []) (h' := zHp s t) rfl ?_
  refine zX_ite hF (fun c0 hF => ?_) (fun c0 hF => ?_)
  · refine zX_go (c := 1) (pc' := 18) (lv' := [.ref 2, .int x1]) (st' := [.int (-1)]) (h' := zHp s t) rfl ?_
    obtain rfl := Option.some.inj hF
    exact zX_reti rfl
  · refine zX_go (c := 3) (pc' := 13) (lv' := [.ref 2, .int x1]) (st' := [.int x1, .ref 22]) (h' := zHp s t) rfl ?_
    refine zX_ial (n := 40) rfl rfl hF (fun hF => ?_)
    refine zX_go (c := 1) (pc' := 18) (lv' := [.ref 2, .int x1]) (st' := [.int (s 18 x1.toNatClampNeg)]) (h' := zHp s t) rfl ?_
    obtain rfl := Option.some.inj hF
    exact zX_reti rfl
def f_X1_fittingTargets (M : Nat) (s : zS) (x1 : Int32) : Option (Int32) :=
  zq (zin x1 40) <|
  zq (zin (s 17 x1.toNatClampNeg) 6) <|
  some (zft (s 17 x1.toNatClampNeg).toNatClampNeg)
set_option maxRecDepth 100000 in
set_option maxHeartbeats 4000000 in
theorem t_X1_fittingTargets {L : Nat} {xs : Nat → Int32} (M : Nat) (s t : zS) (x1 : Int32) (R : Int32) (hF : f_X1_fittingTargets M s x1 = some R) : zcall (ztb L xs) 1 19 [.ref 2, .int x1] (zHp s t) = some (some (.int R), zHp s t) := by
  unfold f_X1_fittingTargets at hF
  refine zcall_X (d := 0) (e := zm_X1_fittingTargets) rfl rfl ?_
  show zX (ztb L xs) (zcall (ztb L xs) 0) 1 1 zk_X1_fittingTargets 0 [.ref 2, .int x1] [] (zHp s t) _
  refine zX_go (c := 4) (pc' := 8) (lv' := [.ref 2, .int x1]) (st' := [.int x1, .ref 21, .ref 1000]) (h' := zHp s t) rfl ?_
  refine zX_ial (n := 40) rfl rfl hF (fun hF => ?_)
  refine zX_ial (n := 6) rfl rfl hF (fun hF => ?_)
  obtain rfl := Option.some.inj hF
  exact zX_reti rfl
def f_X2_add (M : Nat) (s : zS) (x1 x2 x3 : Int32) : Option (zS) :=
  if (s 25 0) < (nI 100) then
   zq (zin (s 25 0) 100) <|
   zq (zin (s 25 0) 100) <|
   zq (zin (s 25 0) 100) <|
   some (zup (zup (zup (zup s 26 (s 25 0).toNatClampNeg x1) 27 (s 25 0).toNatClampNeg x2) 28 (s 25 0).toNatClampNeg x3) 25 0 ((s 25 0) + (nI 1)))
  else
   some s
set_option maxRecDepth 100000 in
set_option maxHeartbeats 4000000 in
theorem t_X2_add {L : Nat} {xs : Nat → Int32} (M : Nat) (s t : zS) (x1 x2 x3 : Int32) (R : zS) (hF : f_X2_add M s x1 x2 x3 = some R) : zcall (ztb L xs) 1 20 [.ref 4, .int x1, .int x2, .int x3] (zHp s t) = some (none, zHp R t) := by
  unfold f_X2_add at hF
  refine zcall_X (d := 0) (e := zm_X2_add) rfl rfl ?_
  show zX (ztb L xs) (zcall (ztb L xs) 0) 2 0 zk_X2_add 0 [.ref 4, .int x1, .int x2, .int x3] [] (zHp s t) _
  refine zX_go (c := 4) (pc' := if (s 25 0) < (nI 100) then 10 else 9) (lv' := [.ref 4, .int x1, .int x2, .int x3]) (st' := []) (h' := zHp s t) rfl ?_
  refine zX_ite hF (fun c0 hF => ?_) (fun c0 hF => ?_)
  · refine zX_go (c := 5) (pc' := 19) (lv' := [.ref 4, .int x1, .int x2, .int x3]) (st' := [.int x1, .int (s 25 0), .ref 28]) (h' := zHp s t) rfl ?_
    refine zX_ias (n := 100) (h' := zHp (zup s 26 (s 25 0).toNatClampNeg x1) t) rfl rfl (zst_28 _ _ _ _) hF (fun hF => ?_)
    refine zX_go (c := 5) (pc' := 29) (lv' := [.ref 4, .int x1, .int x2, .int x3]) (st' := [.int x2, .int (s 25 0), .ref 29]) (h' := zHp (zup s 26 (s 25 0).toNatClampNeg x1) t) rfl ?_
    refine zX_ias (n := 100) (h' := zHp (zup (zup s 26 (s 25 0).toNatClampNeg x1) 27 (s 25 0).toNatClampNeg x2) t) rfl rfl (zst_29 _ _ _ _) hF (fun hF => ?_)
    refine zX_go (c := 5) (pc' := 39) (lv' := [.ref 4, .int x1, .int x2, .int x3]) (st' := [.int x3, .int (s 25 0), .ref 30]) (h' := zHp (zup (zup s 26 (s 25 0).toNatClampNeg x1) 27 (s 25 0).toNatClampNeg x2) t) rfl ?_
    refine zX_ias (n := 100) (h' := zHp (zup (zup (zup s 26 (s 25 0).toNatClampNeg x1) 27 (s 25 0).toNatClampNeg x2) 28 (s 25 0).toNatClampNeg x3) t) rfl rfl (zst_30 _ _ _ _) hF (fun hF => ?_)
    refine zX_go (c := 5) (pc' := 47) (lv' := [.ref 4, .int x1, .int x2, .int x3]) (st' := [.int ((s 25 0) + (nI 1)), .ref 4]) (h' := zHp (zup (zup (zup s 26 (s 25 0).toNatClampNeg x1) 27 (s 25 0).toNatClampNeg x2) 28 (s 25 0).toNatClampNeg x3) t) rfl ?_
    refine zX_pfi (h' := zHp (zup (zup (zup (zup s 26 (s 25 0).toNatClampNeg x1) 27 (s 25 0).toNatClampNeg x2) 28 (s 25 0).toNatClampNeg x3) 25 0 ((s 25 0) + (nI 1))) t) rfl rfl rfl rfl (zst_4_0 _ _ _) ?_
    obtain rfl := Option.some.inj hF
    exact zX_retv rfl
  · obtain rfl := Option.some.inj hF
    exact zX_retv rfl
def l_X2_howManyAt (M : Nat) : Nat → zS → Int32 → Int32 → Int32 → Option (Int32)
  | 0, _, _, _, _ => none
  | N + 1, s, y1, y2, y3 =>
    if y3 < (s 25 0) then
     zq (zin y3 100) <|
     if (s 26 y3.toNatClampNeg) = y1 then
      l_X2_howManyAt M N s y1 (y2 + (nI 1)) (y3 + (nI 1))
     else
      l_X2_howManyAt M N s y1 y2 (y3 + (nI 1))
    else
     some y2
set_option maxRecDepth 100000 in
set_option maxHeartbeats 4000000 in
theorem tl_X2_howManyAt {L : Nat} {xs : Nat → Int32} (M : Nat) (t : zS) : ∀ (N : Nat) (s : zS) (y1 : Int32) (y2 : Int32) (y3 : Int32) (R : Int32) (hF : l_X2_howManyAt M N s y1 y2 y3 = some R), zX (ztb L xs) (zcall (ztb L xs) 0) 2 1 zk_X2_howManyAt 4 [.ref 4, .int y1, .int y2, .int y3] [] (zHp s t) (some (.int R), zHp s t) := by
  intro N
  induction N with
  | zero => intro s y1 y2 y3 R hF; cases hF
  | succ N ih =>
    intro s y1 y2 y3 R hF
    unfold l_X2_howManyAt at hF
    refine zX_go (c := 4) (pc' := if y3 < (s 25 0) then 12 else 31) (lv' := [.ref 4, .int y1, .int y2, .int y3]) (st' := []) (h' := zHp s t) rfl ?_
    refine zX_ite hF (fun c0 hF => ?_) (fun c0 hF => ?_)
    · refine zX_go (c := 3) (pc' := 17) (lv' := [.ref 4, .int y1, .int y2, .int y3]) (st' := [.int y3, .ref 28]) (h' := zHp s t) rfl ?_
      refine zX_ial (n := 100) rfl rfl hF (fun hF => ?_)
      refine zX_go (c := 2) (pc' := if (s 26 y3.toNatClampNeg) = y1 then 22 else 25) (lv' := [.ref 4, .int y1, .int y2, .int y3]) (st' := []) (h' := zHp s t) rfl ?_
      refine zX_ite hF (fun c0 hF => ?_) (fun c0 hF => ?_)
      · refine zX_go (c := 3) (pc' := 4) (lv' := [.ref 4, .int y1, .int (y2 + (nI 1)), .int (y3 + (nI 1))]) (st' := []) (h' := zHp s t) rfl ?_
        exact ih s y1 (y2 + (nI 1)) (y3 + (nI 1)) _ hF
      · refine zX_go (c := 2) (pc' := 4) (lv' := [.ref 4, .int y1, .int y2, .int (y3 + (nI 1))]) (st' := []) (h' := zHp s t) rfl ?_
        exact ih s y1 y2 (y3 + (nI 1)) _ hF
    · refine zX_go (c := 1) (pc' := 32) (lv' := [.ref 4, .int y1, .int y2, .int y3]) (st' := [.int y2]) (h' := zHp s t) rfl ?_
      obtain rfl := Option.some.inj hF
      exact zX_reti rfl
def f_X2_howManyAt (M : Nat) (s : zS) (x1 : Int32) : Option (Int32) :=
  l_X2_howManyAt M M s x1 (nI 0) (nI 0)
set_option maxRecDepth 100000 in
set_option maxHeartbeats 4000000 in
theorem t_X2_howManyAt {L : Nat} {xs : Nat → Int32} (M : Nat) (s t : zS) (x1 : Int32) (R : Int32) (hF : f_X2_howManyAt M s x1 = some R) : zcall (ztb L xs) 1 21 [.ref 4, .int x1] (zHp s t) = some (some (.int R), zHp s t) := by
  unfold f_X2_howManyAt at hF
  refine zcall_X (d := 0) (e := zm_X2_howManyAt) rfl rfl ?_
  show zX (ztb L xs) (zcall (ztb L xs) 0) 2 1 zk_X2_howManyAt 0 [.ref 4, .int x1, .retAddr 0, .retAddr 0] [] (zHp s t) _
  refine zX_go (c := 4) (pc' := 4) (lv' := [.ref 4, .int x1, .int (nI 0), .int (nI 0)]) (st' := []) (h' := zHp s t) rfl ?_
  exact tl_X2_howManyAt M t M s x1 (nI 0) (nI 0) _ hF
def l_X2_howMany (M : Nat) : Nat → zS → Int32 → Int32 → Int32 → Int32 → Option (Int32)
  | 0, _, _, _, _, _ => none
  | N + 1, s, y1, y2, y3, y4 =>
    if y4 < (s 25 0) then
     zq (zin y4 100) <|
     if (s 26 y4.toNatClampNeg) = y1 then
      zq (zin y4 100) <|
      if (s 27 y4.toNatClampNeg) = y2 then
       l_X2_howMany M N s y1 y2 (y3 + (nI 1)) (y4 + (nI 1))
      else
       l_X2_howMany M N s y1 y2 y3 (y4 + (nI 1))
     else
      l_X2_howMany M N s y1 y2 y3 (y4 + (nI 1))
    else
     some y3
set_option maxRecDepth 100000 in
set_option maxHeartbeats 4000000 in
theorem tl_X2_howMany {L : Nat} {xs : Nat → Int32} (M : Nat) (t : zS) : ∀ (N : Nat) (s : zS) (y1 : Int32) (y2 : Int32) (y3 : Int32) (y4 : Int32) (R : Int32) (hF : l_X2_howMany M N s y1 y2 y3 y4 = some R), zX (ztb L xs) (zcall (ztb L xs) 0) 2 1 zk_X2_howMany 5 [.ref 4, .int y1, .int y2, .int y3, .int y4] [] (zHp s t) (some (.int R), zHp s t) := by
  intro N
  induction N with
  | zero => intro s y1 y2 y3 y4 R hF; cases hF
  | succ N ih =>
    intro s y1 y2 y3 y4 R hF
    unfold l_X2_howMany at hF
    refine zX_go (c := 4) (pc' := if y4 < (s 25 0) then 14 else 45) (lv' := [.ref 4, .int y1, .int y2, .int y3, .int y4]) (st' := []) (h' := zHp s t) rfl ?_
    refine zX_ite hF (fun c0 hF => ?_) (fun c0 hF => ?_)
    · refine zX_go (c := 3) (pc' := 20) (lv' := [.ref 4, .int y1, .int y2, .int y3, .int y4]) (st' := [.int y4, .ref 28]) (h' := zHp s t) rfl ?_
      refine zX_ial (n := 100) rfl rfl hF (fun hF => ?_)
      refine zX_go (c := 2) (pc' := if (s 26 y4.toNatClampNeg) = y1 then 25 else 39) (lv' := [.ref 4, .int y1, .int y2, .int y3, .int y4]) (st' := []) (h' := zHp s t) rfl ?_
      refine zX_ite hF (fun c0 hF => ?_) (fun c0 hF => ?_)
      · refine zX_go (c := 3) (pc' := 31) (lv' := [.ref 4, .int y1, .int y2, .int y3, .int y4]) (st' := [.int y4, .ref 29]) (h' := zHp s t) rfl ?_
        refine zX_ial (n := 100) rfl rfl hF (fun hF => ?_)
        refine zX_go (c := 2) (pc' := if (s 27 y4.toNatClampNeg) = y2 then 36 else 39) (lv' := [.ref 4, .int y1, .int y2, .int y3, .int y4]) (st' := []) (h' := zHp s t) rfl ?_
        refine zX_ite hF (fun c0 hF => ?_) (fun c0 hF => ?_)
        · refine zX_go (c := 3) (pc' := 5) (lv' := [.ref 4, .int y1, .int y2, .int (y3 + (nI 1)), .int (y4 + (nI 1))]) (st' := []) (h' := zHp s t) rfl ?_
          exact ih s y1 y2 (y3 + (nI 1)) (y4 + (nI 1)) _ hF
        · refine zX_go (c := 2) (pc' := 5) (lv' := [.ref 4, .int y1, .int y2, .int y3, .int (y4 + (nI 1))]) (st' := []) (h' := zHp s t) rfl ?_
          exact ih s y1 y2 y3 (y4 + (nI 1)) _ hF
      · refine zX_go (c := 2) (pc' := 5) (lv' := [.ref 4, .int y1, .int y2, .int y3, .int (y4 + (nI 1))]) (st' := []) (h' := zHp s t) rfl ?_
        exact ih s y1 y2 y3 (y4 + (nI 1)) _ hF
    · refine zX_go (c := 1) (pc' := 46) (lv' := [.ref 4, .int y1, .int y2, .int y3, .int y4]) (st' := [.int y3]) (h' := zHp s t) rfl ?_
      obtain rfl := Option.some.inj hF
      exact zX_reti rfl
def f_X2_howMany (M : Nat) (s : zS) (x1 x2 : Int32) : Option (Int32) :=
  l_X2_howMany M M s x1 x2 (nI 0) (nI 0)
set_option maxRecDepth 100000 in
set_option maxHeartbeats 4000000 in
theorem t_X2_howMany {L : Nat} {xs : Nat → Int32} (M : Nat) (s t : zS) (x1 x2 : Int32) (R : Int32) (hF : f_X2_howMany M s x1 x2 = some R) : zcall (ztb L xs) 1 22 [.ref 4, .int x1, .int x2] (zHp s t) = some (some (.int R), zHp s t) := by
  unfold f_X2_howMany at hF
  refine zcall_X (d := 0) (e := zm_X2_howMany) rfl rfl ?_
  show zX (ztb L xs) (zcall (ztb L xs) 0) 2 1 zk_X2_howMany 0 [.ref 4, .int x1, .int x2, .retAddr 0, .retAddr 0] [] (zHp s t) _
  refine zX_go (c := 4) (pc' := 5) (lv' := [.ref 4, .int x1, .int x2, .int (nI 0), .int (nI 0)]) (st' := []) (h' := zHp s t) rfl ?_
  exact tl_X2_howMany M t M s x1 x2 (nI 0) (nI 0) _ hF
def l_X2_nth (M : Nat) : Nat → zS → Int32 → Int32 → Int32 → Int32 → Int32 → Option (Int32)
  | 0, _, _, _, _, _, _ => none
  | N + 1, s, y1, y2, y3, y4, y5 =>
    if y5 < (s 25 0) then
     zq (zin y5 100) <|
     if (s 26 y5.toNatClampNeg) = y1 then
      zq (zin y5 100) <|
      if (s 27 y5.toNatClampNeg) = y2 then
       if y4 = y3 then
        zq (zin y5 100) <|
        some (s 28 y5.toNatClampNeg)
       else
        l_X2_nth M N s y1 y2 y3 (y4 + (nI 1)) (y5 + (nI 1))
      else
       l_X2_nth M N s y1 y2 y3 y4 (y5 + (nI 1))
     else
      l_X2_nth M N s y1 y2 y3 y4 (y5 + (nI 1))
    else
     some (-1)
set_option maxRecDepth 100000 in
set_option maxHeartbeats 4000000 in
theorem tl_X2_nth {L : Nat} {xs : Nat → Int32} (M : Nat) (t : zS) : ∀ (N : Nat) (s : zS) (y1 : Int32) (y2 : Int32) (y3 : Int32) (y4 : Int32) (y5 : Int32) (R : Int32) (hF : l_X2_nth M N s y1 y2 y3 y4 y5 = some R), zX (ztb L xs) (zcall (ztb L xs) 0) 2 1 zk_X2_nth 6 [.ref 4, .int y1, .int y2, .int y3, .int y4, .int y5] [] (zHp s t) (some (.int R), zHp s t) := by
  intro N
  induction N with
  | zero => intro s y1 y2 y3 y4 y5 R hF; cases hF
  | succ N ih =>
    intro s y1 y2 y3 y4 y5 R hF
    unfold l_X2_nth at hF
    refine zX_go (c := 4) (pc' := if y5 < (s 25 0) then 15 else 60) (lv' := [.ref 4, .int y1, .int y2, .int y3, .int y4, .int y5]) (st' := []) (h' := zHp s t) rfl ?_
    refine zX_ite hF (fun c0 hF => ?_) (fun c0 hF => ?_)
    · refine zX_go (c := 3) (pc' := 21) (lv' := [.ref 4, .int y1, .int y2, .int y3, .int y4, .int y5]) (st' := [.int y5, .ref 28]) (h' := zHp s t) rfl ?_
      refine zX_ial (n := 100) rfl rfl hF (fun hF => ?_)
      refine zX_go (c := 2) (pc' := if (s 26 y5.toNatClampNeg) = y1 then 26 else 54) (lv' := [.ref 4, .int y1, .int y2, .int y3, .int y4, .int y5]) (st' := []) (h' := zHp s t) rfl ?_
      refine zX_ite hF (fun c0 hF => ?_) (fun c0 hF => ?_)
      · refine zX_go (c := 3) (pc' := 32) (lv' := [.ref 4, .int y1, .int y2, .int y3, .int y4, .int y5]) (st' := [.int y5, .ref 29]) (h' := zHp s t) rfl ?_
        refine zX_ial (n := 100) rfl rfl hF (fun hF => ?_)
        refine zX_go (c := 2) (pc' := if (s 27 y5.toNatClampNeg) = y2 then 37 else 54) (lv' := [.ref 4, .int y1, .int y2, .int y3, .int y4, .int y5]) (st' := []) (h' := zHp s t) rfl ?_
        refine zX_ite hF (fun c0 hF => ?_) (fun c0 hF => ?_)
        · refine zX_go (c := 3) (pc' := if y4 = y3 then 43 else 51) (lv' := [.ref 4, .int y1, .int y2, .int y3, .int y4, .int y5]) (st' := []) (h' := zHp s t) rfl ?_
          refine zX_ite hF (fun c0 hF => ?_) (fun c0 hF => ?_)
          · refine zX_go (c := 3) (pc' := 49) (lv' := [.ref 4, .int y1, .int y2, .int y3, .int y4, .int y5]) (st' := [.int y5, .ref 30]) (h' := zHp s t) rfl ?_
            refine zX_ial (n := 100) rfl rfl hF (fun hF => ?_)
            obtain rfl := Option.some.inj hF
            exact zX_reti rfl
          · refine zX_go (c := 3) (pc' := 6) (lv' := [.ref 4, .int y1, .int y2, .int y3, .int (y4 + (nI 1)), .int (y5 + (nI 1))]) (st' := []) (h' := zHp s t) rfl ?_
            exact ih s y1 y2 y3 (y4 + (nI 1)) (y5 + (nI 1)) _ hF
        · refine zX_go (c := 2) (pc' := 6) (lv' := [.ref 4, .int y1, .int y2, .int y3, .int y4, .int (y5 + (nI 1))]) (st' := []) (h' := zHp s t) rfl ?_
          exact ih s y1 y2 y3 y4 (y5 + (nI 1)) _ hF
      · refine zX_go (c := 2) (pc' := 6) (lv' := [.ref 4, .int y1, .int y2, .int y3, .int y4, .int (y5 + (nI 1))]) (st' := []) (h' := zHp s t) rfl ?_
        exact ih s y1 y2 y3 y4 (y5 + (nI 1)) _ hF
    · refine zX_go (c := 1) (pc' := 61) (lv' := [.ref 4, .int y1, .int y2, .int y3, .int y4, .int y5]) (st' := [.int (-1)]) (h' := zHp s t) rfl ?_
      obtain rfl := Option.some.inj hF
      exact zX_reti rfl
def f_X2_nth (M : Nat) (s : zS) (x1 x2 x3 : Int32) : Option (Int32) :=
  l_X2_nth M M s x1 x2 x3 (nI 0) (nI 0)
set_option maxRecDepth 100000 in
set_option maxHeartbeats 4000000 in
theorem t_X2_nth {L : Nat} {xs : Nat → Int32} (M : Nat) (s t : zS) (x1 x2 x3 : Int32) (R : Int32) (hF : f_X2_nth M s x1 x2 x3 = some R) : zcall (ztb L xs) 1 23 [.ref 4, .int x1, .int x2, .int x3] (zHp s t) = some (some (.int R), zHp s t) := by
  unfold f_X2_nth at hF
  refine zcall_X (d := 0) (e := zm_X2_nth) rfl rfl ?_
  show zX (ztb L xs) (zcall (ztb L xs) 0) 2 1 zk_X2_nth 0 [.ref 4, .int x1, .int x2, .int x3, .retAddr 0, .retAddr 0] [] (zHp s t) _
  refine zX_go (c := 4) (pc' := 6) (lv' := [.ref 4, .int x1, .int x2, .int x3, .int (nI 0), .int (nI 0)]) (st' := []) (h' := zHp s t) rfl ?_
  exact tl_X2_nth M t M s x1 x2 x3 (nI 0) (nI 0) _ hF
