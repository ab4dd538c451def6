/-! What the methods answer, and that the small machine answers so: by program (gen2.py). -/
def f_X6_isMark (M : Nat) (t : zS) (x1 : Int32) : Option (Int32) :=
  if x1 < 0 then
   some (nI 0)
  else
   if x1 < (t 0 0) then
    some (nI 1)
   else
    some (nI 0)
set_option maxRecDepth 100000 in
set_option maxHeartbeats 4000000 in
theorem t_X6_isMark {L : Nat} {xs : Nat → Int32} (M : Nat) (s t : zS) (x1 : Int32) (R : Int32) (hF : f_X6_isMark M t x1 = some R) : zcall (ztb L xs) 1 90 [.ref 6, .int x1] (zHp s t) = some (some (.int R), zHp s t) := by
  unfold f_X6_isMark at hF
  refine zcall_X (d := 0) (e := zm_X6_isMark) rfl rfl ?_
  show zX (ztb L xs) (zcall (ztb L xs) 0) 6 2 zk_X6_isMark 0 [.ref 6, .int x1] [] (zHp s t) _
  refine zX_go (c := 2) (pc' := if x1 < 0 then 16 else 4) (lv' := [.ref 6, .int x1]) (st' := []) (h' := zHp s t) rfl ?_
  refine zX_ite hF (fun c0 hF => ?_) (fun c0 hF => ?_)
  · refine zX_go (c := 1) (pc' := 17) (lv' := [.ref 6, .int x1]) (st' := [.int (nI 0)]) (h' := zHp s t) rfl ?_
    obtain rfl := Option.some.inj hF
    exact zX_retz rfl (by decide)
  · refine zX_go (c := 4) (pc' := if x1 < (t 0 0) then 12 else 16) (lv' := [.ref 6, .int x1]) (st' := []) (h' := zHp s t) rfl ?_
    refine zX_ite hF (fun c0 hF => ?_) (fun c0 hF => ?_)
    · refine zX_go (c := 2) (pc' := 17) (lv' := [.ref 6, .int x1]) (st' := [.int (nI 1)]) (h' := zHp s t) rfl ?_
      obtain rfl := Option.some.inj hF
      exact zX_retz rfl (by decide)
    · refine zX_go (c := 1) (pc' := 17) (lv' := [.ref 6, .int x1]) (st' := [.int (nI 0)]) (h' := zHp s t) rfl ?_
      obtain rfl := Option.some.inj hF
      exact zX_retz rfl (by decide)
def f_X6_mark (M : Nat) (t : zS) (x1 x2 x3 : Int32) : Option (Int32 × zS) :=
  if x1 < 0 then
   some ((-2), t)
  else
   if (nI 31) < x1 then
    some ((-2), t)
   else
    if x2 < 0 then
     some ((-2), t)
    else
     if (nI 2) < x2 then
      some ((-2), t)
     else
      if (t 0 0) = (nI 12) then
       some ((-3), t)
      else
       zq (zin (t 0 0) 12) <|
       zq (zin (t 0 0) 12) <|
       zq (zin (t 0 0) 12) <|
       some (((t 0 0) + (nI 1)) - (nI 1), zup (zup (zup (zup t 1 (t 0 0).toNatClampNeg x1) 2 (t 0 0).toNatClampNeg x2) 3 (t 0 0).toNatClampNeg (zbn 1 x3)) 0 0 ((t 0 0) + (nI 1)))
set_option maxRecDepth 100000 in
set_option maxHeartbeats 4000000 in
theorem t_X6_mark {L : Nat} {xs : Nat → Int32} (M : Nat) (s t : zS) (x1 x2 x3 : Int32) (R : Int32 × zS) (hF : f_X6_mark M t x1 x2 x3 = some R) : zcall (ztb L xs) 1 91 [.ref 6, .int x1, .int x2, .int x3] (zHp s t) = some (some (.int R.1), zHp s R.2) := by
  unfold f_X6_mark at hF
  refine zcall_X (d := 0) (e := zm_X6_mark) rfl rfl ?_
  show zX (ztb L xs) (zcall (ztb L xs) 0) 6 1 zk_X6_mark 0 [.ref 6, .int x1, .int x2, .int x3] [] (zHp s t) _
  refine zX_go (c := 2) (pc' := if x1 < 0 then 19 else 4) (lv' := [.ref 6, .int x1, .int x2, .int x3]) (st' := []) (h' := zHp s t) rfl ?_
  refine zX_ite hF (fun c0 hF => ?_) (fun c0 hF => ?_)
  · refine zX_go (c := 1) (pc' := 21) (lv' := [.ref 6, .int x1, .int x2, .int x3]) (st' := [.int (-2)]) (h' := zHp s t) rfl ?_
    obtain rfl := Option.some.inj hF
    exact zX_reti rfl
  · refine zX_go (c := 3) (pc' := if (nI 31) < x1 then 19 else 10) (lv' := [.ref 6, .int x1, .int x2, .int x3]) (st' := []) (h' := zHp s t) rfl ?_
    refine zX_ite hF (fun c0 hF => ?_) (fun c0 hF => ?_)
    · refine zX_go (c := 1) (pc' := 21) (lv' := [.ref 6, .int x1, .int x2, .int x3]) (st' := [.int (-2)]) (h' := zHp s t) rfl ?_
      obtain rfl := Option.some.inj hF
      exact zX_reti rfl
    · refine zX_go (c := 2) (pc' := if x2 < 0 then 19 else 14) (lv' := [.ref 6, .int x1, .int x2, .int x3]) (st' := []) (h' := zHp s t) rfl ?_
      refine zX_ite hF (fun c0 hF => ?_) (fun c0 hF => ?_)
      · refine zX_go (c := 1) (pc' := 21) (lv' := [.ref 6, .int x1, .int x2, .int x3]) (st' := [.int (-2)]) (h' := zHp s t) rfl ?_
        obtain rfl := Option.some.inj hF
        exact zX_reti rfl
      · refine zX_go (c := 3) (pc' := if (nI 2) < x2 then 19 else 22) (lv' := [.ref 6, .int x1, .int x2, .int x3]) (st' := []) (h' := zHp s t) rfl ?_
        refine zX_ite hF (fun c0 hF => ?_) (fun c0 hF => ?_)
        · refine zX_go (c := 1) (pc' := 21) (lv' := [.ref 6, .int x1, .int x2, .int x3]) (st' := [.int (-2)]) (h' := zHp s t) rfl ?_
          obtain rfl := Option.some.inj hF
          exact zX_reti rfl
        · refine zX_go (c := 4) (pc' := if (t 0 0) = (nI 12) then 31 else 34) (lv' := [.ref 6, .int x1, .int x2, .int x3]) (st' := []) (h' := zHp s t) rfl ?_
          refine zX_ite hF (fun c0 hF => ?_) (fun c0 hF => ?_)
          · refine zX_go (c := 1) (pc' := 33) (lv' := [.ref 6, .int x1, .int x2, .int x3]) (st' := [.int (-3)]) (h' := zHp s t) rfl ?_
            obtain rfl := Option.some.inj hF
            exact zX_reti rfl
          · refine zX_go (c := 5) (pc' := 43) (lv' := [.ref 6, .int x1, .int x2, .int x3]) (st' := [.int x1, .int (t 0 0), .ref 33]) (h' := zHp s t) rfl ?_
            refine zX_ias (n := 12) (h' := zHp s (zup t 1 (t 0 0).toNatClampNeg x1)) rfl rfl (zst_33 _ _ _ _) hF (fun hF => ?_)
            refine zX_go (c := 5) (pc' := 53) (lv' := [.ref 6, .int x1, .int x2, .int x3]) (st' := [.int x2, .int (t 0 0), .ref 34]) (h' := zHp s (zup t 1 (t 0 0).toNatClampNeg x1)) rfl ?_
            refine zX_ias (n := 12) (h' := zHp s (zup (zup t 1 (t 0 0).toNatClampNeg x1) 2 (t 0 0).toNatClampNeg x2)) rfl rfl (zst_34 _ _ _ _) hF (fun hF => ?_)
            refine zX_go (c := 5) (pc' := 63) (lv' := [.ref 6, .int x1, .int x2, .int x3]) (st' := [.int x3, .int (t 0 0), .ref 35]) (h' := zHp s (zup (zup t 1 (t 0 0).toNatClampNeg x1) 2 (t 0 0).toNatClampNeg x2)) rfl ?_
            refine zX_bas (n := 12) (h' := zHp s (zup (zup (zup t 1 (t 0 0).toNatClampNeg x1) 2 (t 0 0).toNatClampNeg x2) 3 (t 0 0).toNatClampNeg (zbn 1 x3))) rfl rfl (zst_35 _ _ _ _) hF (fun hF => ?_)
            refine zX_go (c := 5) (pc' := 71) (lv' := [.ref 6, .int x1, .int x2, .int x3]) (st' := [.int ((t 0 0) + (nI 1)), .ref 6]) (h' := zHp s (zup (zup (zup t 1 (t 0 0).toNatClampNeg x1) 2 (t 0 0).toNatClampNeg x2) 3 (t 0 0).toNatClampNeg (zbn 1 x3))) rfl ?_
            refine zX_pfi (h' := zHp s (zup (zup (zup (zup t 1 (t 0 0).toNatClampNeg x1) 2 (t 0 0).toNatClampNeg x2) 3 (t 0 0).toNatClampNeg (zbn 1 x3)) 0 0 ((t 0 0) + (nI 1)))) rfl rfl rfl rfl (zst_6_0 _ _ _) ?_
            refine zX_go (c := 4) (pc' := 80) (lv' := [.ref 6, .int x1, .int x2, .int x3]) (st' := [.int (((t 0 0) + (nI 1)) - (nI 1))]) (h' := zHp s (zup (zup (zup (zup t 1 (t 0 0).toNatClampNeg x1) 2 (t 0 0).toNatClampNeg x2) 3 (t 0 0).toNatClampNeg (zbn 1 x3)) 0 0 ((t 0 0) + (nI 1)))) rfl ?_
            obtain rfl := Option.some.inj hF
            exact zX_reti rfl
def f_X6_isKind (M : Nat) (t : zS) (x1 : Int32) : Option (Int32) :=
  if x1 < 0 then
   zbd (f_X6_isMark M t (x1 - (nI 10))) (fun q1 =>
    if q1 = 0 then
     some (nI 0)
    else
     some (nI 1))
  else
   if (nI 3) < x1 then
    zbd (f_X6_isMark M t (x1 - (nI 10))) (fun q2 =>
     if q2 = 0 then
      some (nI 0)
     else
      some (nI 1))
   else
    some (nI 1)
set_option maxRecDepth 100000 in
set_option maxHeartbeats 4000000 in
theorem t_X6_isKind {L : Nat} {xs : Nat → Int32} (M : Nat) (s t : zS) (x1 : Int32) (R : Int32) (hF : f_X6_isKind M t x1 = some R) : zcall (ztb L xs) 2 92 [.ref 6, .int x1] (zHp s t) = some (some (.int R), zHp s t) := by
  unfold f_X6_isKind at hF
  refine zcall_X (d := 1) (e := zm_X6_isKind) rfl rfl ?_
  show zX (ztb L xs) (zcall (ztb L xs) 1) 6 2 zk_X6_isKind 0 [.ref 6, .int x1] [] (zHp s t) _
  refine zX_go (c := 2) (pc' := if x1 < 0 then 9 else 4) (lv' := [.ref 6, .int x1]) (st' := []) (h' := zHp s t) rfl ?_
  refine zX_ite hF (fun c0 hF => ?_) (fun c0 hF => ?_)
  · refine zX_go (c := 4) (pc' := 14) (lv' := [.ref 6, .int x1]) (st' := [.int (x1 - (nI 10)), .ref 6]) (h' := zHp s t) rfl ?_
    obtain ⟨q1, hq, hF⟩ := zbd_ok hF
    refine zX_inv (av := [.ref 6, .int (x1 - (nI 10))]) (st := []) (h' := zHp s t) rfl rfl rfl rfl rfl rfl (zcall_le (t_X6_isMark M _ _ _ _ hq) (by decide)) ?_
    refine zX_go (c := 1) (pc' := if q1 = 0 then 24 else 20) (lv' := [.ref 6, .int x1]) (st' := []) (h' := zHp s t) rfl ?_
    refine zX_ite hF (fun c0 hF => ?_) (fun c0 hF => ?_)
    · refine zX_go (c := 1) (pc' := 25) (lv' := [.ref 6, .int x1]) (st' := [.int (nI 0)]) (h' := zHp s t) rfl ?_
      obtain rfl := Option.some.inj hF
      exact zX_retz rfl (by decide)
    · refine zX_go (c := 2) (pc' := 25) (lv' := [.ref 6, .int x1]) (st' := [.int (nI 1)]) (h' := zHp s t) rfl ?_
      obtain rfl := Option.some.inj hF
      exact zX_retz rfl (by decide)
  · refine zX_go (c := 3) (pc' := if (nI 3) < x1 then 9 else 20) (lv' := [.ref 6, .int x1]) (st' := []) (h' := zHp s t) rfl ?_
    refine zX_ite hF (fun c0 hF => ?_) (fun c0 hF => ?_)
    · refine zX_go (c := 4) (pc' := 14) (lv' := [.ref 6, .int x1]) (st' := [.int (x1 - (nI 10)), .ref 6]) (h' := zHp s t) rfl ?_
      obtain ⟨q2, hq, hF⟩ := zbd_ok hF
      refine zX_inv (av := [.ref 6, .int (x1 - (nI 10))]) (st := []) (h' := zHp s t) rfl rfl rfl rfl rfl rfl (zcall_le (t_X6_isMark M _ _ _ _ hq) (by decide)) ?_
      refine zX_go (c := 1) (pc' := if q2 = 0 then 24 else 20) (lv' := [.ref 6, .int x1]) (st' := []) (h' := zHp s t) rfl ?_
      refine zX_ite hF (fun c0 hF => ?_) (fun c0 hF => ?_)
      · refine zX_go (c := 1) (pc' := 25) (lv' := [.ref 6, .int x1]) (st' := [.int (nI 0)]) (h' := zHp s t) rfl ?_
        obtain rfl := Option.some.inj hF
        exact zX_retz rfl (by decide)
      · refine zX_go (c := 2) (pc' := 25) (lv' := [.ref 6, .int x1]) (st' := [.int (nI 1)]) (h' := zHp s t) rfl ?_
        obtain rfl := Option.some.inj hF
        exact zX_retz rfl (by decide)
    · refine zX_go (c := 2) (pc' := 25) (lv' := [.ref 6, .int x1]) (st' := [.int (nI 1)]) (h' := zHp s t) rfl ?_
      obtain rfl := Option.some.inj hF
      exact zX_retz rfl (by decide)
def l_X6_elementOf (M : Nat) : Nat → zS → Int32 → Int32 → Int32 → Int32 → Option (Int32)
  | 0, _, _, _, _, _ => none
  | N + 1, t, y1, y2, y3, y4 =>
    zq (zin y1 12) <|
    if y4 < (t 6 y1.toNatClampNeg) then
     zq (zin (((nI 5) * y1) + y4) 60) <|
     if (t 7 (((nI 5) * y1) + y4).toNatClampNeg) = y2 then
      l_X6_elementOf M N t y1 y2 (((nI 5) * y1) + y4) (y4 + (nI 1))
     else
      l_X6_elementOf M N t y1 y2 y3 (y4 + (nI 1))
    else
     some y3
set_option maxRecDepth 100000 in
set_option maxHeartbeats 4000000 in
theorem tl_X6_elementOf {L : Nat} {xs : Nat → Int32} (M : Nat) (s : zS) : ∀ (N : Nat) (t : zS) (y1 : Int32) (y2 : Int32) (y3 : Int32) (y4 : Int32) (R : Int32) (hF : l_X6_elementOf M N t y1 y2 y3 y4 = some R), zX (ztb L xs) (zcall (ztb L xs) 0) 6 1 zk_X6_elementOf 5 [.ref 6, .int y1, .int y2, .int y3, .int y4] [] (zHp s t) (some (.int R), zHp s t) := by
  intro N
  induction N with
  | zero => intro t y1 y2 y3 y4 R hF; cases hF
  | succ N ih =>
    intro t y1 y2 y3 y4 R hF
    unfold l_X6_elementOf at hF
    refine zX_go (c := 4) (pc' := 12) (lv' := [.ref 6, .int y1, .int y2, .int y3, .int y4]) (st' := [.int y1, .ref 38, .int y4]) (h' := zHp s t) rfl ?_
    refine zX_ial (n := 12) rfl rfl hF (fun hF => ?_)
    refine zX_go (c := 1) (pc' := if y4 < (t 6 y1.toNatClampNeg) then 16 else 48) (lv' := [.ref 6, .int y1, .int y2, .int y3, .int y4]) (st' := []) (h' := zHp s t) rfl ?_
    refine zX_ite hF (fun c0 hF => ?_) (fun c0 hF => ?_)
    · refine zX_go (c := 7) (pc' := 26) (lv' := [.ref 6, .int y1, .int y2, .int y3, .int y4]) (st' := [.int (((nI 5) * y1) + y4), .ref 39]) (h' := zHp s t) rfl ?_
      refine zX_ial (n := 60) rfl rfl hF (fun hF => ?_)
      refine zX_go (c := 2) (pc' := if (t 7 (((nI 5) * y1) + y4).toNatClampNeg) = y2 then 31 else 40) (lv' := [.ref 6, .int y1, .int y2, .int y3, .int y4]) (st' := []) (h' := zHp s t) rfl ?_
      refine zX_ite hF (fun c0 hF => ?_) (fun c0 hF => ?_)
      · refine zX_go (c := 9) (pc' := 5) (lv' := [.ref 6, .int y1, .int y2, .int (((nI 5) * y1) + y4), .int (y4 + (nI 1))]) (st' := []) (h' := zHp s t) rfl ?_
        exact ih t y1 y2 (((nI 5) * y1) + y4) (y4 + (nI 1)) _ hF
      · refine zX_go (c := 4) (pc' := 5) (lv' := [.ref 6, .int y1, .int y2, .int y3, .int (y4 + (nI 1))]) (st' := []) (h' := zHp s t) rfl ?_
        exact ih t y1 y2 y3 (y4 + (nI 1)) _ hF
    · refine zX_go (c := 1) (pc' := 49) (lv' := [.ref 6, .int y1, .int y2, .int y3, .int y4]) (st' := [.int y3]) (h' := zHp s t) rfl ?_
      obtain rfl := Option.some.inj hF
      exact zX_reti rfl
def f_X6_elementOf (M : Nat) (t : zS) (x1 x2 : Int32) : Option (Int32) :=
  l_X6_elementOf M M t x1 x2 (-1) (nI 0)
set_option maxRecDepth 100000 in
set_option maxHeartbeats 4000000 in
theorem t_X6_elementOf {L : Nat} {xs : Nat → Int32} (M : Nat) (s t : zS) (x1 x2 : Int32) (R : Int32) (hF : f_X6_elementOf M t x1 x2 = some R) : zcall (ztb L xs) 1 93 [.ref 6, .int x1, .int x2] (zHp s t) = some (some (.int R), zHp s t) := by
  unfold f_X6_elementOf at hF
  refine zcall_X (d := 0) (e := zm_X6_elementOf) rfl rfl ?_
  show zX (ztb L xs) (zcall (ztb L xs) 0) 6 1 zk_X6_elementOf 0 [.ref 6, .int x1, .int x2, .retAddr 0, .retAddr 0] [] (zHp s t) _
  refine zX_go (c := 4) (pc' := 5) (lv' := [.ref 6, .int x1, .int x2, .int (-1), .int (nI 0)]) (st' := []) (h' := zHp s t) rfl ?_
  exact tl_X6_elementOf M s M t x1 x2 (-1) (nI 0) _ hF
def l_X6_isFixed (M : Nat) : Nat → zS → Int32 → Int32 → Int32 → Option (Int32)
  | 0, _, _, _, _ => none
  | N + 1, t, y1, y2, y3 =>
    if y3 < (t 15 0) then
     if y2 = 0 then
      zq (zin y3 100) <|
      if (t 16 y3.toNatClampNeg) = (nI 2) then
       zq (zin y3 100) <|
       if (t 17 y3.toNatClampNeg) = y1 then
        l_X6_isFixed M N t y1 (nI 1) (y3 + (nI 1))
       else
        l_X6_isFixed M N t y1 (nI 0) (y3 + (nI 1))
      else
       l_X6_isFixed M N t y1 (nI 0) (y3 + (nI 1))
     else
      l_X6_isFixed M N t y1 (nI 1) (y3 + (nI 1))
    else
     zq (y2 &&& 1 == y2) <|
     some y2
set_option maxRecDepth 100000 in
set_option maxHeartbeats 4000000 in
theorem tl_X6_isFixed {L : Nat} {xs : Nat → Int32} (M : Nat) (s : zS) : ∀ (N : Nat) (t : zS) (y1 : Int32) (y2 : Int32) (y3 : Int32) (R : Int32) (hF : l_X6_isFixed M N t y1 y2 y3 = some R), zX (ztb L xs) (zcall (ztb L xs) 0) 6 2 zk_X6_isFixed 28 [.ref 6, .int y1, .int y2, .int y3] [] (zHp s t) (some (.int R), zHp s t) := by
  intro N
  induction N with
  | zero => intro t y1 y2 y3 R hF; cases hF
  | succ N ih =>
    intro t y1 y2 y3 R hF
    unfold l_X6_isFixed at hF
    refine zX_go (c := 4) (pc' := if y3 < (t 15 0) then 36 else 72) (lv' := [.ref 6, .int y1, .int y2, .int y3]) (st' := []) (h' := zHp s t) rfl ?_
    refine zX_ite hF (fun c0 hF => ?_) (fun c0 hF => ?_)
    · refine zX_go (c := 2) (pc' := if y2 = 0 then 40 else 60) (lv' := [.ref 6, .int y1, .int y2, .int y3]) (st' := []) (h' := zHp s t) rfl ?_
      refine zX_ite hF (fun c0 hF => ?_) (fun c0 hF => ?_)
      · refine zX_go (c := 3) (pc' := 45) (lv' := [.ref 6, .int y1, .int y2, .int y3]) (st' := [.int y3, .ref 46]) (h' := zHp s t) rfl ?_
        refine zX_ial (n := 100) rfl rfl hF (fun hF => ?_)
        refine zX_go (c := 2) (pc' := if (t 16 y3.toNatClampNeg) = (nI 2) then 50 else 64) (lv' := [.ref 6, .int y1, .int y2, .int y3]) (st' := []) (h' := zHp s t) rfl ?_
        refine zX_ite hF (fun c0 hF => ?_) (fun c0 hF => ?_)
        · refine zX_go (c := 3) (pc' := 55) (lv' := [.ref 6, .int y1, .int y2, .int y3]) (st' := [.int y3, .ref 47]) (h' := zHp s t) rfl ?_
          refine zX_ial (n := 100) rfl rfl hF (fun hF => ?_)
          refine zX_go (c := 2) (pc' := if (t 17 y3.toNatClampNeg) = y1 then 60 else 64) (lv' := [.ref 6, .int y1, .int y2, .int y3]) (st' := []) (h' := zHp s t) rfl ?_
          refine zX_ite hF (fun c0 hF => ?_) (fun c0 hF => ?_)
          · refine zX_go (c := 5) (pc' := 28) (lv' := [.ref 6, .int y1, .int (nI 1), .int (y3 + (nI 1))]) (st' := []) (h' := zHp s t) rfl ?_
            exact ih t y1 (nI 1) (y3 + (nI 1)) _ hF
          · refine zX_go (c := 4) (pc' := 28) (lv' := [.ref 6, .int y1, .int (nI 0), .int (y3 + (nI 1))]) (st' := []) (h' := zHp s t) rfl ?_
            exact ih t y1 (nI 0) (y3 + (nI 1)) _ hF
        · refine zX_go (c := 4) (pc' := 28) (lv' := [.ref 6, .int y1, .int (nI 0), .int (y3 + (nI 1))]) (st' := []) (h' := zHp s t) rfl ?_
          exact ih t y1 (nI 0) (y3 + (nI 1)) _ hF
      · refine zX_go (c := 5) (pc' := 28) (lv' := [.ref 6, .int y1, .int (nI 1), .int (y3 + (nI 1))]) (st' := []) (h' := zHp s t) rfl ?_
        exact ih t y1 (nI 1) (y3 + (nI 1)) _ hF
    · refine zX_go (c := 1) (pc' := 73) (lv' := [.ref 6, .int y1, .int y2, .int y3]) (st' := [.int y2]) (h' := zHp s t) rfl ?_
      obtain ⟨hb, hF⟩ := zq_ok hF
      obtain rfl := Option.some.inj hF
      exact zX_retz rfl (by simpa using hb)
def f_X6_isFixed (M : Nat) (t : zS) (x1 : Int32) : Option (Int32) :=
  zq (zin x1 12) <|
  if (t 4 x1.toNatClampNeg) = (-1) then
   zq (zin x1 12) <|
   if (t 5 x1.toNatClampNeg) = (-1) then
    l_X6_isFixed M M t x1 (nI 0) (nI 0)
   else
    l_X6_isFixed M M t x1 (nI 1) (nI 0)
  else
   l_X6_isFixed M M t x1 (nI 1) (nI 0)
set_option maxRecDepth 100000 in
set_option maxHeartbeats 4000000 in
theorem t_X6_isFixed {L : Nat} {xs : Nat → Int32} (M : Nat) (s t : zS) (x1 : Int32) (R : Int32) (hF : f_X6_isFixed M t x1 = some R) : zcall (ztb L xs) 1 94 [.ref 6, .int x1] (zHp s t) = some (some (.int R), zHp s t) := by
  unfold f_X6_isFixed at hF
  refine zcall_X (d := 0) (e := zm_X6_isFixed) rfl rfl ?_
  show zX (ztb L xs) (zcall (ztb L xs) 0) 6 2 zk_X6_isFixed 0 [.ref 6, .int x1, .retAddr 0, .retAddr 0] [] (zHp s t) _
  refine zX_go (c := 3) (pc' := 5) (lv' := [.ref 6, .int x1, .retAddr 0, .retAddr 0]) (st' := [.int x1, .ref 36]) (h' := zHp s t) rfl ?_
  refine zX_ial (n := 12) rfl rfl hF (fun hF => ?_)
  refine zX_go (c := 2) (pc' := if (t 4 x1.toNatClampNeg) = (-1) then 10 else 20) (lv' := [.ref 6, .int x1, .retAddr 0, .retAddr 0]) (st' := []) (h' := zHp s t) rfl ?_
  refine zX_ite hF (fun c0 hF => ?_) (fun c0 hF => ?_)
  · refine zX_go (c := 3) (pc' := 15) (lv' := [.ref 6, .int x1, .retAddr 0, .retAddr 0]) (st' := [.int x1, .ref 37]) (h' := zHp s t) rfl ?_
    refine zX_ial (n := 12) rfl rfl hF (fun hF => ?_)
    refine zX_go (c := 2) (pc' := if (t 5 x1.toNatClampNeg) = (-1) then 24 else 20) (lv' := [.ref 6, .int x1, .retAddr 0, .retAddr 0]) (st' := []) (h' := zHp s t) rfl ?_
    refine zX_ite hF (fun c0 hF => ?_) (fun c0 hF => ?_)
    · refine zX_go (c := 4) (pc' := 28) (lv' := [.ref 6, .int x1, .int (nI 0), .int (nI 0)]) (st' := []) (h' := zHp s t) rfl ?_
      exact tl_X6_isFixed M s M t x1 (nI 0) (nI 0) _ hF
    · refine zX_go (c := 5) (pc' := 28) (lv' := [.ref 6, .int x1, .int (nI 1), .int (nI 0)]) (st' := []) (h' := zHp s t) rfl ?_
      exact tl_X6_isFixed M s M t x1 (nI 1) (nI 0) _ hF
  · refine zX_go (c := 5) (pc' := 28) (lv' := [.ref 6, .int x1, .int (nI 1), .int (nI 0)]) (st' := []) (h' := zHp s t) rfl ?_
    exact tl_X6_isFixed M s M t x1 (nI 1) (nI 0) _ hF
def l_X6_mayLead (M : Nat) : Nat → Nat → zS → Int32 → Int32 → Int32 → Int32 → Int32 → Int32 → Option (Int32 × zS)
  | 0, _, _, _, _, _, _, _, _ => none
  | N + 1, hd, t, y1, y2, y3, y4, y5, y6 => match hd with
    | 0 =>
      if y3 < (nI 12) then
       zq (zin y3 12) <|
       l_X6_mayLead M N 0 (zup t 11 y3.toNatClampNeg (nI 0)) y1 y2 (y3 + (nI 1)) 0 0 0
      else
       l_X6_mayLead M N 1 t y1 y2 (nI 1) (nI 0) 0 0
    | 1 =>
      if y4 < (nI 4) then
       l_X6_mayLead M N 2 t y1 y2 y3 y4 (nI 0) 0
      else
       l_X6_mayLead M N 4 t 0 0 y3 (nI 0) 0 0
    | 2 =>
      if y5 < (t 0 0) then
       l_X6_mayLead M N 3 t y1 y2 y3 y4 y5 (nI 0)
      else
       l_X6_mayLead M N 1 t y1 y2 y3 (y4 + (nI 1)) 0 0
    | 3 =>
      zq (zin y5 12) <|
      if y6 < (t 6 y5.toNatClampNeg) then
       zq (zin (((nI 5) * y5) + y6) 60) <|
       if ((t 8 (((nI 5) * y5) + y6).toNatClampNeg) - (nI 10)) < 0 then
        l_X6_mayLead M N 3 t y1 y2 y3 y4 y5 (y6 + (nI 1))
       else
        zq (zin ((t 8 (((nI 5) * y5) + y6).toNatClampNeg) - (nI 10)) 12) <|
        zq (zin y5 12) <|
        if (t 11 y5.toNatClampNeg) < ((t 11 ((t 8 (((nI 5) * y5) + y6).toNatClampNeg) - (nI 10)).toNatClampNeg) + (nI 1)) then
         zq (zin ((t 8 (((nI 5) * y5) + y6).toNatClampNeg) - (nI 10)) 12) <|
         zq (zin y5 12) <|
         l_X6_mayLead M N 3 (zup t 11 y5.toNatClampNeg ((t 11 ((t 8 (((nI 5) * y5) + y6).toNatClampNeg) - (nI 10)).toNatClampNeg) + (nI 1))) y1 y2 y3 y4 y5 (y6 + (nI 1))
        else
         l_X6_mayLead M N 3 t y1 y2 y3 y4 y5 (y6 + (nI 1))
      else
       if y5 = y1 then
        zq (zin y2 12) <|
        zq (zin y5 12) <|
        if (t 11 y5.toNatClampNeg) < ((t 11 y2.toNatClampNeg) + (nI 1)) then
         zq (zin y2 12) <|
         zq (zin y5 12) <|
         l_X6_mayLead M N 2 (zup t 11 y5.toNatClampNeg ((t 11 y2.toNatClampNeg) + (nI 1))) y1 y2 y3 y4 (y5 + (nI 1)) 0
        else
         l_X6_mayLead M N 2 t y1 y2 y3 y4 (y5 + (nI 1)) 0
       else
        l_X6_mayLead M N 2 t y1 y2 y3 y4 (y5 + (nI 1)) 0
    | 4 =>
      if y4 < (t 0 0) then
       if y3 = 0 then
        l_X6_mayLead M N 4 t 0 0 (nI 0) (y4 + (nI 1)) 0 0
       else
        zq (zin y4 12) <|
        if (nI 2) < (t 11 y4.toNatClampNeg) then
         l_X6_mayLead M N 4 t 0 0 (nI 0) (y4 + (nI 1)) 0 0
        else
         l_X6_mayLead M N 4 t 0 0 (nI 1) (y4 + (nI 1)) 0 0
      else
       zq (y3 &&& 1 == y3) <|
       some (y3, t)
    | _ => none
set_option maxRecDepth 100000 in
set_option maxHeartbeats 4000000 in
theorem tl_X6_mayLead {L : Nat} {xs : Nat → Int32} (M : Nat) (s : zS) : ∀ (N : Nat) (t : zS) (y1 : Int32) (y2 : Int32) (y3 : Int32) (y4 : Int32) (y5 : Int32) (y6 : Int32) (R : Int32 × zS), (∀ (u4 : Value) (u5 : Value) (u6 : Value) (u7 : Value), l_X6_mayLead M N 0 t y1 y2 y3 y4 y5 y6 = some R → zX (ztb L xs) (zcall (ztb L xs) 0) 6 2 zk_X6_mayLead 2 [.ref 6, .int y1, .int y2, .int y3, u4, u5, u6, u7] [] (zHp s t) (some (.int R.1), zHp s R.2)) ∧ (∀ (u5 : Value) (u6 : Value) (u7 : Value), l_X6_mayLead M N 1 t y1 y2 y3 y4 y5 y6 = some R → zX (ztb L xs) (zcall (ztb L xs) 0) 6 2 zk_X6_mayLead 26 [.ref 6, .int y1, .int y2, .int y3, .int y4, u5, u6, u7] [] (zHp s t) (some (.int R.1), zHp s R.2)) ∧ (∀ (u6 : Value) (u7 : Value), l_X6_mayLead M N 2 t y1 y2 y3 y4 y5 y6 = some R → zX (ztb L xs) (zcall (ztb L xs) 0) 6 2 zk_X6_mayLead 35 [.ref 6, .int y1, .int y2, .int y3, .int y4, .int y5, u6, u7] [] (zHp s t) (some (.int R.1), zHp s R.2)) ∧ (∀ (u7 : Value), l_X6_mayLead M N 3 t y1 y2 y3 y4 y5 y6 = some R → zX (ztb L xs) (zcall (ztb L xs) 0) 6 2 zk_X6_mayLead 47 [.ref 6, .int y1, .int y2, .int y3, .int y4, .int y5, .int y6, u7] [] (zHp s t) (some (.int R.1), zHp s R.2)) ∧ (∀ (u1 : Int32) (u2 : Int32) (u5 : Value) (u6 : Value) (u7 : Value), l_X6_mayLead M N 4 t y1 y2 y3 y4 y5 y6 = some R → zX (ztb L xs) (zcall (ztb L xs) 0) 6 2 zk_X6_mayLead 176 [.ref 6, .int u1, .int u2, .int y3, .int y4, u5, u6, u7] [] (zHp s t) (some (.int R.1), zHp s R.2)) := by
  intro N
  induction N with
  | zero =>
    intro t y1 y2 y3 y4 y5 y6 R
    exact ⟨(by intros; rename_i hF; cases hF), (by intros; rename_i hF; cases hF), (by intros; rename_i hF; cases hF), (by intros; rename_i hF; cases hF), (by intros; rename_i hF; cases hF)⟩
  | succ N ih =>
    intro t y1 y2 y3 y4 y5 y6 R
    refine ⟨?_, ?_, ?_, ?_, ?_⟩
    · intro u4 u5 u6 u7 hF
      unfold l_X6_mayLead at hF
      (try dsimp only at hF)
      refine zX_go (c := 3) (pc' := if y3 < (nI 12) then 8 else 21) (lv' := [.ref 6, .int y1, .int y2, .int y3, u4, u5, u6, u7]) (st' := []) (h' := zHp s t) rfl ?_
      refine zX_ite hF (fun c0 hF => ?_) (fun c0 hF => ?_)
      · refine zX_go (c := 4) (pc' := 14) (lv' := [.ref 6, .int y1, .int y2, .int y3, u4, u5, u6, u7]) (st' := [.int (nI 0), .int y3, .ref 43]) (h' := zHp s t) rfl ?_
        refine zX_ias (n := 12) (h' := zHp s (zup t 11 y3.toNatClampNeg (nI 0))) rfl rfl (zst_43 _ _ _ _) hF (fun hF => ?_)
        refine zX_go (c := 2) (pc' := 2) (lv' := [.ref 6, .int y1, .int y2, .int (y3 + (nI 1)), u4, u5, u6, u7]) (st' := []) (h' := zHp s (zup t 11 y3.toNatClampNeg (nI 0))) rfl ?_
        exact (ih (zup t 11 y3.toNatClampNeg (nI 0)) y1 y2 (y3 + (nI 1)) 0 0 0 _).1 u4 u5 u6 u7 hF
      · refine zX_go (c := 4) (pc' := 26) (lv' := [.ref 6, .int y1, .int y2, .int (nI 1), .int (nI 0), u5, u6, u7]) (st' := []) (h' := zHp s t) rfl ?_
        exact (ih t y1 y2 (nI 1) (nI 0) 0 0 _).2.1 u5 u6 u7 hF
    · intro u5 u6 u7 hF
      unfold l_X6_mayLead at hF
      (try dsimp only at hF)
      refine zX_go (c := 3) (pc' := if y4 < (nI 4) then 32 else 173) (lv' := [.ref 6, .int y1, .int y2, .int y3, .int y4, u5, u6, u7]) (st' := []) (h' := zHp s t) rfl ?_
      refine zX_ite hF (fun c0 hF => ?_) (fun c0 hF => ?_)
      · refine zX_go (c := 2) (pc' := 35) (lv' := [.ref 6, .int y1, .int y2, .int y3, .int y4, .int (nI 0), u6, u7]) (st' := []) (h' := zHp s t) rfl ?_
        exact (ih t y1 y2 y3 y4 (nI 0) 0 _).2.2.1 u6 u7 hF
      · refine zX_go (c := 2) (pc' := 176) (lv' := [.ref 6, .int y1, .int y2, .int y3, .int (nI 0), u5, u6, u7]) (st' := []) (h' := zHp s t) rfl ?_
        exact (ih t 0 0 y3 (nI 0) 0 0 _).2.2.2.2 y1 y2 u5 u6 u7 hF
    · intro u6 u7 hF
      unfold l_X6_mayLead at hF
      (try dsimp only at hF)
      refine zX_go (c := 4) (pc' := if y5 < (t 0 0) then 44 else 167) (lv' := [.ref 6, .int y1, .int y2, .int y3, .int y4, .int y5, u6, u7]) (st' := []) (h' := zHp s t) rfl ?_
      refine zX_ite hF (fun c0 hF => ?_) (fun c0 hF => ?_)
      · refine zX_go (c := 2) (pc' := 47) (lv' := [.ref 6, .int y1, .int y2, .int y3, .int y4, .int y5, .int (nI 0), u7]) (st' := []) (h' := zHp s t) rfl ?_
        exact (ih t y1 y2 y3 y4 y5 (nI 0) _).2.2.2.1 u7 hF
      · refine zX_go (c := 2) (pc' := 26) (lv' := [.ref 6, .int y1, .int y2, .int y3, .int (y4 + (nI 1)), .int y5, u6, u7]) (st' := []) (h' := zHp s t) rfl ?_
        exact (ih t y1 y2 y3 (y4 + (nI 1)) 0 0 _).2.1 (.int y5) u6 u7 hF
    · intro u7 hF
      unfold l_X6_mayLead at hF
      (try dsimp only at hF)
      refine zX_go (c := 4) (pc' := 55) (lv' := [.ref 6, .int y1, .int y2, .int y3, .int y4, .int y5, .int y6, u7]) (st' := [.int y5, .ref 38, .int y6]) (h' := zHp s t) rfl ?_
      refine zX_ial (n := 12) rfl rfl hF (fun hF => ?_)
      refine zX_go (c := 1) (pc' := if y6 < (t 6 y5.toNatClampNeg) then 59 else 122) (lv' := [.ref 6, .int y1, .int y2, .int y3, .int y4, .int y5, .int y6, u7]) (st' := []) (h' := zHp s t) rfl ?_
      refine zX_ite hF (fun c0 hF => ?_) (fun c0 hF => ?_)
      · refine zX_go (c := 7) (pc' := 70) (lv' := [.ref 6, .int y1, .int y2, .int y3, .int y4, .int y5, .int y6, u7]) (st' := [.int (((nI 5) * y5) + y6), .ref 40]) (h' := zHp s t) rfl ?_
        refine zX_ial (n := 60) rfl rfl hF (fun hF => ?_)
        refine zX_go (c := 5) (pc' := if ((t 8 (((nI 5) * y5) + y6).toNatClampNeg) - (nI 10)) < 0 then 116 else 81) (lv' := [.ref 6, .int y1, .int y2, .int y3, .int y4, .int y5, .int y6, .int ((t 8 (((nI 5) * y5) + y6).toNatClampNeg) - (nI 10))]) (st' := []) (h' := zHp s t) rfl ?_
        refine zX_ite hF (fun c0 hF => ?_) (fun c0 hF => ?_)
        · refine zX_go (c := 2) (pc' := 47) (lv' := [.ref 6, .int y1, .int y2, .int y3, .int y4, .int y5, .int (y6 + (nI 1)), .int ((t 8 (((nI 5) * y5) + y6).toNatClampNeg) - (nI 10))]) (st' := []) (h' := zHp s t) rfl ?_
          exact (ih t y1 y2 y3 y4 y5 (y6 + (nI 1)) _).2.2.2.1 (.int ((t 8 (((nI 5) * y5) + y6).toNatClampNeg) - (nI 10))) hF
        · refine zX_go (c := 3) (pc' := 87) (lv' := [.ref 6, .int y1, .int y2, .int y3, .int y4, .int y5, .int y6, .int ((t 8 (((nI 5) * y5) + y6).toNatClampNeg) - (nI 10))]) (st' := [.int ((t 8 (((nI 5) * y5) + y6).toNatClampNeg) - (nI 10)), .ref 43]) (h' := zHp s t) rfl ?_
          refine zX_ial (n := 12) rfl rfl hF (fun hF => ?_)
          refine zX_go (c := 5) (pc' := 96) (lv' := [.ref 6, .int y1, .int y2, .int y3, .int y4, .int y5, .int y6, .int ((t 8 (((nI 5) * y5) + y6).toNatClampNeg) - (nI 10))]) (st' := [.int y5, .ref 43, .int ((t 11 ((t 8 (((nI 5) * y5) + y6).toNatClampNeg) - (nI 10)).toNatClampNeg) + (nI 1))]) (h' := zHp s t) rfl ?_
          refine zX_ial (n := 12) rfl rfl hF (fun hF => ?_)
          refine zX_go (c := 1) (pc' := if (t 11 y5.toNatClampNeg) < ((t 11 ((t 8 (((nI 5) * y5) + y6).toNatClampNeg) - (nI 10)).toNatClampNeg) + (nI 1)) then 100 else 116) (lv' := [.ref 6, .int y1, .int y2, .int y3, .int y4, .int y5, .int y6, .int ((t 8 (((nI 5) * y5) + y6).toNatClampNeg) - (nI 10))]) (st' := []) (h' := zHp s t) rfl ?_
          refine zX_ite hF (fun c0 hF => ?_) (fun c0 hF => ?_)
          · refine zX_go (c := 6) (pc' := 112) (lv' := [.ref 6, .int y1, .int y2, .int y3, .int y4, .int y5, .int y6, .int ((t 8 (((nI 5) * y5) + y6).toNatClampNeg) - (nI 10))]) (st' := [.int ((t 8 (((nI 5) * y5) + y6).toNatClampNeg) - (nI 10)), .ref 43, .int y5, .ref 43]) (h' := zHp s t) rfl ?_
            refine zX_ial (n := 12) rfl rfl hF (fun hF => ?_)
            refine zX_go (c := 2) (pc' := 115) (lv' := [.ref 6, .int y1, .int y2, .int y3, .int y4, .int y5, .int y6, .int ((t 8 (((nI 5) * y5) + y6).toNatClampNeg) - (nI 10))]) (st' := [.int ((t 11 ((t 8 (((nI 5) * y5) + y6).toNatClampNeg) - (nI 10)).toNatClampNeg) + (nI 1)), .int y5, .ref 43]) (h' := zHp s t) rfl ?_
            refine zX_ias (n := 12) (h' := zHp s (zup t 11 y5.toNatClampNeg ((t 11 ((t 8 (((nI 5) * y5) + y6).toNatClampNeg) - (nI 10)).toNatClampNeg) + (nI 1)))) rfl rfl (zst_43 _ _ _ _) hF (fun hF => ?_)
            refine zX_go (c := 2) (pc' := 47) (lv' := [.ref 6, .int y1, .int y2, .int y3, .int y4, .int y5, .int (y6 + (nI 1)), .int ((t 8 (((nI 5) * y5) + y6).toNatClampNeg) - (nI 10))]) (st' := []) (h' := zHp s (zup t 11 y5.toNatClampNeg ((t 11 ((t 8 (((nI 5) * y5) + y6).toNatClampNeg) - (nI 10)).toNatClampNeg) + (nI 1)))) rfl ?_
            exact (ih (zup t 11 y5.toNatClampNeg ((t 11 ((t 8 (((nI 5) * y5) + y6).toNatClampNeg) - (nI 10)).toNatClampNeg) + (nI 1))) y1 y2 y3 y4 y5 (y6 + (nI 1)) _).2.2.2.1 (.int ((t 8 (((nI 5) * y5) + y6).toNatClampNeg) - (nI 10))) hF
          · refine zX_go (c := 2) (pc' := 47) (lv' := [.ref 6, .int y1, .int y2, .int y3, .int y4, .int y5, .int (y6 + (nI 1)), .int ((t 8 (((nI 5) * y5) + y6).toNatClampNeg) - (nI 10))]) (st' := []) (h' := zHp s t) rfl ?_
            exact (ih t y1 y2 y3 y4 y5 (y6 + (nI 1)) _).2.2.2.1 (.int ((t 8 (((nI 5) * y5) + y6).toNatClampNeg) - (nI 10))) hF
      · refine zX_go (c := 3) (pc' := if y5 = y1 then 128 else 161) (lv' := [.ref 6, .int y1, .int y2, .int y3, .int y4, .int y5, .int y6, u7]) (st' := []) (h' := zHp s t) rfl ?_
        refine zX_ite hF (fun c0 hF => ?_) (fun c0 hF => ?_)
        · refine zX_go (c := 3) (pc' := 133) (lv' := [.ref 6, .int y1, .int y2, .int y3, .int y4, .int y5, .int y6, u7]) (st' := [.int y2, .ref 43]) (h' := zHp s t) rfl ?_
          refine zX_ial (n := 12) rfl rfl hF (fun hF => ?_)
          refine zX_go (c := 5) (pc' := 142) (lv' := [.ref 6, .int y1, .int y2, .int y3, .int y4, .int y5, .int y6, u7]) (st' := [.int y5, .ref 43, .int ((t 11 y2.toNatClampNeg) + (nI 1))]) (h' := zHp s t) rfl ?_
          refine zX_ial (n := 12) rfl rfl hF (fun hF => ?_)
          refine zX_go (c := 1) (pc' := if (t 11 y5.toNatClampNeg) < ((t 11 y2.toNatClampNeg) + (nI 1)) then 146 else 161) (lv' := [.ref 6, .int y1, .int y2, .int y3, .int y4, .int y5, .int y6, u7]) (st' := []) (h' := zHp s t) rfl ?_
          refine zX_ite hF (fun c0 hF => ?_) (fun c0 hF => ?_)
          · refine zX_go (c := 6) (pc' := 157) (lv' := [.ref 6, .int y1, .int y2, .int y3, .int y4, .int y5, .int y6, u7]) (st' := [.int y2, .ref 43, .int y5, .ref 43]) (h' := zHp s t) rfl ?_
            refine zX_ial (n := 12) rfl rfl hF (fun hF => ?_)
            refine zX_go (c := 2) (pc' := 160) (lv' := [.ref 6, .int y1, .int y2, .int y3, .int y4, .int y5, .int y6, u7]) (st' := [.int ((t 11 y2.toNatClampNeg) + (nI 1)), .int y5, .ref 43]) (h' := zHp s t) rfl ?_
            refine zX_ias (n := 12) (h' := zHp s (zup t 11 y5.toNatClampNeg ((t 11 y2.toNatClampNeg) + (nI 1)))) rfl rfl (zst_43 _ _ _ _) hF (fun hF => ?_)
            refine zX_go (c := 2) (pc' := 35) (lv' := [.ref 6, .int y1, .int y2, .int y3, .int y4, .int (y5 + (nI 1)), .int y6, u7]) (st' := []) (h' := zHp s (zup t 11 y5.toNatClampNeg ((t 11 y2.toNatClampNeg) + (nI 1)))) rfl ?_
            exact (ih (zup t 11 y5.toNatClampNeg ((t 11 y2.toNatClampNeg) + (nI 1))) y1 y2 y3 y4 (y5 + (nI 1)) 0 _).2.2.1 (.int y6) u7 hF
          · refine zX_go (c := 2) (pc' := 35) (lv' := [.ref 6, .int y1, .int y2, .int y3, .int y4, .int (y5 + (nI 1)), .int y6, u7]) (st' := []) (h' := zHp s t) rfl ?_
            exact (ih t y1 y2 y3 y4 (y5 + (nI 1)) 0 _).2.2.1 (.int y6) u7 hF
        · refine zX_go (c := 2) (pc' := 35) (lv' := [.ref 6, .int y1, .int y2, .int y3, .int y4, .int (y5 + (nI 1)), .int y6, u7]) (st' := []) (h' := zHp s t) rfl ?_
          exact (ih t y1 y2 y3 y4 (y5 + (nI 1)) 0 _).2.2.1 (.int y6) u7 hF
    · intro u1 u2 u5 u6 u7 hF
      unfold l_X6_mayLead at hF
      (try dsimp only at hF)
      refine zX_go (c := 4) (pc' := if y4 < (t 0 0) then 185 else 212) (lv' := [.ref 6, .int u1, .int u2, .int y3, .int y4, u5, u6, u7]) (st' := []) (h' := zHp s t) rfl ?_
      refine zX_ite hF (fun c0 hF => ?_) (fun c0 hF => ?_)
      · refine zX_go (c := 2) (pc' := if y3 = 0 then 204 else 189) (lv' := [.ref 6, .int u1, .int u2, .int y3, .int y4, u5, u6, u7]) (st' := []) (h' := zHp s t) rfl ?_
        refine zX_ite hF (fun c0 hF => ?_) (fun c0 hF => ?_)
        · refine zX_go (c := 4) (pc' := 176) (lv' := [.ref 6, .int u1, .int u2, .int (nI 0), .int (y4 + (nI 1)), u5, u6, u7]) (st' := []) (h' := zHp s t) rfl ?_
          exact (ih t 0 0 (nI 0) (y4 + (nI 1)) 0 0 _).2.2.2.2 u1 u2 u5 u6 u7 hF
        · refine zX_go (c := 3) (pc' := 195) (lv' := [.ref 6, .int u1, .int u2, .int y3, .int y4, u5, u6, u7]) (st' := [.int y4, .ref 43]) (h' := zHp s t) rfl ?_
          refine zX_ial (n := 12) rfl rfl hF (fun hF => ?_)
          refine zX_go (c := 2) (pc' := if (nI 2) < (t 11 y4.toNatClampNeg) then 204 else 200) (lv' := [.ref 6, .int u1, .int u2, .int y3, .int y4, u5, u6, u7]) (st' := []) (h' := zHp s t) rfl ?_
          refine zX_ite hF (fun c0 hF => ?_) (fun c0 hF => ?_)
          · refine zX_go (c := 4) (pc' := 176) (lv' := [.ref 6, .int u1, .int u2, .int (nI 0), .int (y4 + (nI 1)), u5, u6, u7]) (st' := []) (h' := zHp s t) rfl ?_
            exact (ih t 0 0 (nI 0) (y4 + (nI 1)) 0 0 _).2.2.2.2 u1 u2 u5 u6 u7 hF
          · refine zX_go (c := 5) (pc' := 176) (lv' := [.ref 6, .int u1, .int u2, .int (nI 1), .int (y4 + (nI 1)), u5, u6, u7]) (st' := []) (h' := zHp s t) rfl ?_
            exact (ih t 0 0 (nI 1) (y4 + (nI 1)) 0 0 _).2.2.2.2 u1 u2 u5 u6 u7 hF
      · refine zX_go (c := 1) (pc' := 213) (lv' := [.ref 6, .int u1, .int u2, .int y3, .int y4, u5, u6, u7]) (st' := [.int y3]) (h' := zHp s t) rfl ?_
        obtain ⟨hb, hF⟩ := zq_ok hF
        obtain rfl := Option.some.inj hF
        exact zX_retz rfl (by simpa using hb)
def f_X6_mayLead (M : Nat) (t : zS) (x1 x2 : Int32) : Option (Int32 × zS) :=
  l_X6_mayLead M M 0 t x1 x2 (nI 0) 0 0 0
set_option maxRecDepth 100000 in
set_option maxHeartbeats 4000000 in
theorem t_X6_mayLead {L : Nat} {xs : Nat → Int32} (M : Nat) (s t : zS) (x1 x2 : Int32) (R : Int32 × zS) (hF : f_X6_mayLead M t x1 x2 = some R) : zcall (ztb L xs) 1 95 [.ref 6, .int x1, .int x2] (zHp s t) = some (some (.int R.1), zHp s R.2) := by
  unfold f_X6_mayLead at hF
  refine zcall_X (d := 0) (e := zm_X6_mayLead) rfl rfl ?_
  show zX (ztb L xs) (zcall (ztb L xs) 0) 6 2 zk_X6_mayLead 0 [.ref 6, .int x1, .int x2, .retAddr 0, .retAddr 0, .retAddr 0, .retAddr 0, .retAddr 0] [] (zHp s t) _
  refine zX_go (c := 2) (pc' := 2) (lv' := [.ref 6, .int x1, .int x2, .int (nI 0), .retAddr 0, .retAddr 0, .retAddr 0, .retAddr 0]) (st' := []) (h' := zHp s t) rfl ?_
  exact (tl_X6_mayLead M s M t x1 x2 (nI 0) 0 0 0 _).1 (.retAddr 0) (.retAddr 0) (.retAddr 0) (.retAddr 0) hF
def f_X6_element (M : Nat) (t : zS) (x1 x2 x3 x4 : Int32) : Option (Int32 × zS) :=
  zbd (f_X6_isMark M t x1) (fun q1 =>
   if q1 = 0 then
    some ((-2), t)
   else
    if x2 < 0 then
     some ((-2), t)
    else
     if (nI 9) < x2 then
      some ((-2), t)
     else
      zbd (f_X6_isKind M t x3) (fun q2 =>
       if q2 = 0 then
        some ((-2), t)
       else
        zbd (f_X6_elementOf M t x1 x2) (fun q3 =>
         if q3 = (-1) then
          zbd (f_X6_isFixed M t x1) (fun q4 =>
           if q4 = 0 then
            if x3 < (nI 10) then
             zq (zin x1 12) <|
             if (t 6 x1.toNatClampNeg) = (nI 5) then
              some ((-3), t)
             else
              zq (zin x1 12) <|
              zq (zin (((nI 5) * x1) + (t 6 x1.toNatClampNeg)) 60) <|
              zq (zin (((nI 5) * x1) + (t 6 x1.toNatClampNeg)) 60) <|
              zq (zin (((nI 5) * x1) + (t 6 x1.toNatClampNeg)) 60) <|
              zq (zin (((nI 5) * x1) + (t 6 x1.toNatClampNeg)) 60) <|
              zq (zin x1 12) <|
              zq (zin x1 12) <|
              zq (zin x1 12) <|
              some ((zup (zup (zup (zup (zup t 7 (((nI 5) * x1) + (t 6 x1.toNatClampNeg)).toNatClampNeg x2) 8 (((nI 5) * x1) + (t 6 x1.toNatClampNeg)).toNatClampNeg x3) 9 (((nI 5) * x1) + (t 6 x1.toNatClampNeg)).toNatClampNeg (zbn 1 x4)) 10 (((nI 5) * x1) + (t 6 x1.toNatClampNeg)).toNatClampNeg (-1)) 6 x1.toNatClampNeg ((t 6 x1.toNatClampNeg) + (nI 1))) 6 x1.toNatClampNeg, zup (zup (zup (zup (zup t 7 (((nI 5) * x1) + (t 6 x1.toNatClampNeg)).toNatClampNeg x2) 8 (((nI 5) * x1) + (t 6 x1.toNatClampNeg)).toNatClampNeg x3) 9 (((nI 5) * x1) + (t 6 x1.toNatClampNeg)).toNatClampNeg (zbn 1 x4)) 10 (((nI 5) * x1) + (t 6 x1.toNatClampNeg)).toNatClampNeg (-1)) 6 x1.toNatClampNeg ((t 6 x1.toNatClampNeg) + (nI 1)))
            else
             zbd (f_X6_mayLead M t x1 (x3 - (nI 10))) (fun q5 =>
              if q5.1 = 0 then
               some ((-6), q5.2)
              else
               zq (zin x1 12) <|
               if (q5.2 6 x1.toNatClampNeg) = (nI 5) then
                some ((-3), q5.2)
               else
                zq (zin x1 12) <|
                zq (zin (((nI 5) * x1) + (q5.2 6 x1.toNatClampNeg)) 60) <|
                zq (zin (((nI 5) * x1) + (q5.2 6 x1.toNatClampNeg)) 60) <|
                zq (zin (((nI 5) * x1) + (q5.2 6 x1.toNatClampNeg)) 60) <|
                zq (zin (((nI 5) * x1) + (q5.2 6 x1.toNatClampNeg)) 60) <|
                zq (zin x1 12) <|
                zq (zin x1 12) <|
                zq (zin x1 12) <|
                some ((zup (zup (zup (zup (zup q5.2 7 (((nI 5) * x1) + (q5.2 6 x1.toNatClampNeg)).toNatClampNeg x2) 8 (((nI 5) * x1) + (q5.2 6 x1.toNatClampNeg)).toNatClampNeg x3) 9 (((nI 5) * x1) + (q5.2 6 x1.toNatClampNeg)).toNatClampNeg (zbn 1 x4)) 10 (((nI 5) * x1) + (q5.2 6 x1.toNatClampNeg)).toNatClampNeg (-1)) 6 x1.toNatClampNeg ((q5.2 6 x1.toNatClampNeg) + (nI 1))) 6 x1.toNatClampNeg, zup (zup (zup (zup (zup q5.2 7 (((nI 5) * x1) + (q5.2 6 x1.toNatClampNeg)).toNatClampNeg x2) 8 (((nI 5) * x1) + (q5.2 6 x1.toNatClampNeg)).toNatClampNeg x3) 9 (((nI 5) * x1) + (q5.2 6 x1.toNatClampNeg)).toNatClampNeg (zbn 1 x4)) 10 (((nI 5) * x1) + (q5.2 6 x1.toNatClampNeg)).toNatClampNeg (-1)) 6 x1.toNatClampNeg ((q5.2 6 x1.toNatClampNeg) + (nI 1))))
           else
            some ((-4), t))
         else
          some ((-2), t))))
set_option maxRecDepth 100000 in
set_option maxHeartbeats 4000000 in
theorem t_X6_element {L : Nat} {xs : Nat → Int32} (M : Nat) (s t : zS) (x1 x2 x3 x4 : Int32) (R : Int32 × zS) (hF : f_X6_element M t x1 x2 x3 x4 = some R) : zcall (ztb L xs) 3 96 [.ref 6, .int x1, .int x2, .int x3, .int x4] (zHp s t) = some (some (.int R.1), zHp s R.2) := by
  unfold f_X6_element at hF
  refine zcall_X (d := 2) (e := zm_X6_element) rfl rfl ?_
  show zX (ztb L xs) (zcall (ztb L xs) 2) 6 1 zk_X6_element 0 [.ref 6, .int x1, .int x2, .int x3, .int x4, .retAddr 0] [] (zHp s t) _
  refine zX_go (c := 2) (pc' := 2) (lv' := [.ref 6, .int x1, .int x2, .int x3, .int x4, .retAddr 0]) (st' := [.int x1, .ref 6]) (h' := zHp s t) rfl ?_
  obtain ⟨q1, hq, hF⟩ := zbd_ok hF
  refine zX_inv (av := [.ref 6, .int x1]) (st := []) (h' := zHp s t) rfl rfl rfl rfl rfl rfl (zcall_le (t_X6_isMark M _ _ _ _ hq) (by decide)) ?_
  refine zX_go (c := 1) (pc' := if q1 = 0 then 36 else 8) (lv' := [.ref 6, .int x1, .int x2, .int x3, .int x4, .retAddr 0]) (st' := []) (h' := zHp s t) rfl ?_
  refine zX_ite hF (fun c0 hF => ?_) (fun c0 hF => ?_)
  · refine zX_go (c := 1) (pc' := 38) (lv' := [.ref 6, .int x1, .int x2, .int x3, .int x4, .retAddr 0]) (st' := [.int (-2)]) (h' := zHp s t) rfl ?_
    obtain rfl := Option.some.inj hF
    exact zX_reti rfl
  · refine zX_go (c := 2) (pc' := if x2 < 0 then 36 else 12) (lv' := [.ref 6, .int x1, .int x2, .int x3, .int x4, .retAddr 0]) (st' := []) (h' := zHp s t) rfl ?_
    refine zX_ite hF (fun c0 hF => ?_) (fun c0 hF => ?_)
    · refine zX_go (c := 1) (pc' := 38) (lv' := [.ref 6, .int x1, .int x2, .int x3, .int x4, .retAddr 0]) (st' := [.int (-2)]) (h' := zHp s t) rfl ?_
      obtain rfl := Option.some.inj hF
      exact zX_reti rfl
    · refine zX_go (c := 3) (pc' := if (nI 9) < x2 then 36 else 18) (lv' := [.ref 6, .int x1, .int x2, .int x3, .int x4, .retAddr 0]) (st' := []) (h' := zHp s t) rfl ?_
      refine zX_ite hF (fun c0 hF => ?_) (fun c0 hF => ?_)
      · refine zX_go (c := 1) (pc' := 38) (lv' := [.ref 6, .int x1, .int x2, .int x3, .int x4, .retAddr 0]) (st' := [.int (-2)]) (h' := zHp s t) rfl ?_
        obtain rfl := Option.some.inj hF
        exact zX_reti rfl
      · refine zX_go (c := 2) (pc' := 20) (lv' := [.ref 6, .int x1, .int x2, .int x3, .int x4, .retAddr 0]) (st' := [.int x3, .ref 6]) (h' := zHp s t) rfl ?_
        obtain ⟨q2, hq, hF⟩ := zbd_ok hF
        refine zX_inv (av := [.ref 6, .int x3]) (st := []) (h' := zHp s t) rfl rfl rfl rfl rfl rfl (zcall_le (t_X6_isKind M _ _ _ _ hq) (by decide)) ?_
        refine zX_go (c := 1) (pc' := if q2 = 0 then 36 else 26) (lv' := [.ref 6, .int x1, .int x2, .int x3, .int x4, .retAddr 0]) (st' := []) (h' := zHp s t) rfl ?_
        refine zX_ite hF (fun c0 hF => ?_) (fun c0 hF => ?_)
        · refine zX_go (c := 1) (pc' := 38) (lv' := [.ref 6, .int x1, .int x2, .int x3, .int x4, .retAddr 0]) (st' := [.int (-2)]) (h' := zHp s t) rfl ?_
          obtain rfl := Option.some.inj hF
          exact zX_reti rfl
        · refine zX_go (c := 3) (pc' := 29) (lv' := [.ref 6, .int x1, .int x2, .int x3, .int x4, .retAddr 0]) (st' := [.int x2, .int x1, .ref 6]) (h' := zHp s t) rfl ?_
          obtain ⟨q3, hq, hF⟩ := zbd_ok hF
          refine zX_inv (av := [.ref 6, .int x1, .int x2]) (st := []) (h' := zHp s t) rfl rfl rfl rfl rfl rfl (zcall_le (t_X6_elementOf M _ _ _ _ _ hq) (by decide)) ?_
          refine zX_go (c := 2) (pc' := if q3 = (-1) then 39 else 36) (lv' := [.ref 6, .int x1, .int x2, .int x3, .int x4, .retAddr 0]) (st' := []) (h' := zHp s t) rfl ?_
          refine zX_ite hF (fun c0 hF => ?_) (fun c0 hF => ?_)
          · refine zX_go (c := 2) (pc' := 41) (lv' := [.ref 6, .int x1, .int x2, .int x3, .int x4, .retAddr 0]) (st' := [.int x1, .ref 6]) (h' := zHp s t) rfl ?_
            obtain ⟨q4, hq, hF⟩ := zbd_ok hF
            refine zX_inv (av := [.ref 6, .int x1]) (st := []) (h' := zHp s t) rfl rfl rfl rfl rfl rfl (zcall_le (t_X6_isFixed M _ _ _ _ hq) (by decide)) ?_
            refine zX_go (c := 1) (pc' := if q4 = 0 then 50 else 47) (lv' := [.ref 6, .int x1, .int x2, .int x3, .int x4, .retAddr 0]) (st' := []) (h' := zHp s t) rfl ?_
            refine zX_ite hF (fun c0 hF => ?_) (fun c0 hF => ?_)
            · refine zX_go (c := 3) (pc' := if x3 < (nI 10) then 71 else 56) (lv' := [.ref 6, .int x1, .int x2, .int x3, .int x4, .retAddr 0]) (st' := []) (h' := zHp s t) rfl ?_
              refine zX_ite hF (fun c0 hF => ?_) (fun c0 hF => ?_)
              · refine zX_go (c := 3) (pc' := 76) (lv' := [.ref 6, .int x1, .int x2, .int x3, .int x4, .retAddr 0]) (st' := [.int x1, .ref 38]) (h' := zHp s t) rfl ?_
                refine zX_ial (n := 12) rfl rfl hF (fun hF => ?_)
                refine zX_go (c := 2) (pc' := if (t 6 x1.toNatClampNeg) = (nI 5) then 81 else 84) (lv' := [.ref 6, .int x1, .int x2, .int x3, .int x4, .retAddr 0]) (st' := []) (h' := zHp s t) rfl ?_
                refine zX_ite hF (fun c0 hF => ?_) (fun c0 hF => ?_)
                · refine zX_go (c := 1) (pc' := 83) (lv' := [.ref 6, .int x1, .int x2, .int x3, .int x4, .retAddr 0]) (st' := [.int (-3)]) (h' := zHp s t) rfl ?_
                  obtain rfl := Option.some.inj hF
                  exact zX_reti rfl
                · refine zX_go (c := 6) (pc' := 92) (lv' := [.ref 6, .int x1, .int x2, .int x3, .int x4, .retAddr 0]) (st' := [.int x1, .ref 38, .int ((nI 5) * x1)]) (h' := zHp s t) rfl ?_
                  refine zX_ial (n := 12) rfl rfl hF (fun hF => ?_)
                  refine zX_go (c := 6) (pc' := 103) (lv' := [.ref 6, .int x1, .int x2, .int x3, .int x4, .int (((nI 5) * x1) + (t 6 x1.toNatClampNeg))]) (st' := [.int x2, .int (((nI 5) * x1) + (t 6 x1.toNatClampNeg)), .ref 39]) (h' := zHp s t) rfl ?_
                  refine zX_ias (n := 60) (h' := zHp s (zup t 7 (((nI 5) * x1) + (t 6 x1.toNatClampNeg)).toNatClampNeg x2)) rfl rfl (zst_39 _ _ _ _) hF (fun hF => ?_)
                  refine zX_go (c := 4) (pc' := 111) (lv' := [.ref 6, .int x1, .int x2, .int x3, .int x4, .int (((nI 5) * x1) + (t 6 x1.toNatClampNeg))]) (st' := [.int x3, .int (((nI 5) * x1) + (t 6 x1.toNatClampNeg)), .ref 40]) (h' := zHp s (zup t 7 (((nI 5) * x1) + (t 6 x1.toNatClampNeg)).toNatClampNeg x2)) rfl ?_
                  refine zX_ias (n := 60) (h' := zHp s (zup (zup t 7 (((nI 5) * x1) + (t 6 x1.toNatClampNeg)).toNatClampNeg x2) 8 (((nI 5) * x1) + (t 6 x1.toNatClampNeg)).toNatClampNeg x3)) rfl rfl (zst_40 _ _ _ _) hF (fun hF => ?_)
                  refine zX_go (c := 4) (pc' := 120) (lv' := [.ref 6, .int x1, .int x2, .int x3, .int x4, .int (((nI 5) * x1) + (t 6 x1.toNatClampNeg))]) (st' := [.int x4, .int (((nI 5) * x1) + (t 6 x1.toNatClampNeg)), .ref 41]) (h' := zHp s (zup (zup t 7 (((nI 5) * x1) + (t 6 x1.toNatClampNeg)).toNatClampNeg x2) 8 (((nI 5) * x1) + (t 6 x1.toNatClampNeg)).toNatClampNeg x3)) rfl ?_
                  refine zX_bas (n := 60) (h' := zHp s (zup (zup (zup t 7 (((nI 5) * x1) + (t 6 x1.toNatClampNeg)).toNatClampNeg x2) 8 (((nI 5) * x1) + (t 6 x1.toNatClampNeg)).toNatClampNeg x3) 9 (((nI 5) * x1) + (t 6 x1.toNatClampNeg)).toNatClampNeg (zbn 1 x4))) rfl rfl (zst_41 _ _ _ _) hF (fun hF => ?_)
                  refine zX_go (c := 4) (pc' := 128) (lv' := [.ref 6, .int x1, .int x2, .int x3, .int x4, .int (((nI 5) * x1) + (t 6 x1.toNatClampNeg))]) (st' := [.int (-1), .int (((nI 5) * x1) + (t 6 x1.toNatClampNeg)), .ref 42]) (h' := zHp s (zup (zup (zup t 7 (((nI 5) * x1) + (t 6 x1.toNatClampNeg)).toNatClampNeg x2) 8 (((nI 5) * x1) + (t 6 x1.toNatClampNeg)).toNatClampNeg x3) 9 (((nI 5) * x1) + (t 6 x1.toNatClampNeg)).toNatClampNeg (zbn 1 x4))) rfl ?_
                  refine zX_ias (n := 60) (h' := zHp s (zup (zup (zup (zup t 7 (((nI 5) * x1) + (t 6 x1.toNatClampNeg)).toNatClampNeg x2) 8 (((nI 5) * x1) + (t 6 x1.toNatClampNeg)).toNatClampNeg x3) 9 (((nI 5) * x1) + (t 6 x1.toNatClampNeg)).toNatClampNeg (zbn 1 x4)) 10 (((nI 5) * x1) + (t 6 x1.toNatClampNeg)).toNatClampNeg (-1))) rfl rfl (zst_42 _ _ _ _) hF (fun hF => ?_)
                  refine zX_go (c := 4) (pc' := 135) (lv' := [.ref 6, .int x1, .int x2, .int x3, .int x4, .int (((nI 5) * x1) + (t 6 x1.toNatClampNeg))]) (st' := [.int x1, .ref 38, .int x1, .ref 38]) (h' := zHp s (zup (zup (zup (zup t 7 (((nI 5) * x1) + (t 6 x1.toNatClampNeg)).toNatClampNeg x2) 8 (((nI 5) * x1) + (t 6 x1.toNatClampNeg)).toNatClampNeg x3) 9 (((nI 5) * x1) + (t 6 x1.toNatClampNeg)).toNatClampNeg (zbn 1 x4)) 10 (((nI 5) * x1) + (t 6 x1.toNatClampNeg)).toNatClampNeg (-1))) rfl ?_
                  refine zX_ial (n := 12) rfl rfl hF (fun hF => ?_)
                  refine zX_go (c := 2) (pc' := 138) (lv' := [.ref 6, .int x1, .int x2, .int x3, .int x4, .int (((nI 5) * x1) + (t 6 x1.toNatClampNeg))]) (st' := [.int ((t 6 x1.toNatClampNeg) + (nI 1)), .int x1, .ref 38]) (h' := zHp s (zup (zup (zup (zup t 7 (((nI 5) * x1) + (t 6 x1.toNatClampNeg)).toNatClampNeg x2) 8 (((nI 5) * x1) + (t 6 x1.toNatClampNeg)).toNatClampNeg x3) 9 (((nI 5) * x1) + (t 6 x1.toNatClampNeg)).toNatClampNeg (zbn 1 x4)) 10 (((nI 5) * x1) + (t 6 x1.toNatClampNeg)).toNatClampNeg (-1))) rfl ?_
                  refine zX_ias (n := 12) (h' := zHp s (zup (zup (zup (zup (zup t 7 (((nI 5) * x1) + (t 6 x1.toNatClampNeg)).toNatClampNeg x2) 8 (((nI 5) * x1) + (t 6 x1.toNatClampNeg)).toNatClampNeg x3) 9 (((nI 5) * x1) + (t 6 x1.toNatClampNeg)).toNatClampNeg (zbn 1 x4)) 10 (((nI 5) * x1) + (t 6 x1.toNatClampNeg)).toNatClampNeg (-1)) 6 x1.toNatClampNeg ((t 6 x1.toNatClampNeg) + (nI 1)))) rfl rfl (zst_38 _ _ _ _) hF (fun hF => ?_)
                  refine zX_go (c := 3) (pc' := 144) (lv' := [.ref 6, .int x1, .int x2, .int x3, .int x4, .int (((nI 5) * x1) + (t 6 x1.toNatClampNeg))]) (st' := [.int x1, .ref 38]) (h' := zHp s (zup (zup (zup (zup (zup t 7 (((nI 5) * x1) + (t 6 x1.toNatClampNeg)).toNatClampNeg x2) 8 (((nI 5) * x1) + (t 6 x1.toNatClampNeg)).toNatClampNeg x3) 9 (((nI 5) * x1) + (t 6 x1.toNatClampNeg)).toNatClampNeg (zbn 1 x4)) 10 (((nI 5) * x1) + (t 6 x1.toNatClampNeg)).toNatClampNeg (-1)) 6 x1.toNatClampNeg ((t 6 x1.toNatClampNeg) + (nI 1)))) rfl ?_
                  refine zX_ial (n := 12) rfl rfl hF (fun hF => ?_)
                  obtain rfl := Option.some.inj hF
                  exact zX_reti rfl
              · refine zX_go (c := 5) (pc' := 62) (lv' := [.ref 6, .int x1, .int x2, .int x3, .int x4, .retAddr 0]) (st' := [.int (x3 - (nI 10)), .int x1, .ref 6]) (h' := zHp s t) rfl ?_
                obtain ⟨q5, hq, hF⟩ := zbd_ok hF
                refine zX_inv (av := [.ref 6, .int x1, .int (x3 - (nI 10))]) (st := []) (h' := zHp s q5.2) rfl rfl rfl rfl rfl rfl (zcall_le (t_X6_mayLead M _ _ _ _ _ hq) (by decide)) ?_
                refine zX_go (c := 1) (pc' := if q5.1 = 0 then 68 else 71) (lv' := [.ref 6, .int x1, .int x2, .int x3, .int x4, .retAddr 0]) (st' := []) (h' := zHp s q5.2) rfl ?_
                refine zX_ite hF (fun c0 hF => ?_) (fun c0 hF => ?_)
                · refine zX_go (c := 1) (pc' := 70) (lv' := [.ref 6, .int x1, .int x2, .int x3, .int x4, .retAddr 0]) (st' := [.int (-6)]) (h' := zHp s q5.2) rfl ?_
                  obtain rfl := Option.some.inj hF
                  exact zX_reti rfl
                · refine zX_go (c := 3) (pc' := 76) (lv' := [.ref 6, .int x1, .int x2, .int x3, .int x4, .retAddr 0]) (st' := [.int x1, .ref 38]) (h' := zHp s q5.2) rfl ?_
                  refine zX_ial (n := 12) rfl rfl hF (fun hF => ?_)
                  refine zX_go (c := 2) (pc' := if (q5.2 6 x1.toNatClampNeg) = (nI 5) then 81 else 84) (lv' := [.ref 6, .int x1, .int x2, .int x3, .int x4, .retAddr 0]) (st' := []) (h' := zHp s q5.2) rfl ?_
                  refine zX_ite hF (fun c0 hF => ?_) (fun c0 hF => ?_)
                  · refine zX_go (c := 1) (pc' := 83) (lv' := [.ref 6, .int x1, .int x2, .int x3, .int x4, .retAddr 0]) (st' := [.int (-3)]) (h' := zHp s q5.2) rfl ?_
                    obtain rfl := Option.some.inj hF
                    exact zX_reti rfl
                  · refine zX_go (c := 6) (pc' := 92) (lv' := [.ref 6, .int x1, .int x2, .int x3, .int x4, .retAddr 0]) (st' := [.int x1, .ref 38, .int ((nI 5) * x1)]) (h' := zHp s q5.2) rfl ?_
                    refine zX_ial (n := 12) rfl rfl hF (fun hF => ?_)
                    refine zX_go (c := 6) (pc' := 103) (lv' := [.ref 6, .int x1, .int x2, .int x3, .int x4, .int (((nI 5) * x1) + (q5.2 6 x1.toNatClampNeg))]) (st' := [.int x2, .int (((nI 5) * x1) + (q5.2 6 x1.toNatClampNeg)), .ref 39]) (h' := zHp s q5.2) rfl ?_
                    refine zX_ias (n := 60) (h' := zHp s (zup q5.2 7 (((nI 5) * x1) + (q5.2 6 x1.toNatClampNeg)).toNatClampNeg x2)) rfl rfl (zst_39 _ _ _ _) hF (fun hF => ?_)
                    refine zX_go (c := 4) (pc' := 111) (lv' := [.ref 6, .int x1, .int x2, .int x3, .int x4, .int (((nI 5) * x1) + (q5.2 6 x1.toNatClampNeg))]) (st' := [.int x3, .int (((nI 5) * x1) + (q5.2 6 x1.toNatClampNeg)), .ref 40]) (h' := zHp s (zup q5.2 7 (((nI 5) * x1) + (q5.2 6 x1.toNatClampNeg)).toNatClampNeg x2)) rfl ?_
                    refine zX_ias (n := 60) (h' := zHp s (zup (zup q5.2 7 (((nI 5) * x1) + (q5.2 6 x1.toNatClampNeg)).toNatClampNeg x2) 8 (((nI 5) * x1) + (q5.2 6 x1.toNatClampNeg)).toNatClampNeg x3)) rfl rfl (zst_40 _ _ _ _) hF (fun hF => ?_)
                    refine zX_go (c := 4) (pc' := 120) (lv' := [.ref 6, .int x1, .int x2, .int x3, .int x4, .int (((nI 5) * x1) + (q5.2 6 x1.toNatClampNeg))]) (st' := [.int x4, .int (((nI 5) * x1) + (q5.2 6 x1.toNatClampNeg)), .ref 41]) (h' := zHp s (zup (zup q5.2 7 (((nI 5) * x1) + (q5.2 6 x1.toNatClampNeg)).toNatClampNeg x2) 8 (((nI 5) * x1) + (q5.2 6 x1.toNatClampNeg)).toNatClampNeg x3)) rfl ?_
                    refine zX_bas (n := 60) (h' := zHp s (zup (zup (zup q5.2 7 (((nI 5) * x1) + (q5.2 6 x1.toNatClampNeg)).toNatClampNeg x2) 8 (((nI 5) * x1) + (q5.2 6 x1.toNatClampNeg)).toNatClampNeg x3) 9 (((nI 5) * x1) + (q5.2 6 x1.toNatClampNeg)).toNatClampNeg (zbn 1 x4))) rfl rfl (zst_41 _ _ _ _) hF (fun hF => ?_)
                    refine zX_go (c := 4) (pc' := 128) (lv' := [.ref 6, .int x1, .int x2, .int x3, .int x4, .int (((nI 5) * x1) + (q5.2 6 x1.toNatClampNeg))]) (st' := [.int (-1), .int (((nI 5) * x1) + (q5.2 6 x1.toNatClampNeg)), .ref 42]) (h' := zHp s (zup (zup (zup q5.2 7 (((nI 5) * x1) + (q5.2 6 x1.toNatClampNeg)).toNatClampNeg x2) 8 (((nI 5) * x1) + (q5.2 6 x1.toNatClampNeg)).toNatClampNeg x3) 9 (((nI 5) * x1) + (q5.2 6 x1.toNatClampNeg)).toNatClampNeg (zbn 1 x4))) rfl ?_
                    refine zX_ias (n := 60) (h' := zHp s (zup (zup (zup (zup q5.2 7 (((nI 5) * x1) + (q5.2 6 x1.toNatClampNeg)).toNatClampNeg x2) 8 (((nI 5) * x1) + (q5.2 6 x1.toNatClampNeg)).toNatClampNeg x3) 9 (((nI 5) * x1) + (q5.2 6 x1.toNatClampNeg)).toNatClampNeg (zbn 1 x4)) 10 (((nI 5) * x1) + (q5.2 6 x1.toNatClampNeg)).toNatClampNeg (-1))) rfl rfl (zst_42 _ _ _ _) hF (fun hF => ?_)
                    refine zX_go (c := 4) (pc' := 135) (lv' := [.ref 6, .int x1, .int x2, .int x3, .int x4, .int (((nI 5) * x1) + (q5.2 6 x1.toNatClampNeg))]) (st' := [.int x1, .ref 38, .int x1, .ref 38]) (h' := zHp s (zup (zup (zup (zup q5.2 7 (((nI 5) * x1) + (q5.2 6 x1.toNatClampNeg)).toNatClampNeg x2) 8 (((nI 5) * x1) + (q5.2 6 x1.toNatClampNeg)).toNatClampNeg x3) 9 (((nI 5) * x1) + (q5.2 6 x1.toNatClampNeg)).toNatClampNeg (zbn 1 x4)) 10 (((nI 5) * x1) + (q5.2 6 x1.toNatClampNeg)).toNatClampNeg (-1))) rfl ?_
                    refine zX_ial (n := 12) rfl rfl hF (fun hF => ?_)
                    refine zX_go (c := 2) (pc' := 138) (lv' := [.ref 6, .int x1, .int x2, .int x3, .int x4, .int (((nI 5) * x1) + (q5.2 6 x1.toNatClampNeg))]) (st' := [.int ((q5.2 6 x1.toNatClampNeg) + (nI 1)), .int x1, .ref 38]) (h' := zHp s (zup (zup (zup (zup q5.2 7 (((nI 5) * x1) + (q5.2 6 x1.toNatClampNeg)).toNatClampNeg x2) 8 (((nI 5) * x1) + (q5.2 6 x1.toNatClampNeg)).toNatClampNeg x3) 9 (((nI 5) * x1) + (q5.2 6 x1.toNatClampNeg)).toNatClampNeg (zbn 1 x4)) 10 (((nI 5) * x1) + (q5.2 6 x1.toNatClampNeg)).toNatClampNeg (-1))) rfl ?_
                    refine zX_ias (n := 12) (h' := zHp s (zup (zup (zup (zup (zup q5.2 7 (((nI 5) * x1) + (q5.2 6 x1.toNatClampNeg)).toNatClampNeg x2) 8 (((nI 5) * x1) + (q5.2 6 x1.toNatClampNeg)).toNatClampNeg x3) 9 (((nI 5) * x1) + (q5.2 6 x1.toNatClampNeg)).toNatClampNeg (zbn 1 x4)) 10 (((nI 5) * x1) + (q5.2 6 x1.toNatClampNeg)).toNatClampNeg (-1)) 6 x1.toNatClampNeg ((q5.2 6 x1.toNatClampNeg) + (nI 1)))) rfl rfl (zst_38 _ _ _ _) hF (fun hF => ?_)
                    refine zX_go (c := 3) (pc' := 144) (lv' := [.ref 6, .int x1, .int x2, .int x3, .int x4, .int (((nI 5) * x1) + (q5.2 6 x1.toNatClampNeg))]) (st' := [.int x1, .ref 38]) (h' := zHp s (zup (zup (zup (zup (zup q5.2 7 (((nI 5) * x1) + (q5.2 6 x1.toNatClampNeg)).toNatClampNeg x2) 8 (((nI 5) * x1) + (q5.2 6 x1.toNatClampNeg)).toNatClampNeg x3) 9 (((nI 5) * x1) + (q5.2 6 x1.toNatClampNeg)).toNatClampNeg (zbn 1 x4)) 10 (((nI 5) * x1) + (q5.2 6 x1.toNatClampNeg)).toNatClampNeg (-1)) 6 x1.toNatClampNeg ((q5.2 6 x1.toNatClampNeg) + (nI 1)))) rfl ?_
                    refine zX_ial (n := 12) rfl rfl hF (fun hF => ?_)
                    obtain rfl := Option.some.inj hF
                    exact zX_reti rfl
            · refine zX_go (c := 1) (pc' := 49) (lv' := [.ref 6, .int x1, .int x2, .int x3, .int x4, .retAddr 0]) (st' := [.int (-4)]) (h' := zHp s t) rfl ?_
              obtain rfl := Option.some.inj hF
              exact zX_reti rfl
          · refine zX_go (c := 1) (pc' := 38) (lv' := [.ref 6, .int x1, .int x2, .int x3, .int x4, .retAddr 0]) (st' := [.int (-2)]) (h' := zHp s t) rfl ?_
            obtain rfl := Option.some.inj hF
            exact zX_reti rfl
def l_X6_isContainer (M : Nat) : Nat → zS → Int32 → Int32 → Int32 → Int32 → Int32 → Option (Int32)
  | 0, _, _, _, _, _, _ => none
  | N + 1, t, y1, y2, y3, y4, y5 =>
    zq (zin y2 12) <|
    if y5 < (((nI 5) * y2) + (t 6 y2.toNatClampNeg)) then
     if y4 = 0 then
      l_X6_isContainer M N t y1 y2 y3 (nI 0) (y5 + (nI 1))
     else
      if y5 = y3 then
       l_X6_isContainer M N t y1 y2 y3 (nI 1) (y5 + (nI 1))
      else
       zq (zin y5 60) <|
       if (t 10 y5.toNatClampNeg) = (-1) then
        l_X6_isContainer M N t y1 y2 y3 (nI 0) (y5 + (nI 1))
       else
        l_X6_isContainer M N t y1 y2 y3 (nI 1) (y5 + (nI 1))
    else
     if y4 = 0 then
      some (nI 0)
     else
      zq (zin y2 12) <|
      zq (zin y1 12) <|
      if (t 2 y2.toNatClampNeg) < (t 2 y1.toNatClampNeg) then
       some (nI 0)
      else
       zq (zin y2 12) <|
       zq (zin y1 12) <|
       if ((t 1 y2.toNatClampNeg) &&& ((t 1 y1.toNatClampNeg) ^^^ (-1))) = 0 then
        zq (zin y2 12) <|
        if (t 3 y2.toNatClampNeg) = 0 then
         zq (zin y1 12) <|
         if (t 3 y1.toNatClampNeg) = 0 then
          some (nI 1)
         else
          some (nI 0)
        else
         some (nI 1)
       else
        some (nI 0)
set_option maxRecDepth 100000 in
set_option maxHeartbeats 4000000 in
theorem tl_X6_isContainer {L : Nat} {xs : Nat → Int32} (M : Nat) (s : zS) : ∀ (N : Nat) (t : zS) (y1 : Int32) (y2 : Int32) (y3 : Int32) (y4 : Int32) (y5 : Int32) (R : Int32) (hF : l_X6_isContainer M N t y1 y2 y3 y4 y5 = some R), zX (ztb L xs) (zcall (ztb L xs) 1) 6 2 zk_X6_isContainer 46 [.ref 6, .int y1, .int y2, .int y3, .int y4, .int y5] [] (zHp s t) (some (.int R), zHp s t) := by
  intro N
  induction N with
  | zero => intro t y1 y2 y3 y4 y5 R hF; cases hF
  | succ N ih =>
    intro t y1 y2 y3 y4 y5 R hF
    unfold l_X6_isContainer at hF
    refine zX_go (c := 7) (pc' := 56) (lv' := [.ref 6, .int y1, .int y2, .int y3, .int y4, .int y5]) (st' := [.int y2, .ref 38, .int ((nI 5) * y2), .int y5]) (h' := zHp s t) rfl ?_
    refine zX_ial (n := 12) rfl rfl hF (fun hF => ?_)
    refine zX_go (c := 2) (pc' := if y5 < (((nI 5) * y2) + (t 6 y2.toNatClampNeg)) then 61 else 96) (lv' := [.ref 6, .int y1, .int y2, .int y3, .int y4, .int y5]) (st' := []) (h' := zHp s t) rfl ?_
    refine zX_ite hF (fun c0 hF => ?_) (fun c0 hF => ?_)
    · refine zX_go (c := 2) (pc' := if y4 = 0 then 87 else 66) (lv' := [.ref 6, .int y1, .int y2, .int y3, .int y4, .int y5]) (st' := []) (h' := zHp s t) rfl ?_
      refine zX_ite hF (fun c0 hF => ?_) (fun c0 hF => ?_)
      · refine zX_go (c := 4) (pc' := 46) (lv' := [.ref 6, .int y1, .int y2, .int y3, .int (nI 0), .int (y5 + (nI 1))]) (st' := []) (h' := zHp s t) rfl ?_
        exact ih t y1 y2 y3 (nI 0) (y5 + (nI 1)) _ hF
      · refine zX_go (c := 3) (pc' := if y5 = y3 then 83 else 72) (lv' := [.ref 6, .int y1, .int y2, .int y3, .int y4, .int y5]) (st' := []) (h' := zHp s t) rfl ?_
        refine zX_ite hF (fun c0 hF => ?_) (fun c0 hF => ?_)
        · refine zX_go (c := 5) (pc' := 46) (lv' := [.ref 6, .int y1, .int y2, .int y3, .int (nI 1), .int (y5 + (nI 1))]) (st' := []) (h' := zHp s t) rfl ?_
          exact ih t y1 y2 y3 (nI 1) (y5 + (nI 1)) _ hF
        · refine zX_go (c := 3) (pc' := 78) (lv' := [.ref 6, .int y1, .int y2, .int y3, .int y4, .int y5]) (st' := [.int y5, .ref 42]) (h' := zHp s t) rfl ?_
          refine zX_ial (n := 60) rfl rfl hF (fun hF => ?_)
          refine zX_go (c := 2) (pc' := if (t 10 y5.toNatClampNeg) = (-1) then 87 else 83) (lv' := [.ref 6, .int y1, .int y2, .int y3, .int y4, .int y5]) (st' := []) (h' := zHp s t) rfl ?_
          refine zX_ite hF (fun c0 hF => ?_) (fun c0 hF => ?_)
          · refine zX_go (c := 4) (pc' := 46) (lv' := [.ref 6, .int y1, .int y2, .int y3, .int (nI 0), .int (y5 + (nI 1))]) (st' := []) (h' := zHp s t) rfl ?_
            exact ih t y1 y2 y3 (nI 0) (y5 + (nI 1)) _ hF
          · refine zX_go (c := 5) (pc' := 46) (lv' := [.ref 6, .int y1, .int y2, .int y3, .int (nI 1), .int (y5 + (nI 1))]) (st' := []) (h' := zHp s t) rfl ?_
            exact ih t y1 y2 y3 (nI 1) (y5 + (nI 1)) _ hF
    · refine zX_go (c := 2) (pc' := if y4 = 0 then 156 else 101) (lv' := [.ref 6, .int y1, .int y2, .int y3, .int y4, .int y5]) (st' := []) (h' := zHp s t) rfl ?_
      refine zX_ite hF (fun c0 hF => ?_) (fun c0 hF => ?_)
      · refine zX_go (c := 1) (pc' := 157) (lv' := [.ref 6, .int y1, .int y2, .int y3, .int y4, .int y5]) (st' := [.int (nI 0)]) (h' := zHp s t) rfl ?_
        obtain rfl := Option.some.inj hF
        exact zX_retz rfl (by decide)
      · refine zX_go (c := 3) (pc' := 106) (lv' := [.ref 6, .int y1, .int y2, .int y3, .int y4, .int y5]) (st' := [.int y2, .ref 34]) (h' := zHp s t) rfl ?_
        refine zX_ial (n := 12) rfl rfl hF (fun hF => ?_)
        refine zX_go (c := 3) (pc' := 112) (lv' := [.ref 6, .int y1, .int y2, .int y3, .int y4, .int y5]) (st' := [.int y1, .ref 34, .int (t 2 y2.toNatClampNeg)]) (h' := zHp s t) rfl ?_
        refine zX_ial (n := 12) rfl rfl hF (fun hF => ?_)
        refine zX_go (c := 1) (pc' := if (t 2 y2.toNatClampNeg) < (t 2 y1.toNatClampNeg) then 156 else 116) (lv' := [.ref 6, .int y1, .int y2, .int y3, .int y4, .int y5]) (st' := []) (h' := zHp s t) rfl ?_
        refine zX_ite hF (fun c0 hF => ?_) (fun c0 hF => ?_)
        · refine zX_go (c := 1) (pc' := 157) (lv' := [.ref 6, .int y1, .int y2, .int y3, .int y4, .int y5]) (st' := [.int (nI 0)]) (h' := zHp s t) rfl ?_
          obtain rfl := Option.some.inj hF
          exact zX_retz rfl (by decide)
        · refine zX_go (c := 3) (pc' := 121) (lv' := [.ref 6, .int y1, .int y2, .int y3, .int y4, .int y5]) (st' := [.int y2, .ref 33]) (h' := zHp s t) rfl ?_
          refine zX_ial (n := 12) rfl rfl hF (fun hF => ?_)
          refine zX_go (c := 3) (pc' := 127) (lv' := [.ref 6, .int y1, .int y2, .int y3, .int y4, .int y5]) (st' := [.int y1, .ref 33, .int (t 1 y2.toNatClampNeg)]) (h' := zHp s t) rfl ?_
          refine zX_ial (n := 12) rfl rfl hF (fun hF => ?_)
          refine zX_go (c := 4) (pc' := if ((t 1 y2.toNatClampNeg) &&& ((t 1 y1.toNatClampNeg) ^^^ (-1))) = 0 then 134 else 156) (lv' := [.ref 6, .int y1, .int y2, .int y3, .int y4, .int y5]) (st' := []) (h' := zHp s t) rfl ?_
          refine zX_ite hF (fun c0 hF => ?_) (fun c0 hF => ?_)
          · refine zX_go (c := 3) (pc' := 139) (lv' := [.ref 6, .int y1, .int y2, .int y3, .int y4, .int y5]) (st' := [.int y2, .ref 35]) (h' := zHp s t) rfl ?_
            refine zX_bal (n := 12) rfl rfl hF (fun hF => ?_)
            refine zX_go (c := 1) (pc' := if (t 3 y2.toNatClampNeg) = 0 then 143 else 152) (lv' := [.ref 6, .int y1, .int y2, .int y3, .int y4, .int y5]) (st' := []) (h' := zHp s t) rfl ?_
            refine zX_ite hF (fun c0 hF => ?_) (fun c0 hF => ?_)
            · refine zX_go (c := 3) (pc' := 148) (lv' := [.ref 6, .int y1, .int y2, .int y3, .int y4, .int y5]) (st' := [.int y1, .ref 35]) (h' := zHp s t) rfl ?_
              refine zX_bal (n := 12) rfl rfl hF (fun hF => ?_)
              refine zX_go (c := 1) (pc' := if (t 3 y1.toNatClampNeg) = 0 then 152 else 156) (lv' := [.ref 6, .int y1, .int y2, .int y3, .int y4, .int y5]) (st' := []) (h' := zHp s t) rfl ?_
              refine zX_ite hF (fun c0 hF => ?_) (fun c0 hF => ?_)
              · refine zX_go (c := 2) (pc' := 157) (lv' := [.ref 6, .int y1, .int y2, .int y3, .int y4, .int y5]) (st' := [.int (nI 1)]) (h' := zHp s t) rfl ?_
                obtain rfl := Option.some.inj hF
                exact zX_retz rfl (by decide)
              · refine zX_go (c := 1) (pc' := 157) (lv' := [.ref 6, .int y1, .int y2, .int y3, .int y4, .int y5]) (st' := [.int (nI 0)]) (h' := zHp s t) rfl ?_
                obtain rfl := Option.some.inj hF
                exact zX_retz rfl (by decide)
            · refine zX_go (c := 2) (pc' := 157) (lv' := [.ref 6, .int y1, .int y2, .int y3, .int y4, .int y5]) (st' := [.int (nI 1)]) (h' := zHp s t) rfl ?_
              obtain rfl := Option.some.inj hF
              exact zX_retz rfl (by decide)
          · refine zX_go (c := 1) (pc' := 157) (lv' := [.ref 6, .int y1, .int y2, .int y3, .int y4, .int y5]) (st' := [.int (nI 0)]) (h' := zHp s t) rfl ?_
            obtain rfl := Option.some.inj hF
            exact zX_retz rfl (by decide)
def f_X6_isContainer (M : Nat) (t : zS) (x1 x2 : Int32) : Option (Int32) :=
  zbd (f_X6_elementOf M t x2 (nI 0)) (fun q1 =>
   if q1 = (-1) then
    l_X6_isContainer M M t x1 x2 q1 (nI 0) ((nI 5) * x2)
   else
    zq (zin q1 60) <|
    if (t 9 q1.toNatClampNeg) = 0 then
     l_X6_isContainer M M t x1 x2 q1 (nI 0) ((nI 5) * x2)
    else
     zq (zin q1 60) <|
     if (t 8 q1.toNatClampNeg) = ((nI 10) + x1) then
      l_X6_isContainer M M t x1 x2 q1 (nI 1) ((nI 5) * x2)
     else
      l_X6_isContainer M M t x1 x2 q1 (nI 0) ((nI 5) * x2))
set_option maxRecDepth 100000 in
set_option maxHeartbeats 4000000 in
theorem t_X6_isContainer {L : Nat} {xs : Nat → Int32} (M : Nat) (s t : zS) (x1 x2 : Int32) (R : Int32) (hF : f_X6_isContainer M t x1 x2 = some R) : zcall (ztb L xs) 2 97 [.ref 6, .int x1, .int x2] (zHp s t) = some (some (.int R), zHp s t) := by
  unfold f_X6_isContainer at hF
  refine zcall_X (d := 1) (e := zm_X6_isContainer) rfl rfl ?_
  show zX (ztb L xs) (zcall (ztb L xs) 1) 6 2 zk_X6_isContainer 0 [.ref 6, .int x1, .int x2, .retAddr 0, .retAddr 0, .retAddr 0] [] (zHp s t) _
  refine zX_go (c := 3) (pc' := 3) (lv' := [.ref 6, .int x1, .int x2, .retAddr 0, .retAddr 0, .retAddr 0]) (st' := [.int (nI 0), .int x2, .ref 6]) (h' := zHp s t) rfl ?_
  obtain ⟨q1, hq, hF⟩ := zbd_ok hF
  refine zX_inv (av := [.ref 6, .int x2, .int (nI 0)]) (st := []) (h' := zHp s t) rfl rfl rfl rfl rfl rfl (zcall_le (t_X6_elementOf M _ _ _ _ _ hq) (by decide)) ?_
  refine zX_go (c := 4) (pc' := if q1 = (-1) then 38 else 12) (lv' := [.ref 6, .int x1, .int x2, .int q1, .retAddr 0, .retAddr 0]) (st' := []) (h' := zHp s t) rfl ?_
  refine zX_ite hF (fun c0 hF => ?_) (fun c0 hF => ?_)
  · refine zX_go (c := 6) (pc' := 46) (lv' := [.ref 6, .int x1, .int x2, .int q1, .int (nI 0), .int ((nI 5) * x2)]) (st' := []) (h' := zHp s t) rfl ?_
    exact tl_X6_isContainer M s M t x1 x2 q1 (nI 0) ((nI 5) * x2) _ hF
  · refine zX_go (c := 3) (pc' := 17) (lv' := [.ref 6, .int x1, .int x2, .int q1, .retAddr 0, .retAddr 0]) (st' := [.int q1, .ref 41]) (h' := zHp s t) rfl ?_
    refine zX_bal (n := 60) rfl rfl hF (fun hF => ?_)
    refine zX_go (c := 1) (pc' := if (t 9 q1.toNatClampNeg) = 0 then 38 else 21) (lv' := [.ref 6, .int x1, .int x2, .int q1, .retAddr 0, .retAddr 0]) (st' := []) (h' := zHp s t) rfl ?_
    refine zX_ite hF (fun c0 hF => ?_) (fun c0 hF => ?_)
    · refine zX_go (c := 6) (pc' := 46) (lv' := [.ref 6, .int x1, .int x2, .int q1, .int (nI 0), .int ((nI 5) * x2)]) (st' := []) (h' := zHp s t) rfl ?_
      exact tl_X6_isContainer M s M t x1 x2 q1 (nI 0) ((nI 5) * x2) _ hF
    · refine zX_go (c := 3) (pc' := 26) (lv' := [.ref 6, .int x1, .int x2, .int q1, .retAddr 0, .retAddr 0]) (st' := [.int q1, .ref 40]) (h' := zHp s t) rfl ?_
      refine zX_ial (n := 60) rfl rfl hF (fun hF => ?_)
      refine zX_go (c := 4) (pc' := if (t 8 q1.toNatClampNeg) = ((nI 10) + x1) then 34 else 38) (lv' := [.ref 6, .int x1, .int x2, .int q1, .retAddr 0, .retAddr 0]) (st' := []) (h' := zHp s t) rfl ?_
      refine zX_ite hF (fun c0 hF => ?_) (fun c0 hF => ?_)
      · refine zX_go (c := 7) (pc' := 46) (lv' := [.ref 6, .int x1, .int x2, .int q1, .int (nI 1), .int ((nI 5) * x2)]) (st' := []) (h' := zHp s t) rfl ?_
        exact tl_X6_isContainer M s M t x1 x2 q1 (nI 1) ((nI 5) * x2) _ hF
      · refine zX_go (c := 6) (pc' := 46) (lv' := [.ref 6, .int x1, .int x2, .int q1, .int (nI 0), .int ((nI 5) * x2)]) (st' := []) (h' := zHp s t) rfl ?_
        exact tl_X6_isContainer M s M t x1 x2 q1 (nI 0) ((nI 5) * x2) _ hF
def l_X6_container (M : Nat) : Nat → zS → Int32 → Int32 → Int32 → Int32 → Option (Int32 × zS)
  | 0, _, _, _, _, _ => none
  | N + 1, t, y1, y2, y3, y4 =>
    if y4 < (t 32 0) then
     if y3 = 0 then
      zq (zin y4 100) <|
      zq (zin (t 34 y4.toNatClampNeg) 100) <|
      if (t 17 (t 34 y4.toNatClampNeg).toNatClampNeg) = y1 then
       l_X6_container M N t y1 y2 (nI 1) (y4 + (nI 1))
      else
       l_X6_container M N t y1 y2 (nI 0) (y4 + (nI 1))
     else
      l_X6_container M N t y1 y2 (nI 1) (y4 + (nI 1))
    else
     zq (zin y1 12) <|
     if (t 4 y1.toNatClampNeg) = (-1) then
      if y3 = 0 then
       zbd (f_X6_isContainer M t y1 y2) (fun q1 =>
        if q1 = 0 then
         some (nI 0, t)
        else
         zq (zin y1 12) <|
         zq (zin y2 12) <|
         some (nI 1, zup (zup t 4 y1.toNatClampNeg y2) 5 y2.toNatClampNeg y1))
      else
       some ((-4), t)
     else
      some ((-4), t)
set_option maxRecDepth 100000 in
set_option maxHeartbeats 4000000 in
theorem tl_X6_container {L : Nat} {xs : Nat → Int32} (M : Nat) (s : zS) : ∀ (N : Nat) (t : zS) (y1 : Int32) (y2 : Int32) (y3 : Int32) (y4 : Int32) (R : Int32 × zS) (hF : l_X6_container M N t y1 y2 y3 y4 = some R), zX (ztb L xs) (zcall (ztb L xs) 2) 6 1 zk_X6_container 24 [.ref 6, .int y1, .int y2, .int y3, .int y4] [] (zHp s t) (some (.int R.1), zHp s R.2) := by
  intro N
  induction N with
  | zero => intro t y1 y2 y3 y4 R hF; cases hF
  | succ N ih =>
    intro t y1 y2 y3 y4 R hF
    unfold l_X6_container at hF
    refine zX_go (c := 4) (pc' := if y4 < (t 32 0) then 33 else 65) (lv' := [.ref 6, .int y1, .int y2, .int y3, .int y4]) (st' := []) (h' := zHp s t) rfl ?_
    refine zX_ite hF (fun c0 hF => ?_) (fun c0 hF => ?_)
    · refine zX_go (c := 2) (pc' := if y3 = 0 then 37 else 53) (lv' := [.ref 6, .int y1, .int y2, .int y3, .int y4]) (st' := []) (h' := zHp s t) rfl ?_
      refine zX_ite hF (fun c0 hF => ?_) (fun c0 hF => ?_)
      · refine zX_go (c := 5) (pc' := 47) (lv' := [.ref 6, .int y1, .int y2, .int y3, .int y4]) (st' := [.int y4, .ref 59, .ref 47]) (h' := zHp s t) rfl ?_
        refine zX_ial (n := 100) rfl rfl hF (fun hF => ?_)
        refine zX_ial (n := 100) rfl rfl hF (fun hF => ?_)
        refine zX_go (c := 2) (pc' := if (t 17 (t 34 y4.toNatClampNeg).toNatClampNeg) = y1 then 53 else 57) (lv' := [.ref 6, .int y1, .int y2, .int y3, .int y4]) (st' := []) (h' := zHp s t) rfl ?_
        refine zX_ite hF (fun c0 hF => ?_) (fun c0 hF => ?_)
        · refine zX_go (c := 5) (pc' := 24) (lv' := [.ref 6, .int y1, .int y2, .int (nI 1), .int (y4 + (nI 1))]) (st' := []) (h' := zHp s t) rfl ?_
          exact ih t y1 y2 (nI 1) (y4 + (nI 1)) _ hF
        · refine zX_go (c := 4) (pc' := 24) (lv' := [.ref 6, .int y1, .int y2, .int (nI 0), .int (y4 + (nI 1))]) (st' := []) (h' := zHp s t) rfl ?_
          exact ih t y1 y2 (nI 0) (y4 + (nI 1)) _ hF
      · refine zX_go (c := 5) (pc' := 24) (lv' := [.ref 6, .int y1, .int y2, .int (nI 1), .int (y4 + (nI 1))]) (st' := []) (h' := zHp s t) rfl ?_
        exact ih t y1 y2 (nI 1) (y4 + (nI 1)) _ hF
    · refine zX_go (c := 3) (pc' := 70) (lv' := [.ref 6, .int y1, .int y2, .int y3, .int y4]) (st' := [.int y1, .ref 36]) (h' := zHp s t) rfl ?_
      refine zX_ial (n := 12) rfl rfl hF (fun hF => ?_)
      refine zX_go (c := 2) (pc' := if (t 4 y1.toNatClampNeg) = (-1) then 75 else 79) (lv' := [.ref 6, .int y1, .int y2, .int y3, .int y4]) (st' := []) (h' := zHp s t) rfl ?_
      refine zX_ite hF (fun c0 hF => ?_) (fun c0 hF => ?_)
      · refine zX_go (c := 2) (pc' := if y3 = 0 then 82 else 79) (lv' := [.ref 6, .int y1, .int y2, .int y3, .int y4]) (st' := []) (h' := zHp s t) rfl ?_
        refine zX_ite hF (fun c0 hF => ?_) (fun c0 hF => ?_)
        · refine zX_go (c := 3) (pc' := 85) (lv' := [.ref 6, .int y1, .int y2, .int y3, .int y4]) (st' := [.int y2, .int y1, .ref 6]) (h' := zHp s t) rfl ?_
          obtain ⟨q1, hq, hF⟩ := zbd_ok hF
          refine zX_inv (av := [.ref 6, .int y1, .int y2]) (st := []) (h' := zHp s t) rfl rfl rfl rfl rfl rfl (zcall_le (t_X6_isContainer M _ _ _ _ _ hq) (by decide)) ?_
          refine zX_go (c := 1) (pc' := if q1 = 0 then 91 else 93) (lv' := [.ref 6, .int y1, .int y2, .int y3, .int y4]) (st' := []) (h' := zHp s t) rfl ?_
          refine zX_ite hF (fun c0 hF => ?_) (fun c0 hF => ?_)
          · refine zX_go (c := 1) (pc' := 92) (lv' := [.ref 6, .int y1, .int y2, .int y3, .int y4]) (st' := [.int (nI 0)]) (h' := zHp s t) rfl ?_
            obtain rfl := Option.some.inj hF
            exact zX_reti rfl
          · refine zX_go (c := 4) (pc' := 99) (lv' := [.ref 6, .int y1, .int y2, .int y3, .int y4]) (st' := [.int y2, .int y1, .ref 36]) (h' := zHp s t) rfl ?_
            refine zX_ias (n := 12) (h' := zHp s (zup t 4 y1.toNatClampNeg y2)) rfl rfl (zst_36 _ _ _ _) hF (fun hF => ?_)
            refine zX_go (c := 4) (pc' := 106) (lv' := [.ref 6, .int y1, .int y2, .int y3, .int y4]) (st' := [.int y1, .int y2, .ref 37]) (h' := zHp s (zup t 4 y1.toNatClampNeg y2)) rfl ?_
            refine zX_ias (n := 12) (h' := zHp s (zup (zup t 4 y1.toNatClampNeg y2) 5 y2.toNatClampNeg y1)) rfl rfl (zst_37 _ _ _ _) hF (fun hF => ?_)
            refine zX_go (c := 1) (pc' := 108) (lv' := [.ref 6, .int y1, .int y2, .int y3, .int y4]) (st' := [.int (nI 1)]) (h' := zHp s (zup (zup t 4 y1.toNatClampNeg y2) 5 y2.toNatClampNeg y1)) rfl ?_
            obtain rfl := Option.some.inj hF
            exact zX_reti rfl
        · refine zX_go (c := 1) (pc' := 81) (lv' := [.ref 6, .int y1, .int y2, .int y3, .int y4]) (st' := [.int (-4)]) (h' := zHp s t) rfl ?_
          obtain rfl := Option.some.inj hF
          exact zX_reti rfl
      · refine zX_go (c := 1) (pc' := 81) (lv' := [.ref 6, .int y1, .int y2, .int y3, .int y4]) (st' := [.int (-4)]) (h' := zHp s t) rfl ?_
        obtain rfl := Option.some.inj hF
        exact zX_reti rfl
def f_X6_container (M : Nat) (t : zS) (x1 x2 : Int32) : Option (Int32 × zS) :=
  zbd (f_X6_isMark M t x1) (fun q1 =>
   if q1 = 0 then
    some ((-2), t)
   else
    zbd (f_X6_isMark M t x2) (fun q2 =>
     if q2 = 0 then
      some ((-2), t)
     else
      l_X6_container M M t x1 x2 (nI 0) (nI 0)))
set_option maxRecDepth 100000 in
set_option maxHeartbeats 4000000 in
theorem t_X6_container {L : Nat} {xs : Nat → Int32} (M : Nat) (s t : zS) (x1 x2 : Int32) (R : Int32 × zS) (hF : f_X6_container M t x1 x2 = some R) : zcall (ztb L xs) 3 98 [.ref 6, .int x1, .int x2] (zHp s t) = some (some (.int R.1), zHp s R.2) := by
  unfold f_X6_container at hF
  refine zcall_X (d := 2) (e := zm_X6_container) rfl rfl ?_
  show zX (ztb L xs) (zcall (ztb L xs) 2) 6 1 zk_X6_container 0 [.ref 6, .int x1, .int x2, .retAddr 0, .retAddr 0] [] (zHp s t) _
  refine zX_go (c := 2) (pc' := 2) (lv' := [.ref 6, .int x1, .int x2, .retAddr 0, .retAddr 0]) (st' := [.int x1, .ref 6]) (h' := zHp s t) rfl ?_
  obtain ⟨q1, hq, hF⟩ := zbd_ok hF
  refine zX_inv (av := [.ref 6, .int x1]) (st := []) (h' := zHp s t) rfl rfl rfl rfl rfl rfl (zcall_le (t_X6_isMark M _ _ _ _ hq) (by decide)) ?_
  refine zX_go (c := 1) (pc' := if q1 = 0 then 16 else 8) (lv' := [.ref 6, .int x1, .int x2, .retAddr 0, .retAddr 0]) (st' := []) (h' := zHp s t) rfl ?_
  refine zX_ite hF (fun c0 hF => ?_) (fun c0 hF => ?_)
  · refine zX_go (c := 1) (pc' := 18) (lv' := [.ref 6, .int x1, .int x2, .retAddr 0, .retAddr 0]) (st' := [.int (-2)]) (h' := zHp s t) rfl ?_
    obtain rfl := Option.some.inj hF
    exact zX_reti rfl
  · refine zX_go (c := 2) (pc' := 10) (lv' := [.ref 6, .int x1, .int x2, .retAddr 0, .retAddr 0]) (st' := [.int x2, .ref 6]) (h' := zHp s t) rfl ?_
    obtain ⟨q2, hq, hF⟩ := zbd_ok hF
    refine zX_inv (av := [.ref 6, .int x2]) (st := []) (h' := zHp s t) rfl rfl rfl rfl rfl rfl (zcall_le (t_X6_isMark M _ _ _ _ hq) (by decide)) ?_
    refine zX_go (c := 1) (pc' := if q2 = 0 then 16 else 19) (lv' := [.ref 6, .int x1, .int x2, .retAddr 0, .retAddr 0]) (st' := []) (h' := zHp s t) rfl ?_
    refine zX_ite hF (fun c0 hF => ?_) (fun c0 hF => ?_)
    · refine zX_go (c := 1) (pc' := 18) (lv' := [.ref 6, .int x1, .int x2, .retAddr 0, .retAddr 0]) (st' := [.int (-2)]) (h' := zHp s t) rfl ?_
      obtain rfl := Option.some.inj hF
      exact zX_reti rfl
    · refine zX_go (c := 4) (pc' := 24) (lv' := [.ref 6, .int x1, .int x2, .int (nI 0), .int (nI 0)]) (st' := []) (h' := zHp s t) rfl ?_
      exact tl_X6_container M s M t x1 x2 (nI 0) (nI 0) _ hF
def f_X6_isPlace (M : Nat) (t : zS) (x1 : Int32) : Option (Int32) :=
  if x1 < 0 then
   some (nI 0)
  else
   if x1 < (t 12 0) then
    some (nI 1)
   else
    some (nI 0)
set_option maxRecDepth 100000 in
set_option maxHeartbeats 4000000 in
theorem t_X6_isPlace {L : Nat} {xs : Nat → Int32} (M : Nat) (s t : zS) (x1 : Int32) (R : Int32) (hF : f_X6_isPlace M t x1 = some R) : zcall (ztb L xs) 1 99 [.ref 6, .int x1] (zHp s t) = some (some (.int R), zHp s t) := by
  unfold f_X6_isPlace at hF
  refine zcall_X (d := 0) (e := zm_X6_isPlace) rfl rfl ?_
  show zX (ztb L xs) (zcall (ztb L xs) 0) 6 2 zk_X6_isPlace 0 [.ref 6, .int x1] [] (zHp s t) _
  refine zX_go (c := 2) (pc' := if x1 < 0 then 16 else 4) (lv' := [.ref 6, .int x1]) (st' := []) (h' := zHp s t) rfl ?_
  refine zX_ite hF (fun c0 hF => ?_) (fun c0 hF => ?_)
  · refine zX_go (c := 1) (pc' := 17) (lv' := [.ref 6, .int x1]) (st' := [.int (nI 0)]) (h' := zHp s t) rfl ?_
    obtain rfl := Option.some.inj hF
    exact zX_retz rfl (by decide)
  · refine zX_go (c := 4) (pc' := if x1 < (t 12 0) then 12 else 16) (lv' := [.ref 6, .int x1]) (st' := []) (h' := zHp s t) rfl ?_
    refine zX_ite hF (fun c0 hF => ?_) (fun c0 hF => ?_)
    · refine zX_go (c := 2) (pc' := 17) (lv' := [.ref 6, .int x1]) (st' := [.int (nI 1)]) (h' := zHp s t) rfl ?_
      obtain rfl := Option.some.inj hF
      exact zX_retz rfl (by decide)
    · refine zX_go (c := 1) (pc' := 17) (lv' := [.ref 6, .int x1]) (st' := [.int (nI 0)]) (h' := zHp s t) rfl ?_
      obtain rfl := Option.some.inj hF
      exact zX_retz rfl (by decide)
def f_X6_isAmong (M : Nat) (t : zS) (x1 x2 x3 : Int32) : Option (Int32) :=
  zbd (f_X6_isPlace M t x1) (fun q1 =>
   if q1 = 0 then
    some (nI 0)
   else
    zq (zin x1 40) <|
    if (t 13 x1.toNatClampNeg) < x2 then
     some (nI 0)
    else
     zq (zin x1 40) <|
     if x3 < (t 13 x1.toNatClampNeg) then
      some (nI 0)
     else
      some (nI 1))
set_option maxRecDepth 100000 in
set_option maxHeartbeats 4000000 in
theorem t_X6_isAmong {L : Nat} {xs : Nat → Int32} (M : Nat) (s t : zS) (x1 x2 x3 : Int32) (R : Int32) (hF : f_X6_isAmong M t x1 x2 x3 = some R) : zcall (ztb L xs) 2 100 [.ref 6, .int x1, .int x2, .int x3] (zHp s t) = some (some (.int R), zHp s t) := by
  unfold f_X6_isAmong at hF
  refine zcall_X (d := 1) (e := zm_X6_isAmong) rfl rfl ?_
  show zX (ztb L xs) (zcall (ztb L xs) 1) 6 2 zk_X6_isAmong 0 [.ref 6, .int x1, .int x2, .int x3] [] (zHp s t) _
  refine zX_go (c := 2) (pc' := 2) (lv' := [.ref 6, .int x1, .int x2, .int x3]) (st' := [.int x1, .ref 6]) (h' := zHp s t) rfl ?_
  obtain ⟨q1, hq, hF⟩ := zbd_ok hF
  refine zX_inv (av := [.ref 6, .int x1]) (st := []) (h' := zHp s t) rfl rfl rfl rfl rfl rfl (zcall_le (t_X6_isPlace M _ _ _ _ hq) (by decide)) ?_
  refine zX_go (c := 1) (pc' := if q1 = 0 then 32 else 8) (lv' := [.ref 6, .int x1, .int x2, .int x3]) (st' := []) (h' := zHp s t) rfl ?_
  refine zX_ite hF (fun c0 hF => ?_) (fun c0 hF => ?_)
  · refine zX_go (c := 1) (pc' := 33) (lv' := [.ref 6, .int x1, .int x2, .int x3]) (st' := [.int (nI 0)]) (h' := zHp s t) rfl ?_
    obtain rfl := Option.some.inj hF
    exact zX_retz rfl (by decide)
  · refine zX_go (c := 3) (pc' := 13) (lv' := [.ref 6, .int x1, .int x2, .int x3]) (st' := [.int x1, .ref 44]) (h' := zHp s t) rfl ?_
    refine zX_ial (n := 40) rfl rfl hF (fun hF => ?_)
    refine zX_go (c := 2) (pc' := if (t 13 x1.toNatClampNeg) < x2 then 32 else 18) (lv' := [.ref 6, .int x1, .int x2, .int x3]) (st' := []) (h' := zHp s t) rfl ?_
    refine zX_ite hF (fun c0 hF => ?_) (fun c0 hF => ?_)
    · refine zX_go (c := 1) (pc' := 33) (lv' := [.ref 6, .int x1, .int x2, .int x3]) (st' := [.int (nI 0)]) (h' := zHp s t) rfl ?_
      obtain rfl := Option.some.inj hF
      exact zX_retz rfl (by decide)
    · refine zX_go (c := 3) (pc' := 23) (lv' := [.ref 6, .int x1, .int x2, .int x3]) (st' := [.int x1, .ref 44]) (h' := zHp s t) rfl ?_
      refine zX_ial (n := 40) rfl rfl hF (fun hF => ?_)
      refine zX_go (c := 2) (pc' := if x3 < (t 13 x1.toNatClampNeg) then 32 else 28) (lv' := [.ref 6, .int x1, .int x2, .int x3]) (st' := []) (h' := zHp s t) rfl ?_
      refine zX_ite hF (fun c0 hF => ?_) (fun c0 hF => ?_)
      · refine zX_go (c := 1) (pc' := 33) (lv' := [.ref 6, .int x1, .int x2, .int x3]) (st' := [.int (nI 0)]) (h' := zHp s t) rfl ?_
        obtain rfl := Option.some.inj hF
        exact zX_retz rfl (by decide)
      · refine zX_go (c := 2) (pc' := 33) (lv' := [.ref 6, .int x1, .int x2, .int x3]) (st' := [.int (nI 1)]) (h' := zHp s t) rfl ?_
        obtain rfl := Option.some.inj hF
        exact zX_retz rfl (by decide)
def f_X6_isType (M : Nat) (t : zS) (x1 : Int32) : Option (Int32) :=
  zbd (f_X6_isAmong M t x1 (nI 0) (nI 1)) (fun q1 =>
   zq (q1 &&& 1 == q1) <|
   some q1)
set_option maxRecDepth 100000 in
set_option maxHeartbeats 4000000 in
theorem t_X6_isType {L : Nat} {xs : Nat → Int32} (M : Nat) (s t : zS) (x1 : Int32) (R : Int32) (hF : f_X6_isType M t x1 = some R) : zcall (ztb L xs) 3 101 [.ref 6, .int x1] (zHp s t) = some (some (.int R), zHp s t) := by
  unfold f_X6_isType at hF
  refine zcall_X (d := 2) (e := zm_X6_isType) rfl rfl ?_
  show zX (ztb L xs) (zcall (ztb L xs) 2) 6 2 zk_X6_isType 0 [.ref 6, .int x1] [] (zHp s t) _
  refine zX_go (c := 4) (pc' := 4) (lv' := [.ref 6, .int x1]) (st' := [.int (nI 1), .int (nI 0), .int x1, .ref 6]) (h' := zHp s t) rfl ?_
  obtain ⟨q1, hq, hF⟩ := zbd_ok hF
  refine zX_inv (av := [.ref 6, .int x1, .int (nI 0), .int (nI 1)]) (st := []) (h' := zHp s t) rfl rfl rfl rfl rfl rfl (zcall_le (t_X6_isAmong M _ _ _ _ _ _ hq) (by decide)) ?_
  obtain ⟨hb, hF⟩ := zq_ok hF
  obtain rfl := Option.some.inj hF
  exact zX_retz rfl (by simpa using hb)
def f_X6_place (M : Nat) (t : zS) (x1 x2 : Int32) : Option (Int32 × zS) :=
  if x1 = 0 then
   if x2 = (-1) then
    if (t 12 0) = (nI 40) then
     some ((-3), t)
    else
     zq (zin (t 12 0) 40) <|
     zq (zin (t 12 0) 40) <|
     some (((t 12 0) + (nI 1)) - (nI 1), zup (zup (zup t 13 (t 12 0).toNatClampNeg x1) 14 (t 12 0).toNatClampNeg x2) 12 0 ((t 12 0) + (nI 1)))
   else
    zbd (f_X6_isAmong M t x2 (nI 0) (nI 0)) (fun q1 =>
     if q1 = 0 then
      some ((-2), t)
     else
      if (t 12 0) = (nI 40) then
       some ((-3), t)
      else
       zq (zin (t 12 0) 40) <|
       zq (zin (t 12 0) 40) <|
       some (((t 12 0) + (nI 1)) - (nI 1), zup (zup (zup t 13 (t 12 0).toNatClampNeg x1) 14 (t 12 0).toNatClampNeg x2) 12 0 ((t 12 0) + (nI 1))))
  else
   if x1 = (nI 1) then
    if x2 = (-1) then
     if (t 12 0) = (nI 40) then
      some ((-3), t)
     else
      zq (zin (t 12 0) 40) <|
      zq (zin (t 12 0) 40) <|
      some (((t 12 0) + (nI 1)) - (nI 1), zup (zup (zup t 13 (t 12 0).toNatClampNeg x1) 14 (t 12 0).toNatClampNeg x2) 12 0 ((t 12 0) + (nI 1)))
    else
     some ((-2), t)
   else
    if x1 < (nI 2) then
     if x1 = (nI 5) then
      zbd (f_X6_isAmong M t x2 (nI 3) (nI 4)) (fun q2 =>
       if q2 = 0 then
        some ((-2), t)
       else
        if (t 12 0) = (nI 40) then
         some ((-3), t)
        else
         zq (zin (t 12 0) 40) <|
         zq (zin (t 12 0) 40) <|
         some (((t 12 0) + (nI 1)) - (nI 1), zup (zup (zup t 13 (t 12 0).toNatClampNeg x1) 14 (t 12 0).toNatClampNeg x2) 12 0 ((t 12 0) + (nI 1))))
     else
      some ((-2), t)
    else
     if (nI 4) < x1 then
      if x1 = (nI 5) then
       zbd (f_X6_isAmong M t x2 (nI 3) (nI 4)) (fun q3 =>
        if q3 = 0 then
         some ((-2), t)
        else
         if (t 12 0) = (nI 40) then
          some ((-3), t)
         else
          zq (zin (t 12 0) 40) <|
          zq (zin (t 12 0) 40) <|
          some (((t 12 0) + (nI 1)) - (nI 1), zup (zup (zup t 13 (t 12 0).toNatClampNeg x1) 14 (t 12 0).toNatClampNeg x2) 12 0 ((t 12 0) + (nI 1))))
      else
       some ((-2), t)
     else
      zbd (f_X6_isType M t x2) (fun q4 =>
       if q4 = 0 then
        some ((-2), t)
       else
        if (t 12 0) = (nI 40) then
         some ((-3), t)
        else
         zq (zin (t 12 0) 40) <|
         zq (zin (t 12 0) 40) <|
         some (((t 12 0) + (nI 1)) - (nI 1), zup (zup (zup t 13 (t 12 0).toNatClampNeg x1) 14 (t 12 0).toNatClampNeg x2) 12 0 ((t 12 0) + (nI 1))))
set_option maxRecDepth 100000 in
set_option maxHeartbeats 4000000 in
theorem t_X6_place {L : Nat} {xs : Nat → Int32} (M : Nat) (s t : zS) (x1 x2 : Int32) (R : Int32 × zS) (hF : f_X6_place M t x1 x2 = some R) : zcall (ztb L xs) 4 102 [.ref 6, .int x1, .int x2] (zHp s t) = some (some (.int R.1), zHp s R.2) := by
  unfold f_X6_place at hF
  refine zcall_X (d := 3) (e := zm_X6_place) rfl rfl ?_
  show zX (ztb L xs) (zcall (ztb L xs) 3) 6 1 zk_X6_place 0 [.ref 6, .int x1, .int x2, .retAddr 0] [] (zHp s t) _
  refine zX_go (c := 2) (pc' := if x1 = 0 then 4 else 27) (lv' := [.ref 6, .int x1, .int x2, .retAddr 0]) (st' := []) (h' := zHp s t) rfl ?_
  refine zX_ite hF (fun c0 hF => ?_) (fun c0 hF => ?_)
  · refine zX_go (c := 3) (pc' := if x2 = (-1) then 19 else 9) (lv' := [.ref 6, .int x1, .int x2, .retAddr 0]) (st' := []) (h' := zHp s t) rfl ?_
    refine zX_ite hF (fun c0 hF => ?_) (fun c0 hF => ?_)
    · refine zX_go (c := 5) (pc' := if (nI 1) = 0 then 88 else 91) (lv' := [.ref 6, .int x1, .int x2, .int (nI 1)]) (st' := []) (h' := zHp s t) rfl ?_
      rw [if_neg (show ¬ ((nI 1) = 0) by decide)]
      refine zX_go (c := 4) (pc' := if (t 12 0) = (nI 40) then 100 else 103) (lv' := [.ref 6, .int x1, .int x2, .int (nI 1)]) (st' := []) (h' := zHp s t) rfl ?_
      refine zX_ite hF (fun c0 hF => ?_) (fun c0 hF => ?_)
      · refine zX_go (c := 1) (pc' := 102) (lv' := [.ref 6, .int x1, .int x2, .int (nI 1)]) (st' := [.int (-3)]) (h' := zHp s t) rfl ?_
        obtain rfl := Option.some.inj hF
        exact zX_reti rfl
      · refine zX_go (c := 5) (pc' := 112) (lv' := [.ref 6, .int x1, .int x2, .int (nI 1)]) (st' := [.int x1, .int (t 12 0), .ref 44]) (h' := zHp s t) rfl ?_
        refine zX_ias (n := 40) (h' := zHp s (zup t 13 (t 12 0).toNatClampNeg x1)) rfl rfl (zst_44 _ _ _ _) hF (fun hF => ?_)
        refine zX_go (c := 5) (pc' := 122) (lv' := [.ref 6, .int x1, .int x2, .int (nI 1)]) (st' := [.int x2, .int (t 12 0), .ref 45]) (h' := zHp s (zup t 13 (t 12 0).toNatClampNeg x1)) rfl ?_
        refine zX_ias (n := 40) (h' := zHp s (zup (zup t 13 (t 12 0).toNatClampNeg x1) 14 (t 12 0).toNatClampNeg x2)) rfl rfl (zst_45 _ _ _ _) hF (fun hF => ?_)
        refine zX_go (c := 5) (pc' := 130) (lv' := [.ref 6, .int x1, .int x2, .int (nI 1)]) (st' := [.int ((t 12 0) + (nI 1)), .ref 6]) (h' := zHp s (zup (zup t 13 (t 12 0).toNatClampNeg x1) 14 (t 12 0).toNatClampNeg x2)) rfl ?_
        refine zX_pfi (h' := zHp s (zup (zup (zup t 13 (t 12 0).toNatClampNeg x1) 14 (t 12 0).toNatClampNeg x2) 12 0 ((t 12 0) + (nI 1)))) rfl rfl rfl rfl (zst_6_12 _ _ _) ?_
        refine zX_go (c := 4) (pc' := 139) (lv' := [.ref 6, .int x1, .int x2, .int (nI 1)]) (st' := [.int (((t 12 0) + (nI 1)) - (nI 1))]) (h' := zHp s (zup (zup (zup t 13 (t 12 0).toNatClampNeg x1) 14 (t 12 0).toNatClampNeg x2) 12 0 ((t 12 0) + (nI 1)))) rfl ?_
        obtain rfl := Option.some.inj hF
        exact zX_reti rfl
    · refine zX_go (c := 4) (pc' := 13) (lv' := [.ref 6, .int x1, .int x2, .retAddr 0]) (st' := [.int (nI 0), .int (nI 0), .int x2, .ref 6]) (h' := zHp s t) rfl ?_
      obtain ⟨q1, hq, hF⟩ := zbd_ok hF
      refine zX_inv (av := [.ref 6, .int x2, .int (nI 0), .int (nI 0)]) (st := []) (h' := zHp s t) rfl rfl rfl rfl rfl rfl (zcall_le (t_X6_isAmong M _ _ _ _ _ _ hq) (by decide)) ?_
      refine zX_go (c := 1) (pc' := if q1 = 0 then 23 else 19) (lv' := [.ref 6, .int x1, .int x2, .retAddr 0]) (st' := []) (h' := zHp s t) rfl ?_
      refine zX_ite hF (fun c0 hF => ?_) (fun c0 hF => ?_)
      · refine zX_go (c := 5) (pc' := if (nI 0) = 0 then 88 else 91) (lv' := [.ref 6, .int x1, .int x2, .int (nI 0)]) (st' := []) (h' := zHp s t) rfl ?_
        rw [if_pos (show (nI 0) = 0 by decide)]
        refine zX_go (c := 1) (pc' := 90) (lv' := [.ref 6, .int x1, .int x2, .int (nI 0)]) (st' := [.int (-2)]) (h' := zHp s t) rfl ?_
        obtain rfl := Option.some.inj hF
        exact zX_reti rfl
      · refine zX_go (c := 5) (pc' := if (nI 1) = 0 then 88 else 91) (lv' := [.ref 6, .int x1, .int x2, .int (nI 1)]) (st' := []) (h' := zHp s t) rfl ?_
        rw [if_neg (show ¬ ((nI 1) = 0) by decide)]
        refine zX_go (c := 4) (pc' := if (t 12 0) = (nI 40) then 100 else 103) (lv' := [.ref 6, .int x1, .int x2, .int (nI 1)]) (st' := []) (h' := zHp s t) rfl ?_
        refine zX_ite hF (fun c0 hF => ?_) (fun c0 hF => ?_)
        · refine zX_go (c := 1) (pc' := 102) (lv' := [.ref 6, .int x1, .int x2, .int (nI 1)]) (st' := [.int (-3)]) (h' := zHp s t) rfl ?_
          obtain rfl := Option.some.inj hF
          exact zX_reti rfl
        · refine zX_go (c := 5) (pc' := 112) (lv' := [.ref 6, .int x1, .int x2, .int (nI 1)]) (st' := [.int x1, .int (t 12 0), .ref 44]) (h' := zHp s t) rfl ?_
          refine zX_ias (n := 40) (h' := zHp s (zup t 13 (t 12 0).toNatClampNeg x1)) rfl rfl (zst_44 _ _ _ _) hF (fun hF => ?_)
          refine zX_go (c := 5) (pc' := 122) (lv' := [.ref 6, .int x1, .int x2, .int (nI 1)]) (st' := [.int x2, .int (t 12 0), .ref 45]) (h' := zHp s (zup t 13 (t 12 0).toNatClampNeg x1)) rfl ?_
          refine zX_ias (n := 40) (h' := zHp s (zup (zup t 13 (t 12 0).toNatClampNeg x1) 14 (t 12 0).toNatClampNeg x2)) rfl rfl (zst_45 _ _ _ _) hF (fun hF => ?_)
          refine zX_go (c := 5) (pc' := 130) (lv' := [.ref 6, .int x1, .int x2, .int (nI 1)]) (st' := [.int ((t 12 0) + (nI 1)), .ref 6]) (h' := zHp s (zup (zup t 13 (t 12 0).toNatClampNeg x1) 14 (t 12 0).toNatClampNeg x2)) rfl ?_
          refine zX_pfi (h' := zHp s (zup (zup (zup t 13 (t 12 0).toNatClampNeg x1) 14 (t 12 0).toNatClampNeg x2) 12 0 ((t 12 0) + (nI 1)))) rfl rfl rfl rfl (zst_6_12 _ _ _) ?_
          refine zX_go (c := 4) (pc' := 139) (lv' := [.ref 6, .int x1, .int x2, .int (nI 1)]) (st' := [.int (((t 12 0) + (nI 1)) - (nI 1))]) (h' := zHp s (zup (zup (zup t 13 (t 12 0).toNatClampNeg x1) 14 (t 12 0).toNatClampNeg x2) 12 0 ((t 12 0) + (nI 1)))) rfl ?_
          obtain rfl := Option.some.inj hF
          exact zX_reti rfl
  · refine zX_go (c := 3) (pc' := if x1 = (nI 1) then 32 else 45) (lv' := [.ref 6, .int x1, .int x2, .retAddr 0]) (st' := []) (h' := zHp s t) rfl ?_
    refine zX_ite hF (fun c0 hF => ?_) (fun c0 hF => ?_)
    · refine zX_go (c := 3) (pc' := if x2 = (-1) then 37 else 41) (lv' := [.ref 6, .int x1, .int x2, .retAddr 0]) (st' := []) (h' := zHp s t) rfl ?_
      refine zX_ite hF (fun c0 hF => ?_) (fun c0 hF => ?_)
      · refine zX_go (c := 5) (pc' := if (nI 1) = 0 then 88 else 91) (lv' := [.ref 6, .int x1, .int x2, .int (nI 1)]) (st' := []) (h' := zHp s t) rfl ?_
        rw [if_neg (show ¬ ((nI 1) = 0) by decide)]
        refine zX_go (c := 4) (pc' := if (t 12 0) = (nI 40) then 100 else 103) (lv' := [.ref 6, .int x1, .int x2, .int (nI 1)]) (st' := []) (h' := zHp s t) rfl ?_
        refine zX_ite hF (fun c0 hF => ?_) (fun c0 hF => ?_)
        · refine zX_go (c := 1) (pc' := 102) (lv' := [.ref 6, .int x1, .int x2, .int (nI 1)]) (st' := [.int (-3)]) (h' := zHp s t) rfl ?_
          obtain rfl := Option.some.inj hF
          exact zX_reti rfl
        · refine zX_go (c := 5) (pc' := 112) (lv' := [.ref 6, .int x1, .int x2, .int (nI 1)]) (st' := [.int x1, .int (t 12 0), .ref 44]) (h' := zHp s t) rfl ?_
          refine zX_ias (n := 40) (h' := zHp s (zup t 13 (t 12 0).toNatClampNeg x1)) rfl rfl (zst_44 _ _ _ _) hF (fun hF => ?_)
          refine zX_go (c := 5) (pc' := 122) (lv' := [.ref 6, .int x1, .int x2, .int (nI 1)]) (st' := [.int x2, .int (t 12 0), .ref 45]) (h' := zHp s (zup t 13 (t 12 0).toNatClampNeg x1)) rfl ?_
          refine zX_ias (n := 40) (h' := zHp s (zup (zup t 13 (t 12 0).toNatClampNeg x1) 14 (t 12 0).toNatClampNeg x2)) rfl rfl (zst_45 _ _ _ _) hF (fun hF => ?_)
          refine zX_go (c := 5) (pc' := 130) (lv' := [.ref 6, .int x1, .int x2, .int (nI 1)]) (st' := [.int ((t 12 0) + (nI 1)), .ref 6]) (h' := zHp s (zup (zup t 13 (t 12 0).toNatClampNeg x1) 14 (t 12 0).toNatClampNeg x2)) rfl ?_
          refine zX_pfi (h' := zHp s (zup (zup (zup t 13 (t 12 0).toNatClampNeg x1) 14 (t 12 0).toNatClampNeg x2) 12 0 ((t 12 0) + (nI 1)))) rfl rfl rfl rfl (zst_6_12 _ _ _) ?_
          refine zX_go (c := 4) (pc' := 139) (lv' := [.ref 6, .int x1, .int x2, .int (nI 1)]) (st' := [.int (((t 12 0) + (nI 1)) - (nI 1))]) (h' := zHp s (zup (zup (zup t 13 (t 12 0).toNatClampNeg x1) 14 (t 12 0).toNatClampNeg x2) 12 0 ((t 12 0) + (nI 1)))) rfl ?_
          obtain rfl := Option.some.inj hF
          exact zX_reti rfl
      · refine zX_go (c := 5) (pc' := if (nI 0) = 0 then 88 else 91) (lv' := [.ref 6, .int x1, .int x2, .int (nI 0)]) (st' := []) (h' := zHp s t) rfl ?_
        rw [if_pos (show (nI 0) = 0 by decide)]
        refine zX_go (c := 1) (pc' := 90) (lv' := [.ref 6, .int x1, .int x2, .int (nI 0)]) (st' := [.int (-2)]) (h' := zHp s t) rfl ?_
        obtain rfl := Option.some.inj hF
        exact zX_reti rfl
    · refine zX_go (c := 3) (pc' := if x1 < (nI 2) then 63 else 50) (lv' := [.ref 6, .int x1, .int x2, .retAddr 0]) (st' := []) (h' := zHp s t) rfl ?_
      refine zX_ite hF (fun c0 hF => ?_) (fun c0 hF => ?_)
      · refine zX_go (c := 3) (pc' := if x1 = (nI 5) then 68 else 82) (lv' := [.ref 6, .int x1, .int x2, .retAddr 0]) (st' := []) (h' := zHp s t) rfl ?_
        refine zX_ite hF (fun c0 hF => ?_) (fun c0 hF => ?_)
        · refine zX_go (c := 4) (pc' := 72) (lv' := [.ref 6, .int x1, .int x2, .retAddr 0]) (st' := [.int (nI 4), .int (nI 3), .int x2, .ref 6]) (h' := zHp s t) rfl ?_
          obtain ⟨q2, hq, hF⟩ := zbd_ok hF
          refine zX_inv (av := [.ref 6, .int x2, .int (nI 3), .int (nI 4)]) (st := []) (h' := zHp s t) rfl rfl rfl rfl rfl rfl (zcall_le (t_X6_isAmong M _ _ _ _ _ _ hq) (by decide)) ?_
          refine zX_go (c := 1) (pc' := if q2 = 0 then 82 else 78) (lv' := [.ref 6, .int x1, .int x2, .retAddr 0]) (st' := []) (h' := zHp s t) rfl ?_
          refine zX_ite hF (fun c0 hF => ?_) (fun c0 hF => ?_)
          · refine zX_go (c := 4) (pc' := if (nI 0) = 0 then 88 else 91) (lv' := [.ref 6, .int x1, .int x2, .int (nI 0)]) (st' := []) (h' := zHp s t) rfl ?_
            rw [if_pos (show (nI 0) = 0 by decide)]
            refine zX_go (c := 1) (pc' := 90) (lv' := [.ref 6, .int x1, .int x2, .int (nI 0)]) (st' := [.int (-2)]) (h' := zHp s t) rfl ?_
            obtain rfl := Option.some.inj hF
            exact zX_reti rfl
          · refine zX_go (c := 5) (pc' := if (nI 1) = 0 then 88 else 91) (lv' := [.ref 6, .int x1, .int x2, .int (nI 1)]) (st' := []) (h' := zHp s t) rfl ?_
            rw [if_neg (show ¬ ((nI 1) = 0) by decide)]
            refine zX_go (c := 4) (pc' := if (t 12 0) = (nI 40) then 100 else 103) (lv' := [.ref 6, .int x1, .int x2, .int (nI 1)]) (st' := []) (h' := zHp s t) rfl ?_
            refine zX_ite hF (fun c0 hF => ?_) (fun c0 hF => ?_)
            · refine zX_go (c := 1) (pc' := 102) (lv' := [.ref 6, .int x1, .int x2, .int (nI 1)]) (st' := [.int (-3)]) (h' := zHp s t) rfl ?_
              obtain rfl := Option.some.inj hF
              exact zX_reti rfl
            · refine zX_go (c := 5) (pc' := 112) (lv' := [.ref 6, .int x1, .int x2, .int (nI 1)]) (st' := [.int x1, .int (t 12 0), .ref 44]) (h' := zHp s t) rfl ?_
              refine zX_ias (n := 40) (h' := zHp s (zup t 13 (t 12 0).toNatClampNeg x1)) rfl rfl (zst_44 _ _ _ _) hF (fun hF => ?_)
              refine zX_go (c := 5) (pc' := 122) (lv' := [.ref 6, .int x1, .int x2, .int (nI 1)]) (st' := [.int x2, .int (t 12 0), .ref 45]) (h' := zHp s (zup t 13 (t 12 0).toNatClampNeg x1)) rfl ?_
              refine zX_ias (n := 40) (h' := zHp s (zup (zup t 13 (t 12 0).toNatClampNeg x1) 14 (t 12 0).toNatClampNeg x2)) rfl rfl (zst_45 _ _ _ _) hF (fun hF => ?_)
              refine zX_go (c := 5) (pc' := 130) (lv' := [.ref 6, .int x1, .int x2, .int (nI 1)]) (st' := [.int ((t 12 0) + (nI 1)), .ref 6]) (h' := zHp s (zup (zup t 13 (t 12 0).toNatClampNeg x1) 14 (t 12 0).toNatClampNeg x2)) rfl ?_
              refine zX_pfi (h' := zHp s (zup (zup (zup t 13 (t 12 0).toNatClampNeg x1) 14 (t 12 0).toNatClampNeg x2) 12 0 ((t 12 0) + (nI 1)))) rfl rfl rfl rfl (zst_6_12 _ _ _) ?_
              refine zX_go (c := 4) (pc' := 139) (lv' := [.ref 6, .int x1, .int x2, .int (nI 1)]) (st' := [.int (((t 12 0) + (nI 1)) - (nI 1))]) (h' := zHp s (zup (zup (zup t 13 (t 12 0).toNatClampNeg x1) 14 (t 12 0).toNatClampNeg x2) 12 0 ((t 12 0) + (nI 1)))) rfl ?_
              obtain rfl := Option.some.inj hF
              exact zX_reti rfl
        · refine zX_go (c := 4) (pc' := if (nI 0) = 0 then 88 else 91) (lv' := [.ref 6, .int x1, .int x2, .int (nI 0)]) (st' := []) (h' := zHp s t) rfl ?_
          rw [if_pos (show (nI 0) = 0 by decide)]
          refine zX_go (c := 1) (pc' := 90) (lv' := [.ref 6, .int x1, .int x2, .int (nI 0)]) (st' := [.int (-2)]) (h' := zHp s t) rfl ?_
          obtain rfl := Option.some.inj hF
          exact zX_reti rfl
      · refine zX_go (c := 3) (pc' := if (nI 4) < x1 then 63 else 55) (lv' := [.ref 6, .int x1, .int x2, .retAddr 0]) (st' := []) (h' := zHp s t) rfl ?_
        refine zX_ite hF (fun c0 hF => ?_) (fun c0 hF => ?_)
        · refine zX_go (c := 3) (pc' := if x1 = (nI 5) then 68 else 82) (lv' := [.ref 6, .int x1, .int x2, .retAddr 0]) (st' := []) (h' := zHp s t) rfl ?_
          refine zX_ite hF (fun c0 hF => ?_) (fun c0 hF => ?_)
          · refine zX_go (c := 4) (pc' := 72) (lv' := [.ref 6, .int x1, .int x2, .retAddr 0]) (st' := [.int (nI 4), .int (nI 3), .int x2, .ref 6]) (h' := zHp s t) rfl ?_
            obtain ⟨q3, hq, hF⟩ := zbd_ok hF
            refine zX_inv (av := [.ref 6, .int x2, .int (nI 3), .int (nI 4)]) (st := []) (h' := zHp s t) rfl rfl rfl rfl rfl rfl (zcall_le (t_X6_isAmong M _ _ _ _ _ _ hq) (by decide)) ?_
            refine zX_go (c := 1) (pc' := if q3 = 0 then 82 else 78) (lv' := [.ref 6, .int x1, .int x2, .retAddr 0]) (st' := []) (h' := zHp s t) rfl ?_
            refine zX_ite hF (fun c0 hF => ?_) (fun c0 hF => ?_)
            · refine zX_go (c := 4) (pc' := if (nI 0) = 0 then 88 else 91) (lv' := [.ref 6, .int x1, .int x2, .int (nI 0)]) (st' := []) (h' := zHp s t) rfl ?_
              rw [if_pos (show (nI 0) = 0 by decide)]
              refine zX_go (c := 1) (pc' := 90) (lv' := [.ref 6, .int x1, .int x2, .int (nI 0)]) (st' := [.int (-2)]) (h' := zHp s t) rfl ?_
              obtain rfl := Option.some.inj hF
              exact zX_reti rfl
            · refine zX_go (c := 5) (pc' := if (nI 1) = 0 then 88 else 91) (lv' := [.ref 6, .int x1, .int x2, .int (nI 1)]) (st' := []) (h' := zHp s t) rfl ?_
              rw [if_neg (show ¬ ((nI 1) = 0) by decide)]
              refine zX_go (c := 4) (pc' := if (t 12 0) = (nI 40) then 100 else 103) (lv' := [.ref 6, .int x1, .int x2, .int (nI 1)]) (st' := []) (h' := zHp s t) rfl ?_
              refine zX_ite hF (fun c0 hF => ?_) (fun c0 hF => ?_)
              · refine zX_go (c := 1) (pc' := 102) (lv' := [.ref 6, .int x1, .int x2, .int (nI 1)]) (st' := [.int (-3)]) (h' := zHp s t) rfl ?_
                obtain rfl := Option.some.inj hF
                exact zX_reti rfl
              · refine zX_go (c := 5) (pc' := 112) (lv' := [.ref 6, .int x1, .int x2, .int (nI 1)]) (st' := [.int x1, .int (t 12 0), .ref 44]) (h' := zHp s t) rfl ?_
                refine zX_ias (n := 40) (h' := zHp s (zup t 13 (t 12 0).toNatClampNeg x1)) rfl rfl (zst_44 _ _ _ _) hF (fun hF => ?_)
                refine zX_go (c := 5) (pc' := 122) (lv' := [.ref 6, .int x1, .int x2, .int (nI 1)]) (st' := [.int x2, .int (t 12 0), .ref 45]) (h' := zHp s (zup t 13 (t 12 0).toNatClampNeg x1)) rfl ?_
                refine zX_ias (n := 40) (h' := zHp s (zup (zup t 13 (t 12 0).toNatClampNeg x1) 14 (t 12 0).toNatClampNeg x2)) rfl rfl (zst_45 _ _ _ _) hF (fun hF => ?_)
                refine zX_go (c := 5) (pc' := 130) (lv' := [.ref 6, .int x1, .int x2, .int (nI 1)]) (st' := [.int ((t 12 0) + (nI 1)), .ref 6]) (h' := zHp s (zup (zup t 13 (t 12 0).toNatClampNeg x1) 14 (t 12 0).toNatClampNeg x2)) rfl ?_
                refine zX_pfi (h' := zHp s (zup (zup (zup t 13 (t 12 0).toNatClampNeg x1) 14 (t 12 0).toNatClampNeg x2) 12 0 ((t 12 0) + (nI 1)))) rfl rfl rfl rfl (zst_6_12 _ _ _) ?_
                refine zX_go (c := 4) (pc' := 139) (lv' := [.ref 6, .int x1, .int x2, .int (nI 1)]) (st' := [.int (((t 12 0) + (nI 1)) - (nI 1))]) (h' := zHp s (zup (zup (zup t 13 (t 12 0).toNatClampNeg x1) 14 (t 12 0).toNatClampNeg x2) 12 0 ((t 12 0) + (nI 1)))) rfl ?_
                obtain rfl := Option.some.inj hF
                exact zX_reti rfl
          · refine zX_go (c := 4) (pc' := if (nI 0) = 0 then 88 else 91) (lv' := [.ref 6, .int x1, .int x2, .int (nI 0)]) (st' := []) (h' := zHp s t) rfl ?_
            rw [if_pos (show (nI 0) = 0 by decide)]
            refine zX_go (c := 1) (pc' := 90) (lv' := [.ref 6, .int x1, .int x2, .int (nI 0)]) (st' := [.int (-2)]) (h' := zHp s t) rfl ?_
            obtain rfl := Option.some.inj hF
            exact zX_reti rfl
        · refine zX_go (c := 2) (pc' := 57) (lv' := [.ref 6, .int x1, .int x2, .retAddr 0]) (st' := [.int x2, .ref 6]) (h' := zHp s t) rfl ?_
          obtain ⟨q4, hq, hF⟩ := zbd_ok hF
          refine zX_inv (av := [.ref 6, .int x2]) (st := []) (h' := zHp s t) rfl rfl rfl rfl rfl rfl (zcall_le (t_X6_isType M _ _ _ _ hq) (by decide)) ?_
          refine zX_go (c := 4) (pc' := if q4 = 0 then 88 else 91) (lv' := [.ref 6, .int x1, .int x2, .int q4]) (st' := []) (h' := zHp s t) rfl ?_
          refine zX_ite hF (fun c0 hF => ?_) (fun c0 hF => ?_)
          · refine zX_go (c := 1) (pc' := 90) (lv' := [.ref 6, .int x1, .int x2, .int q4]) (st' := [.int (-2)]) (h' := zHp s t) rfl ?_
            obtain rfl := Option.some.inj hF
            exact zX_reti rfl
          · refine zX_go (c := 4) (pc' := if (t 12 0) = (nI 40) then 100 else 103) (lv' := [.ref 6, .int x1, .int x2, .int q4]) (st' := []) (h' := zHp s t) rfl ?_
            refine zX_ite hF (fun c0 hF => ?_) (fun c0 hF => ?_)
            · refine zX_go (c := 1) (pc' := 102) (lv' := [.ref 6, .int x1, .int x2, .int q4]) (st' := [.int (-3)]) (h' := zHp s t) rfl ?_
              obtain rfl := Option.some.inj hF
              exact zX_reti rfl
            · refine zX_go (c := 5) (pc' := 112) (lv' := [.ref 6, .int x1, .int x2, .int q4]) (st' := [.int x1, .int (t 12 0), .ref 44]) (h' := zHp s t) rfl ?_
              refine zX_ias (n := 40) (h' := zHp s (zup t 13 (t 12 0).toNatClampNeg x1)) rfl rfl (zst_44 _ _ _ _) hF (fun hF => ?_)
              refine zX_go (c := 5) (pc' := 122) (lv' := [.ref 6, .int x1, .int x2, .int q4]) (st' := [.int x2, .int (t 12 0), .ref 45]) (h' := zHp s (zup t 13 (t 12 0).toNatClampNeg x1)) rfl ?_
              refine zX_ias (n := 40) (h' := zHp s (zup (zup t 13 (t 12 0).toNatClampNeg x1) 14 (t 12 0).toNatClampNeg x2)) rfl rfl (zst_45 _ _ _ _) hF (fun hF => ?_)
              refine zX_go (c := 5) (pc' := 130) (lv' := [.ref 6, .int x1, .int x2, .int q4]) (st' := [.int ((t 12 0) + (nI 1)), .ref 6]) (h' := zHp s (zup (zup t 13 (t 12 0).toNatClampNeg x1) 14 (t 12 0).toNatClampNeg x2)) rfl ?_
              refine zX_pfi (h' := zHp s (zup (zup (zup t 13 (t 12 0).toNatClampNeg x1) 14 (t 12 0).toNatClampNeg x2) 12 0 ((t 12 0) + (nI 1)))) rfl rfl rfl rfl (zst_6_12 _ _ _) ?_
              refine zX_go (c := 4) (pc' := 139) (lv' := [.ref 6, .int x1, .int x2, .int q4]) (st' := [.int (((t 12 0) + (nI 1)) - (nI 1))]) (h' := zHp s (zup (zup (zup t 13 (t 12 0).toNatClampNeg x1) 14 (t 12 0).toNatClampNeg x2) 12 0 ((t 12 0) + (nI 1)))) rfl ?_
              obtain rfl := Option.some.inj hF
              exact zX_reti rfl
def f_X6_isValue (M : Nat) (t : zS) (x1 : Int32) : Option (Int32) :=
  if x1 < 0 then
   some (nI 0)
  else
   if x1 < (t 15 0) then
    some (nI 1)
   else
    some (nI 0)
set_option maxRecDepth 100000 in
set_option maxHeartbeats 4000000 in
theorem t_X6_isValue {L : Nat} {xs : Nat → Int32} (M : Nat) (s t : zS) (x1 : Int32) (R : Int32) (hF : f_X6_isValue M t x1 = some R) : zcall (ztb L xs) 1 103 [.ref 6, .int x1] (zHp s t) = some (some (.int R), zHp s t) := by
  unfold f_X6_isValue at hF
  refine zcall_X (d := 0) (e := zm_X6_isValue) rfl rfl ?_
  show zX (ztb L xs) (zcall (ztb L xs) 0) 6 2 zk_X6_isValue 0 [.ref 6, .int x1] [] (zHp s t) _
  refine zX_go (c := 2) (pc' := if x1 < 0 then 16 else 4) (lv' := [.ref 6, .int x1]) (st' := []) (h' := zHp s t) rfl ?_
  refine zX_ite hF (fun c0 hF => ?_) (fun c0 hF => ?_)
  · refine zX_go (c := 1) (pc' := 17) (lv' := [.ref 6, .int x1]) (st' := [.int (nI 0)]) (h' := zHp s t) rfl ?_
    obtain rfl := Option.some.inj hF
    exact zX_retz rfl (by decide)
  · refine zX_go (c := 4) (pc' := if x1 < (t 15 0) then 12 else 16) (lv' := [.ref 6, .int x1]) (st' := []) (h' := zHp s t) rfl ?_
    refine zX_ite hF (fun c0 hF => ?_) (fun c0 hF => ?_)
    · refine zX_go (c := 2) (pc' := 17) (lv' := [.ref 6, .int x1]) (st' := [.int (nI 1)]) (h' := zHp s t) rfl ?_
      obtain rfl := Option.some.inj hF
      exact zX_retz rfl (by decide)
    · refine zX_go (c := 1) (pc' := 17) (lv' := [.ref 6, .int x1]) (st' := [.int (nI 0)]) (h' := zHp s t) rfl ?_
      obtain rfl := Option.some.inj hF
      exact zX_retz rfl (by decide)
def f_X6_isSort (M : Nat) (t : zS) (x1 x2 : Int32) : Option (Int32) :=
  zbd (f_X6_isValue M t x1) (fun q1 =>
   if q1 = 0 then
    some (nI 0)
   else
    zq (zin x1 100) <|
    if (t 16 x1.toNatClampNeg) = x2 then
     some (nI 1)
    else
     some (nI 0))
set_option maxRecDepth 100000 in
set_option maxHeartbeats 4000000 in
theorem t_X6_isSort {L : Nat} {xs : Nat → Int32} (M : Nat) (s t : zS) (x1 x2 : Int32) (R : Int32) (hF : f_X6_isSort M t x1 x2 = some R) : zcall (ztb L xs) 2 104 [.ref 6, .int x1, .int x2] (zHp s t) = some (some (.int R), zHp s t) := by
  unfold f_X6_isSort at hF
  refine zcall_X (d := 1) (e := zm_X6_isSort) rfl rfl ?_
  show zX (ztb L xs) (zcall (ztb L xs) 1) 6 2 zk_X6_isSort 0 [.ref 6, .int x1, .int x2] [] (zHp s t) _
  refine zX_go (c := 2) (pc' := 2) (lv' := [.ref 6, .int x1, .int x2]) (st' := [.int x1, .ref 6]) (h' := zHp s t) rfl ?_
  obtain ⟨q1, hq, hF⟩ := zbd_ok hF
  refine zX_inv (av := [.ref 6, .int x1]) (st := []) (h' := zHp s t) rfl rfl rfl rfl rfl rfl (zcall_le (t_X6_isValue M _ _ _ _ hq) (by decide)) ?_
  refine zX_go (c := 1) (pc' := if q1 = 0 then 22 else 8) (lv' := [.ref 6, .int x1, .int x2]) (st' := []) (h' := zHp s t) rfl ?_
  refine zX_ite hF (fun c0 hF => ?_) (fun c0 hF => ?_)
  · refine zX_go (c := 1) (pc' := 23) (lv' := [.ref 6, .int x1, .int x2]) (st' := [.int (nI 0)]) (h' := zHp s t) rfl ?_
    obtain rfl := Option.some.inj hF
    exact zX_retz rfl (by decide)
  · refine zX_go (c := 3) (pc' := 13) (lv' := [.ref 6, .int x1, .int x2]) (st' := [.int x1, .ref 46]) (h' := zHp s t) rfl ?_
    refine zX_ial (n := 100) rfl rfl hF (fun hF => ?_)
    refine zX_go (c := 2) (pc' := if (t 16 x1.toNatClampNeg) = x2 then 18 else 22) (lv' := [.ref 6, .int x1, .int x2]) (st' := []) (h' := zHp s t) rfl ?_
    refine zX_ite hF (fun c0 hF => ?_) (fun c0 hF => ?_)
    · refine zX_go (c := 2) (pc' := 23) (lv' := [.ref 6, .int x1, .int x2]) (st' := [.int (nI 1)]) (h' := zHp s t) rfl ?_
      obtain rfl := Option.some.inj hF
      exact zX_retz rfl (by decide)
    · refine zX_go (c := 1) (pc' := 23) (lv' := [.ref 6, .int x1, .int x2]) (st' := [.int (nI 0)]) (h' := zHp s t) rfl ?_
      obtain rfl := Option.some.inj hF
      exact zX_retz rfl (by decide)
def l_X6_added (M : Nat) : Nat → zS → Int32 → Option (Int32 × zS)
  | 0, _, _ => none
  | N + 1, t, y4 =>
    if y4 < (nI 5) then
     zq (zin (((nI 5) * (t 15 0)) + y4) 500) <|
     l_X6_added M N (zup t 20 (((nI 5) * (t 15 0)) + y4).toNatClampNeg (-1)) (y4 + (nI 1))
    else
     some (((t 15 0) + (nI 1)) - (nI 1), zup t 15 0 ((t 15 0) + (nI 1)))
set_option maxRecDepth 100000 in
set_option maxHeartbeats 4000000 in
theorem tl_X6_added {L : Nat} {xs : Nat → Int32} (M : Nat) (s : zS) : ∀ (N : Nat) (t : zS) (y4 : Int32) (R : Int32 × zS) (u1 : Int32) (u2 : Int32) (u3 : Int32) (hF : l_X6_added M N t y4 = some R), zX (ztb L xs) (zcall (ztb L xs) 0) 6 1 zk_X6_added 43 [.ref 6, .int u1, .int u2, .int u3, .int y4] [] (zHp s t) (some (.int R.1), zHp s R.2) := by
  intro N
  induction N with
  | zero => intro t y4 R u1 u2 u3 hF; cases hF
  | succ N ih =>
    intro t y4 R u1 u2 u3 hF
    unfold l_X6_added at hF
    refine zX_go (c := 3) (pc' := if y4 < (nI 5) then 49 else 70) (lv' := [.ref 6, .int u1, .int u2, .int u3, .int y4]) (st' := []) (h' := zHp s t) rfl ?_
    refine zX_ite hF (fun c0 hF => ?_) (fun c0 hF => ?_)
    · refine zX_go (c := 9) (pc' := 63) (lv' := [.ref 6, .int u1, .int u2, .int u3, .int y4]) (st' := [.int (-1), .int (((nI 5) * (t 15 0)) + y4), .ref 50]) (h' := zHp s t) rfl ?_
      refine zX_ias (n := 500) (h' := zHp s (zup t 20 (((nI 5) * (t 15 0)) + y4).toNatClampNeg (-1))) rfl rfl (zst_50 _ _ _ _) hF (fun hF => ?_)
      refine zX_go (c := 2) (pc' := 43) (lv' := [.ref 6, .int u1, .int u2, .int u3, .int (y4 + (nI 1))]) (st' := []) (h' := zHp s (zup t 20 (((nI 5) * (t 15 0)) + y4).toNatClampNeg (-1))) rfl ?_
      exact ih (zup t 20 (((nI 5) * (t 15 0)) + y4).toNatClampNeg (-1)) (y4 + (nI 1)) _ u1 u2 u3 hF
    · refine zX_go (c := 5) (pc' := 77) (lv' := [.ref 6, .int u1, .int u2, .int u3, .int y4]) (st' := [.int ((t 15 0) + (nI 1)), .ref 6]) (h' := zHp s t) rfl ?_
      refine zX_pfi (h' := zHp s (zup t 15 0 ((t 15 0) + (nI 1)))) rfl rfl rfl rfl (zst_6_15 _ _ _) ?_
      refine zX_go (c := 4) (pc' := 86) (lv' := [.ref 6, .int u1, .int u2, .int u3, .int y4]) (st' := [.int (((t 15 0) + (nI 1)) - (nI 1))]) (h' := zHp s (zup t 15 0 ((t 15 0) + (nI 1)))) rfl ?_
      obtain rfl := Option.some.inj hF
      exact zX_reti rfl
def f_X6_added (M : Nat) (t : zS) (x1 x2 x3 : Int32) : Option (Int32 × zS) :=
  zq (zin (t 15 0) 100) <|
  zq (zin (t 15 0) 100) <|
  zq (zin (t 15 0) 100) <|
  zq (zin (t 15 0) 100) <|
  l_X6_added M M (zup (zup (zup (zup t 16 (t 15 0).toNatClampNeg x1) 17 (t 15 0).toNatClampNeg x2) 18 (t 15 0).toNatClampNeg x3) 19 (t 15 0).toNatClampNeg (zbn 1 (nI 0))) (nI 0)
set_option maxRecDepth 100000 in
set_option maxHeartbeats 4000000 in
theorem t_X6_added {L : Nat} {xs : Nat → Int32} (M : Nat) (s t : zS) (x1 x2 x3 : Int32) (R : Int32 × zS) (hF : f_X6_added M t x1 x2 x3 = some R) : zcall (ztb L xs) 1 105 [.ref 6, .int x1, .int x2, .int x3] (zHp s t) = some (some (.int R.1), zHp s R.2) := by
  unfold f_X6_added at hF
  refine zcall_X (d := 0) (e := zm_X6_added) rfl rfl ?_
  show zX (ztb L xs) (zcall (ztb L xs) 0) 6 1 zk_X6_added 0 [.ref 6, .int x1, .int x2, .int x3, .retAddr 0] [] (zHp s t) _
  refine zX_go (c := 5) (pc' := 9) (lv' := [.ref 6, .int x1, .int x2, .int x3, .retAddr 0]) (st' := [.int x1, .int (t 15 0), .ref 46]) (h' := zHp s t) rfl ?_
  refine zX_ias (n := 100) (h' := zHp s (zup t 16 (t 15 0).toNatClampNeg x1)) rfl rfl (zst_46 _ _ _ _) hF (fun hF => ?_)
  refine zX_go (c := 5) (pc' := 19) (lv' := [.ref 6, .int x1, .int x2, .int x3, .retAddr 0]) (st' := [.int x2, .int (t 15 0), .ref 47]) (h' := zHp s (zup t 16 (t 15 0).toNatClampNeg x1)) rfl ?_
  refine zX_ias (n := 100) (h' := zHp s (zup (zup t 16 (t 15 0).toNatClampNeg x1) 17 (t 15 0).toNatClampNeg x2)) rfl rfl (zst_47 _ _ _ _) hF (fun hF => ?_)
  refine zX_go (c := 5) (pc' := 29) (lv' := [.ref 6, .int x1, .int x2, .int x3, .retAddr 0]) (st' := [.int x3, .int (t 15 0), .ref 48]) (h' := zHp s (zup (zup t 16 (t 15 0).toNatClampNeg x1) 17 (t 15 0).toNatClampNeg x2)) rfl ?_
  refine zX_ias (n := 100) (h' := zHp s (zup (zup (zup t 16 (t 15 0).toNatClampNeg x1) 17 (t 15 0).toNatClampNeg x2) 18 (t 15 0).toNatClampNeg x3)) rfl rfl (zst_48 _ _ _ _) hF (fun hF => ?_)
  refine zX_go (c := 5) (pc' := 39) (lv' := [.ref 6, .int x1, .int x2, .int x3, .retAddr 0]) (st' := [.int (nI 0), .int (t 15 0), .ref 49]) (h' := zHp s (zup (zup (zup t 16 (t 15 0).toNatClampNeg x1) 17 (t 15 0).toNatClampNeg x2) 18 (t 15 0).toNatClampNeg x3)) rfl ?_
  refine zX_bas (n := 100) (h' := zHp s (zup (zup (zup (zup t 16 (t 15 0).toNatClampNeg x1) 17 (t 15 0).toNatClampNeg x2) 18 (t 15 0).toNatClampNeg x3) 19 (t 15 0).toNatClampNeg (zbn 1 (nI 0)))) rfl rfl (zst_49 _ _ _ _) hF (fun hF => ?_)
  refine zX_go (c := 2) (pc' := 43) (lv' := [.ref 6, .int x1, .int x2, .int x3, .int (nI 0)]) (st' := []) (h' := zHp s (zup (zup (zup (zup t 16 (t 15 0).toNatClampNeg x1) 17 (t 15 0).toNatClampNeg x2) 18 (t 15 0).toNatClampNeg x3) 19 (t 15 0).toNatClampNeg (zbn 1 (nI 0)))) rfl ?_
  exact tl_X6_added M s M (zup (zup (zup (zup t 16 (t 15 0).toNatClampNeg x1) 17 (t 15 0).toNatClampNeg x2) 18 (t 15 0).toNatClampNeg x3) 19 (t 15 0).toNatClampNeg (zbn 1 (nI 0))) (nI 0) _ x1 x2 x3 hF
def f_X6_value (M : Nat) (t : zS) (x1 x2 : Int32) : Option (Int32 × zS) :=
  if x1 = 0 then
   if (t 15 0) = (nI 100) then
    some ((-3), t)
   else
    zbd (f_X6_added M t (nI 0) x1 x2) (fun q1 =>
     some (q1.1, q1.2))
  else
   if x1 = (nI 1) then
    if x2 < 0 then
     if x1 = (nI 2) then
      if x2 < 0 then
       if x1 = (nI 3) then
        zbd (f_X6_isType M t x2) (fun q2 =>
         if q2 = 0 then
          some ((-2), t)
         else
          if (t 15 0) = (nI 100) then
           some ((-3), t)
          else
           zbd (f_X6_added M t (nI 0) x1 x2) (fun q3 =>
            some (q3.1, q3.2)))
       else
        some ((-2), t)
      else
       if (nI 4) < x2 then
        if x1 = (nI 3) then
         zbd (f_X6_isType M t x2) (fun q4 =>
          if q4 = 0 then
           some ((-2), t)
          else
           if (t 15 0) = (nI 100) then
            some ((-3), t)
           else
            zbd (f_X6_added M t (nI 0) x1 x2) (fun q5 =>
             some (q5.1, q5.2)))
        else
         some ((-2), t)
       else
        if (t 15 0) = (nI 100) then
         some ((-3), t)
        else
         zbd (f_X6_added M t (nI 0) x1 x2) (fun q6 =>
          some (q6.1, q6.2))
     else
      if x1 = (nI 3) then
       zbd (f_X6_isType M t x2) (fun q7 =>
        if q7 = 0 then
         some ((-2), t)
        else
         if (t 15 0) = (nI 100) then
          some ((-3), t)
         else
          zbd (f_X6_added M t (nI 0) x1 x2) (fun q8 =>
           some (q8.1, q8.2)))
      else
       some ((-2), t)
    else
     if (nI 99) < x2 then
      if x1 = (nI 2) then
       if x2 < 0 then
        if x1 = (nI 3) then
         zbd (f_X6_isType M t x2) (fun q9 =>
          if q9 = 0 then
           some ((-2), t)
          else
           if (t 15 0) = (nI 100) then
            some ((-3), t)
           else
            zbd (f_X6_added M t (nI 0) x1 x2) (fun q10 =>
             some (q10.1, q10.2)))
        else
         some ((-2), t)
       else
        if (nI 4) < x2 then
         if x1 = (nI 3) then
          zbd (f_X6_isType M t x2) (fun q11 =>
           if q11 = 0 then
            some ((-2), t)
           else
            if (t 15 0) = (nI 100) then
             some ((-3), t)
            else
             zbd (f_X6_added M t (nI 0) x1 x2) (fun q12 =>
              some (q12.1, q12.2)))
         else
          some ((-2), t)
        else
         if (t 15 0) = (nI 100) then
          some ((-3), t)
         else
          zbd (f_X6_added M t (nI 0) x1 x2) (fun q13 =>
           some (q13.1, q13.2))
      else
       if x1 = (nI 3) then
        zbd (f_X6_isType M t x2) (fun q14 =>
         if q14 = 0 then
          some ((-2), t)
         else
          if (t 15 0) = (nI 100) then
           some ((-3), t)
          else
           zbd (f_X6_added M t (nI 0) x1 x2) (fun q15 =>
            some (q15.1, q15.2)))
       else
        some ((-2), t)
     else
      if (t 15 0) = (nI 100) then
       some ((-3), t)
      else
       zbd (f_X6_added M t (nI 0) x1 x2) (fun q16 =>
        some (q16.1, q16.2))
   else
    if x1 = (nI 2) then
     if x2 < 0 then
      if x1 = (nI 3) then
       zbd (f_X6_isType M t x2) (fun q17 =>
        if q17 = 0 then
         some ((-2), t)
        else
         if (t 15 0) = (nI 100) then
          some ((-3), t)
         else
          zbd (f_X6_added M t (nI 0) x1 x2) (fun q18 =>
           some (q18.1, q18.2)))
      else
       some ((-2), t)
     else
      if (nI 4) < x2 then
       if x1 = (nI 3) then
        zbd (f_X6_isType M t x2) (fun q19 =>
         if q19 = 0 then
          some ((-2), t)
         else
          if (t 15 0) = (nI 100) then
           some ((-3), t)
          else
           zbd (f_X6_added M t (nI 0) x1 x2) (fun q20 =>
            some (q20.1, q20.2)))
       else
        some ((-2), t)
      else
       if (t 15 0) = (nI 100) then
        some ((-3), t)
       else
        zbd (f_X6_added M t (nI 0) x1 x2) (fun q21 =>
         some (q21.1, q21.2))
    else
     if x1 = (nI 3) then
      zbd (f_X6_isType M t x2) (fun q22 =>
       if q22 = 0 then
        some ((-2), t)
       else
        if (t 15 0) = (nI 100) then
         some ((-3), t)
        else
         zbd (f_X6_added M t (nI 0) x1 x2) (fun q23 =>
          some (q23.1, q23.2)))
     else
      some ((-2), t)
set_option maxRecDepth 100000 in
set_option maxHeartbeats 4000000 in
theorem t_X6_value {L : Nat} {xs : Nat → Int32} (M : Nat) (s t : zS) (x1 x2 : Int32) (R : Int32 × zS) (hF : f_X6_value M t x1 x2 = some R) : zcall (ztb L xs) 4 106 [.ref 6, .int x1, .int x2] (zHp s t) = some (some (.int R.1), zHp s R.2) := by
  unfold f_X6_value at hF
  refine zcall_X (d := 3) (e := zm_X6_value) rfl rfl ?_
  show zX (ztb L xs) (zcall (ztb L xs) 3) 6 1 zk_X6_value 0 [.ref 6, .int x1, .int x2, .retAddr 0] [] (zHp s t) _
  refine zX_go (c := 2) (pc' := if x1 = 0 then 46 else 4) (lv' := [.ref 6, .int x1, .int x2, .retAddr 0]) (st' := []) (h' := zHp s t) rfl ?_
  refine zX_ite hF (fun c0 hF => ?_) (fun c0 hF => ?_)
  · refine zX_go (c := 5) (pc' := if (nI 1) = 0 then 56 else 59) (lv' := [.ref 6, .int x1, .int x2, .int (nI 1)]) (st' := []) (h' := zHp s t) rfl ?_
    rw [if_neg (show ¬ ((nI 1) = 0) by decide)]
    refine zX_go (c := 4) (pc' := if (t 15 0) = (nI 100) then 68 else 73) (lv' := [.ref 6, .int x1, .int x2, .int (nI 1)]) (st' := []) (h' := zHp s t) rfl ?_
    refine zX_ite hF (fun c0 hF => ?_) (fun c0 hF => ?_)
    · refine zX_go (c := 2) (pc' := 80) (lv' := [.ref 6, .int x1, .int x2, .int (nI 1)]) (st' := [.int (-3)]) (h' := zHp s t) rfl ?_
      obtain rfl := Option.some.inj hF
      exact zX_reti rfl
    · refine zX_go (c := 4) (pc' := 77) (lv' := [.ref 6, .int x1, .int x2, .int (nI 1)]) (st' := [.int x2, .int x1, .int (nI 0), .ref 6]) (h' := zHp s t) rfl ?_
      obtain ⟨q1, hq, hF⟩ := zbd_ok hF
      refine zX_inv (av := [.ref 6, .int (nI 0), .int x1, .int x2]) (st := []) (h' := zHp s q1.2) rfl rfl rfl rfl rfl rfl (zcall_le (t_X6_added M _ _ _ _ _ _ hq) (by decide)) ?_
      obtain rfl := Option.some.inj hF
      exact zX_reti rfl
  · refine zX_go (c := 3) (pc' := if x1 = (nI 1) then 9 else 19) (lv' := [.ref 6, .int x1, .int x2, .retAddr 0]) (st' := []) (h' := zHp s t) rfl ?_
    refine zX_ite hF (fun c0 hF => ?_) (fun c0 hF => ?_)
    · refine zX_go (c := 2) (pc' := if x2 < 0 then 19 else 13) (lv' := [.ref 6, .int x1, .int x2, .retAddr 0]) (st' := []) (h' := zHp s t) rfl ?_
      refine zX_ite hF (fun c0 hF => ?_) (fun c0 hF => ?_)
      · refine zX_go (c := 3) (pc' := if x1 = (nI 2) then 24 else 33) (lv' := [.ref 6, .int x1, .int x2, .retAddr 0]) (st' := []) (h' := zHp s t) rfl ?_
        refine zX_ite hF (fun c0 hF => ?_) (fun c0 hF => ?_)
        · refine zX_go (c := 2) (pc' := if x2 < 0 then 33 else 28) (lv' := [.ref 6, .int x1, .int x2, .retAddr 0]) (st' := []) (h' := zHp s t) rfl ?_
          refine zX_ite hF (fun c0 hF => ?_) (fun c0 hF => ?_)
          · refine zX_go (c := 3) (pc' := if x1 = (nI 3) then 38 else 50) (lv' := [.ref 6, .int x1, .int x2, .retAddr 0]) (st' := []) (h' := zHp s t) rfl ?_
            refine zX_ite hF (fun c0 hF => ?_) (fun c0 hF => ?_)
            · refine zX_go (c := 2) (pc' := 40) (lv' := [.ref 6, .int x1, .int x2, .retAddr 0]) (st' := [.int x2, .ref 6]) (h' := zHp s t) rfl ?_
              obtain ⟨q2, hq, hF⟩ := zbd_ok hF
              refine zX_inv (av := [.ref 6, .int x2]) (st := []) (h' := zHp s t) rfl rfl rfl rfl rfl rfl (zcall_le (t_X6_isType M _ _ _ _ hq) (by decide)) ?_
              refine zX_go (c := 1) (pc' := if q2 = 0 then 50 else 46) (lv' := [.ref 6, .int x1, .int x2, .retAddr 0]) (st' := []) (h' := zHp s t) rfl ?_
              refine zX_ite hF (fun c0 hF => ?_) (fun c0 hF => ?_)
              · refine zX_go (c := 4) (pc' := if (nI 0) = 0 then 56 else 59) (lv' := [.ref 6, .int x1, .int x2, .int (nI 0)]) (st' := []) (h' := zHp s t) rfl ?_
                rw [if_pos (show (nI 0) = 0 by decide)]
                refine zX_go (c := 1) (pc' := 58) (lv' := [.ref 6, .int x1, .int x2, .int (nI 0)]) (st' := [.int (-2)]) (h' := zHp s t) rfl ?_
                obtain rfl := Option.some.inj hF
                exact zX_reti rfl
              · refine zX_go (c := 5) (pc' := if (nI 1) = 0 then 56 else 59) (lv' := [.ref 6, .int x1, .int x2, .int (nI 1)]) (st' := []) (h' := zHp s t) rfl ?_
                rw [if_neg (show ¬ ((nI 1) = 0) by decide)]
                refine zX_go (c := 4) (pc' := if (t 15 0) = (nI 100) then 68 else 73) (lv' := [.ref 6, .int x1, .int x2, .int (nI 1)]) (st' := []) (h' := zHp s t) rfl ?_
                refine zX_ite hF (fun c0 hF => ?_) (fun c0 hF => ?_)
                · refine zX_go (c := 2) (pc' := 80) (lv' := [.ref 6, .int x1, .int x2, .int (nI 1)]) (st' := [.int (-3)]) (h' := zHp s t) rfl ?_
                  obtain rfl := Option.some.inj hF
                  exact zX_reti rfl
                · refine zX_go (c := 4) (pc' := 77) (lv' := [.ref 6, .int x1, .int x2, .int (nI 1)]) (st' := [.int x2, .int x1, .int (nI 0), .ref 6]) (h' := zHp s t) rfl ?_
                  obtain ⟨q3, hq, hF⟩ := zbd_ok hF
                  refine zX_inv (av := [.ref 6, .int (nI 0), .int x1, .int x2]) (st := []) (h' := zHp s q3.2) rfl rfl rfl rfl rfl rfl (zcall_le (t_X6_added M _ _ _ _ _ _ hq) (by decide)) ?_
                  obtain rfl := Option.some.inj hF
                  exact zX_reti rfl
            · refine zX_go (c := 4) (pc' := if (nI 0) = 0 then 56 else 59) (lv' := [.ref 6, .int x1, .int x2, .int (nI 0)]) (st' := []) (h' := zHp s t) rfl ?_
              rw [if_pos (show (nI 0) = 0 by decide)]
              refine zX_go (c := 1) (pc' := 58) (lv' := [.ref 6, .int x1, .int x2, .int (nI 0)]) (st' := [.int (-2)]) (h' := zHp s t) rfl ?_
              obtain rfl := Option.some.inj hF
              exact zX_reti rfl
          · refine zX_go (c := 3) (pc' := if (nI 4) < x2 then 33 else 46) (lv' := [.ref 6, .int x1, .int x2, .retAddr 0]) (st' := []) (h' := zHp s t) rfl ?_
            refine zX_ite hF (fun c0 hF => ?_) (fun c0 hF => ?_)
            · refine zX_go (c := 3) (pc' := if x1 = (nI 3) then 38 else 50) (lv' := [.ref 6, .int x1, .int x2, .retAddr 0]) (st' := []) (h' := zHp s t) rfl ?_
              refine zX_ite hF (fun c0 hF => ?_) (fun c0 hF => ?_)
              · refine zX_go (c := 2) (pc' := 40) (lv' := [.ref 6, .int x1, .int x2, .retAddr 0]) (st' := [.int x2, .ref 6]) (h' := zHp s t) rfl ?_
                obtain ⟨q4, hq, hF⟩ := zbd_ok hF
                refine zX_inv (av := [.ref 6, .int x2]) (st := []) (h' := zHp s t) rfl rfl rfl rfl rfl rfl (zcall_le (t_X6_isType M _ _ _ _ hq) (by decide)) ?_
                refine zX_go (c := 1) (pc' := if q4 = 0 then 50 else 46) (lv' := [.ref 6, .int x1, .int x2, .retAddr 0]) (st' := []) (h' := zHp s t) rfl ?_
                refine zX_ite hF (fun c0 hF => ?_) (fun c0 hF => ?_)
                · refine zX_go (c := 4) (pc' := if (nI 0) = 0 then 56 else 59) (lv' := [.ref 6, .int x1, .int x2, .int (nI 0)]) (st' := []) (h' := zHp s t) rfl ?_
                  rw [if_pos (show (nI 0) = 0 by decide)]
                  refine zX_go (c := 1) (pc' := 58) (lv' := [.ref 6, .int x1, .int x2, .int (nI 0)]) (st' := [.int (-2)]) (h' := zHp s t) rfl ?_
                  obtain rfl := Option.some.inj hF
                  exact zX_reti rfl
                · refine zX_go (c := 5) (pc' := if (nI 1) = 0 then 56 else 59) (lv' := [.ref 6, .int x1, .int x2, .int (nI 1)]) (st' := []) (h' := zHp s t) rfl ?_
                  rw [if_neg (show ¬ ((nI 1) = 0) by decide)]
                  refine zX_go (c := 4) (pc' := if (t 15 0) = (nI 100) then 68 else 73) (lv' := [.ref 6, .int x1, .int x2, .int (nI 1)]) (st' := []) (h' := zHp s t) rfl ?_
                  refine zX_ite hF (fun c0 hF => ?_) (fun c0 hF => ?_)
                  · refine zX_go (c := 2) (pc' := 80) (lv' := [.ref 6, .int x1, .int x2, .int (nI 1)]) (st' := [.int (-3)]) (h' := zHp s t) rfl ?_
                    obtain rfl := Option.some.inj hF
                    exact zX_reti rfl
                  · refine zX_go (c := 4) (pc' := 77) (lv' := [.ref 6, .int x1, .int x2, .int (nI 1)]) (st' := [.int x2, .int x1, .int (nI 0), .ref 6]) (h' := zHp s t) rfl ?_
                    obtain ⟨q5, hq, hF⟩ := zbd_ok hF
                    refine zX_inv (av := [.ref 6, .int (nI 0), .int x1, .int x2]) (st := []) (h' := zHp s q5.2) rfl rfl rfl rfl rfl rfl (zcall_le (t_X6_added M _ _ _ _ _ _ hq) (by decide)) ?_
                    obtain rfl := Option.some.inj hF
                    exact zX_reti rfl
              · refine zX_go (c := 4) (pc' := if (nI 0) = 0 then 56 else 59) (lv' := [.ref 6, .int x1, .int x2, .int (nI 0)]) (st' := []) (h' := zHp s t) rfl ?_
                rw [if_pos (show (nI 0) = 0 by decide)]
                refine zX_go (c := 1) (pc' := 58) (lv' := [.ref 6, .int x1, .int x2, .int (nI 0)]) (st' := [.int (-2)]) (h' := zHp s t) rfl ?_
                obtain rfl := Option.some.inj hF
                exact zX_reti rfl
            · refine zX_go (c := 5) (pc' := if (nI 1) = 0 then 56 else 59) (lv' := [.ref 6, .int x1, .int x2, .int (nI 1)]) (st' := []) (h' := zHp s t) rfl ?_
              rw [if_neg (show ¬ ((nI 1) = 0) by decide)]
              refine zX_go (c := 4) (pc' := if (t 15 0) = (nI 100) then 68 else 73) (lv' := [.ref 6, .int x1, .int x2, .int (nI 1)]) (st' := []) (h' := zHp s t) rfl ?_
              refine zX_ite hF (fun c0 hF => ?_) (fun c0 hF => ?_)
              · refine zX_go (c := 2) (pc' := 80) (lv' := [.ref 6, .int x1, .int x2, .int (nI 1)]) (st' := [.int (-3)]) (h' := zHp s t) rfl ?_
                obtain rfl := Option.some.inj hF
                exact zX_reti rfl
              · refine zX_go (c := 4) (pc' := 77) (lv' := [.ref 6, .int x1, .int x2, .int (nI 1)]) (st' := [.int x2, .int x1, .int (nI 0), .ref 6]) (h' := zHp s t) rfl ?_
                obtain ⟨q6, hq, hF⟩ := zbd_ok hF
                refine zX_inv (av := [.ref 6, .int (nI 0), .int x1, .int x2]) (st := []) (h' := zHp s q6.2) rfl rfl rfl rfl rfl rfl (zcall_le (t_X6_added M _ _ _ _ _ _ hq) (by decide)) ?_
                obtain rfl := Option.some.inj hF
                exact zX_reti rfl
        · refine zX_go (c := 3) (pc' := if x1 = (nI 3) then 38 else 50) (lv' := [.ref 6, .int x1, .int x2, .retAddr 0]) (st' := []) (h' := zHp s t) rfl ?_
          refine zX_ite hF (fun c0 hF => ?_) (fun c0 hF => ?_)
          · refine zX_go (c := 2) (pc' := 40) (lv' := [.ref 6, .int x1, .int x2, .retAddr 0]) (st' := [.int x2, .ref 6]) (h' := zHp s t) rfl ?_
            obtain ⟨q7, hq, hF⟩ := zbd_ok hF
            refine zX_inv (av := [.ref 6, .int x2]) (st := []) (h' := zHp s t) rfl rfl rfl rfl rfl rfl (zcall_le (t_X6_isType M _ _ _ _ hq) (by decide)) ?_
            refine zX_go (c := 1) (pc' := if q7 = 0 then 50 else 46) (lv' := [.ref 6, .int x1, .int x2, .retAddr 0]) (st' := []) (h' := zHp s t) rfl ?_
            refine zX_ite hF (fun c0 hF => ?_) (fun c0 hF => ?_)
            · refine zX_go (c := 4) (pc' := if (nI 0) = 0 then 56 else 59) (lv' := [.ref 6, .int x1, .int x2, .int (nI 0)]) (st' := []) (h' := zHp s t) rfl ?_
              rw [if_pos (show (nI 0) = 0 by decide)]
              refine zX_go (c := 1) (pc' := 58) (lv' := [.ref 6, .int x1, .int x2, .int (nI 0)]) (st' := [.int (-2)]) (h' := zHp s t) rfl ?_
              obtain rfl := Option.some.inj hF
              exact zX_reti rfl
            · refine zX_go (c := 5) (pc' := if (nI 1) = 0 then 56 else 59) (lv' := [.ref 6, .int x1, .int x2, .int (nI 1)]) (st' := []) (h' := zHp s t) rfl ?_
              rw [if_neg (show ¬ ((nI 1) = 0) by decide)]
              refine zX_go (c := 4) (pc' := if (t 15 0) = (nI 100) then 68 else 73) (lv' := [.ref 6, .int x1, .int x2, .int (nI 1)]) (st' := []) (h' := zHp s t) rfl ?_
              refine zX_ite hF (fun c0 hF => ?_) (fun c0 hF => ?_)
              · refine zX_go (c := 2) (pc' := 80) (lv' := [.ref 6, .int x1, .int x2, .int (nI 1)]) (st' := [.int (-3)]) (h' := zHp s t) rfl ?_
                obtain rfl := Option.some.inj hF
                exact zX_reti rfl
              · refine zX_go (c := 4) (pc' := 77) (lv' := [.ref 6, .int x1, .int x2, .int (nI 1)]) (st' := [.int x2, .int x1, .int (nI 0), .ref 6]) (h' := zHp s t) rfl ?_
                obtain ⟨q8, hq, hF⟩ := zbd_ok hF
                refine zX_inv (av := [.ref 6, .int (nI 0), .int x1, .int x2]) (st := []) (h' := zHp s q8.2) rfl rfl rfl rfl rfl rfl (zcall_le (t_X6_added M _ _ _ _ _ _ hq) (by decide)) ?_
                obtain rfl := Option.some.inj hF
                exact zX_reti rfl
          · refine zX_go (c := 4) (pc' := if (nI 0) = 0 then 56 else 59) (lv' := [.ref 6, .int x1, .int x2, .int (nI 0)]) (st' := []) (h' := zHp s t) rfl ?_
            rw [if_pos (show (nI 0) = 0 by decide)]
            refine zX_go (c := 1) (pc' := 58) (lv' := [.ref 6, .int x1, .int x2, .int (nI 0)]) (st' := [.int (-2)]) (h' := zHp s t) rfl ?_
            obtain rfl := Option.some.inj hF
            exact zX_reti rfl
      · refine zX_go (c := 3) (pc' := if (nI 99) < x2 then 19 else 46) (lv' := [.ref 6, .int x1, .int x2, .retAddr 0]) (st' := []) (h' := zHp s t) rfl ?_
        refine zX_ite hF (fun c0 hF => ?_) (fun c0 hF => ?_)
        · refine zX_go (c := 3) (pc' := if x1 = (nI 2) then 24 else 33) (lv' := [.ref 6, .int x1, .int x2, .retAddr 0]) (st' := []) (h' := zHp s t) rfl ?_
          refine zX_ite hF (fun c0 hF => ?_) (fun c0 hF => ?_)
          · refine zX_go (c := 2) (pc' := if x2 < 0 then 33 else 28) (lv' := [.ref 6, .int x1, .int x2, .retAddr 0]) (st' := []) (h' := zHp s t) rfl ?_
            refine zX_ite hF (fun c0 hF => ?_) (fun c0 hF => ?_)
            · refine zX_go (c := 3) (pc' := if x1 = (nI 3) then 38 else 50) (lv' := [.ref 6, .int x1, .int x2, .retAddr 0]) (st' := []) (h' := zHp s t) rfl ?_
              refine zX_ite hF (fun c0 hF => ?_) (fun c0 hF => ?_)
              · refine zX_go (c := 2) (pc' := 40) (lv' := [.ref 6, .int x1, .int x2, .retAddr 0]) (st' := [.int x2, .ref 6]) (h' := zHp s t) rfl ?_
                obtain ⟨q9, hq, hF⟩ := zbd_ok hF
                refine zX_inv (av := [.ref 6, .int x2]) (st := []) (h' := zHp s t) rfl rfl rfl rfl rfl rfl (zcall_le (t_X6_isType M _ _ _ _ hq) (by decide)) ?_
                refine zX_go (c := 1) (pc' := if q9 = 0 then 50 else 46) (lv' := [.ref 6, .int x1, .int x2, .retAddr 0]) (st' := []) (h' := zHp s t) rfl ?_
                refine zX_ite hF (fun c0 hF => ?_) (fun c0 hF => ?_)
                · refine zX_go (c := 4) (pc' := if (nI 0) = 0 then 56 else 59) (lv' := [.ref 6, .int x1, .int x2, .int (nI 0)]) (st' := []) (h' := zHp s t) rfl ?_
                  rw [if_pos (show (nI 0) = 0 by decide)]
                  refine zX_go (c := 1) (pc' := 58) (lv' := [.ref 6, .int x1, .int x2, .int (nI 0)]) (st' := [.int (-2)]) (h' := zHp s t) rfl ?_
                  obtain rfl := Option.some.inj hF
                  exact zX_reti rfl
                · refine zX_go (c := 5) (pc' := if (nI 1) = 0 then 56 else 59) (lv' := [.ref 6, .int x1, .int x2, .int (nI 1)]) (st' := []) (h' := zHp s t) rfl ?_
                  rw [if_neg (show ¬ ((nI 1) = 0) by decide)]
                  refine zX_go (c := 4) (pc' := if (t 15 0) = (nI 100) then 68 else 73) (lv' := [.ref 6, .int x1, .int x2, .int (nI 1)]) (st' := []) (h' := zHp s t) rfl ?_
                  refine zX_ite hF (fun c0 hF => ?_) (fun c0 hF => ?_)
                  · refine zX_go (c := 2) (pc' := 80) (lv' := [.ref 6, .int x1, .int x2, .int (nI 1)]) (st' := [.int (-3)]) (h' := zHp s t) rfl ?_
                    obtain rfl := Option.some.inj hF
                    exact zX_reti rfl
                  · refine zX_go (c := 4) (pc' := 77) (lv' := [.ref 6, .int x1, .int x2, .int (nI 1)]) (st' := [.int x2, .int x1, .int (nI 0), .ref 6]) (h' := zHp s t) rfl ?_
                    obtain ⟨q10, hq, hF⟩ := zbd_ok hF
                    refine zX_inv (av := [.ref 6, .int (nI 0), .int x1, .int x2]) (st := []) (h' := zHp s q10.2) rfl rfl rfl rfl rfl rfl (zcall_le (t_X6_added M _ _ _ _ _ _ hq) (by decide)) ?_
                    obtain rfl := Option.some.inj hF
                    exact zX_reti rfl
              · refine zX_go (c := 4) (pc' := if (nI 0) = 0 then 56 else 59) (lv' := [.ref 6, .int x1, .int x2, .int (nI 0)]) (st' := []) (h' := zHp s t) rfl ?_
                rw [if_pos (show (nI 0) = 0 by decide)]
                refine zX_go (c := 1) (pc' := 58) (lv' := [.ref 6, .int x1, .int x2, .int (nI 0)]) (st' := [.int (-2)]) (h' := zHp s t) rfl ?_
                obtain rfl := Option.some.inj hF
                exact zX_reti rfl
            · refine zX_go (c := 3) (pc' := if (nI 4) < x2 then 33 else 46) (lv' := [.ref 6, .int x1, .int x2, .retAddr 0]) (st' := []) (h' := zHp s t) rfl ?_
              refine zX_ite hF (fun c0 hF => ?_) (fun c0 hF => ?_)
              · refine zX_go (c := 3) (pc' := if x1 = (nI 3) then 38 else 50) (lv' := [.ref 6, .int x1, .int x2, .retAddr 0]) (st' := []) (h' := zHp s t) rfl ?_
                refine zX_ite hF (fun c0 hF => ?_) (fun c0 hF => ?_)
                · refine zX_go (c := 2) (pc' := 40) (lv' := [.ref 6, .int x1, .int x2, .retAddr 0]) (st' := [.int x2, .ref 6]) (h' := zHp s t) rfl ?_
                  obtain ⟨q11, hq, hF⟩ := zbd_ok hF
                  refine zX_inv (av := [.ref 6, .int x2]) (st := []) (h' := zHp s t) rfl rfl rfl rfl rfl rfl (zcall_le (t_X6_isType M _ _ _ _ hq) (by decide)) ?_
                  refine zX_go (c := 1) (pc' := if q11 = 0 then 50 else 46) (lv' := [.ref 6, .int x1, .int x2, .retAddr 0]) (st' := []) (h' := zHp s t) rfl ?_
                  refine zX_ite hF (fun c0 hF => ?_) (fun c0 hF => ?_)
                  · refine zX_go (c := 4) (pc' := if (nI 0) = 0 then 56 else 59) (lv' := [.ref 6, .int x1, .int x2, .int (nI 0)]) (st' := []) (h' := zHp s t) rfl ?_
                    rw [if_pos (show (nI 0) = 0 by decide)]
                    refine zX_go (c := 1) (pc' := 58) (lv' := [.ref 6, .int x1, .int x2, .int (nI 0)]) (st' := [.int (-2)]) (h' := zHp s t) rfl ?_
                    obtain rfl := Option.some.inj hF
                    exact zX_reti rfl
                  · refine zX_go (c := 5) (pc' := if (nI 1) = 0 then 56 else 59) (lv' := [.ref 6, .int x1, .int x2, .int (nI 1)]) (st' := []) (h' := zHp s t) rfl ?_
                    rw [if_neg (show ¬ ((nI 1) = 0) by decide)]
                    refine zX_go (c := 4) (pc' := if (t 15 0) = (nI 100) then 68 else 73) (lv' := [.ref 6, .int x1, .int x2, .int (nI 1)]) (st' := []) (h' := zHp s t) rfl ?_
                    refine zX_ite hF (fun c0 hF => ?_) (fun c0 hF => ?_)
                    · refine zX_go (c := 2) (pc' := 80) (lv' := [.ref 6, .int x1, .int x2, .int (nI 1)]) (st' := [.int (-3)]) (h' := zHp s t) rfl ?_
                      obtain rfl := Option.some.inj hF
                      exact zX_reti rfl
                    · refine zX_go (c := 4) (pc' := 77) (lv' := [.ref 6, .int x1, .int x2, .int (nI 1)]) (st' := [.int x2, .int x1, .int (nI 0), .ref 6]) (h' := zHp s t) rfl ?_
                      obtain ⟨q12, hq, hF⟩ := zbd_ok hF
                      refine zX_inv (av := [.ref 6, .int (nI 0), .int x1, .int x2]) (st := []) (h' := zHp s q12.2) rfl rfl rfl rfl rfl rfl (zcall_le (t_X6_added M _ _ _ _ _ _ hq) (by decide)) ?_
                      obtain rfl := Option.some.inj hF
                      exact zX_reti rfl
                · refine zX_go (c := 4) (pc' := if (nI 0) = 0 then 56 else 59) (lv' := [.ref 6, .int x1, .int x2, .int (nI 0)]) (st' := []) (h' := zHp s t) rfl ?_
                  rw [if_pos (show (nI 0) = 0 by decide)]
                  refine zX_go (c := 1) (pc' := 58) (lv' := [.ref 6, .int x1, .int x2, .int (nI 0)]) (st' := [.int (-2)]) (h' := zHp s t) rfl ?_
                  obtain rfl := Option.some.inj hF
                  exact zX_reti rfl
              · refine zX_go (c := 5) (pc' := if (nI 1) = 0 then 56 else 59) (lv' := [.ref 6, .int x1, .int x2, .int (nI 1)]) (st' := []) (h' := zHp s t) rfl ?_
                rw [if_neg (show ¬ ((nI 1) = 0) by decide)]
                refine zX_go (c := 4) (pc' := if (t 15 0) = (nI 100) then 68 else 73) (lv' := [.ref 6, .int x1, .int x2, .int (nI 1)]) (st' := []) (h' := zHp s t) rfl ?_
                refine zX_ite hF (fun c0 hF => ?_) (fun c0 hF => ?_)
                · refine zX_go (c := 2) (pc' := 80) (lv' := [.ref 6, .int x1, .int x2, .int (nI 1)]) (st' := [.int (-3)]) (h' := zHp s t) rfl ?_
                  obtain rfl := Option.some.inj hF
                  exact zX_reti rfl
                · refine zX_go (c := 4) (pc' := 77) (lv' := [.ref 6, .int x1, .int x2, .int (nI 1)]) (st' := [.int x2, .int x1, .int (nI 0), .ref 6]) (h' := zHp s t) rfl ?_
                  obtain ⟨q13, hq, hF⟩ := zbd_ok hF
                  refine zX_inv (av := [.ref 6, .int (nI 0), .int x1, .int x2]) (st := []) (h' := zHp s q13.2) rfl rfl rfl rfl rfl rfl (zcall_le (t_X6_added M _ _ _ _ _ _ hq) (by decide)) ?_
                  obtain rfl := Option.some.inj hF
                  exact zX_reti rfl
          · refine zX_go (c := 3) (pc' := if x1 = (nI 3) then 38 else 50) (lv' := [.ref 6, .int x1, .int x2, .retAddr 0]) (st' := []) (h' := zHp s t) rfl ?_
            refine zX_ite hF (fun c0 hF => ?_) (fun c0 hF => ?_)
            · refine zX_go (c := 2) (pc' := 40) (lv' := [.ref 6, .int x1, .int x2, .retAddr 0]) (st' := [.int x2, .ref 6]) (h' := zHp s t) rfl ?_
              obtain ⟨q14, hq, hF⟩ := zbd_ok hF
              refine zX_inv (av := [.ref 6, .int x2]) (st := []) (h' := zHp s t) rfl rfl rfl rfl rfl rfl (zcall_le (t_X6_isType M _ _ _ _ hq) (by decide)) ?_
              refine zX_go (c := 1) (pc' := if q14 = 0 then 50 else 46) (lv' := [.ref 6, .int x1, .int x2, .retAddr 0]) (st' := []) (h' := zHp s t) rfl ?_
              refine zX_ite hF (fun c0 hF => ?_) (fun c0 hF => ?_)
              · refine zX_go (c := 4) (pc' := if (nI 0) = 0 then 56 else 59) (lv' := [.ref 6, .int x1, .int x2, .int (nI 0)]) (st' := []) (h' := zHp s t) rfl ?_
                rw [if_pos (show (nI 0) = 0 by decide)]
                refine zX_go (c := 1) (pc' := 58) (lv' := [.ref 6, .int x1, .int x2, .int (nI 0)]) (st' := [.int (-2)]) (h' := zHp s t) rfl ?_
                obtain rfl := Option.some.inj hF
                exact zX_reti rfl
              · refine zX_go (c := 5) (pc' := if (nI 1) = 0 then 56 else 59) (lv' := [.ref 6, .int x1, .int x2, .int (nI 1)]) (st' := []) (h' := zHp s t) rfl ?_
                rw [if_neg (show ¬ ((nI 1) = 0) by decide)]
                refine zX_go (c := 4) (pc' := if (t 15 0) = (nI 100) then 68 else 73) (lv' := [.ref 6, .int x1, .int x2, .int (nI 1)]) (st' := []) (h' := zHp s t) rfl ?_
                refine zX_ite hF (fun c0 hF => ?_) (fun c0 hF => ?_)
                · refine zX_go (c := 2) (pc' := 80) (lv' := [.ref 6, .int x1, .int x2, .int (nI 1)]) (st' := [.int (-3)]) (h' := zHp s t) rfl ?_
                  obtain rfl := Option.some.inj hF
                  exact zX_reti rfl
                · refine zX_go (c := 4) (pc' := 77) (lv' := [.ref 6, .int x1, .int x2, .int (nI 1)]) (st' := [.int x2, .int x1, .int (nI 0), .ref 6]) (h' := zHp s t) rfl ?_
                  obtain ⟨q15, hq, hF⟩ := zbd_ok hF
                  refine zX_inv (av := [.ref 6, .int (nI 0), .int x1, .int x2]) (st := []) (h' := zHp s q15.2) rfl rfl rfl rfl rfl rfl (zcall_le (t_X6_added M _ _ _ _ _ _ hq) (by decide)) ?_
                  obtain rfl := Option.some.inj hF
                  exact zX_reti rfl
            · refine zX_go (c := 4) (pc' := if (nI 0) = 0 then 56 else 59) (lv' := [.ref 6, .int x1, .int x2, .int (nI 0)]) (st' := []) (h' := zHp s t) rfl ?_
              rw [if_pos (show (nI 0) = 0 by decide)]
              refine zX_go (c := 1) (pc' := 58) (lv' := [.ref 6, .int x1, .int x2, .int (nI 0)]) (st' := [.int (-2)]) (h' := zHp s t) rfl ?_
              obtain rfl := Option.some.inj hF
              exact zX_reti rfl
        · refine zX_go (c := 5) (pc' := if (nI 1) = 0 then 56 else 59) (lv' := [.ref 6, .int x1, .int x2, .int (nI 1)]) (st' := []) (h' := zHp s t) rfl ?_
          rw [if_neg (show ¬ ((nI 1) = 0) by decide)]
          refine zX_go (c := 4) (pc' := if (t 15 0) = (nI 100) then 68 else 73) (lv' := [.ref 6, .int x1, .int x2, .int (nI 1)]) (st' := []) (h' := zHp s t) rfl ?_
          refine zX_ite hF (fun c0 hF => ?_) (fun c0 hF => ?_)
          · refine zX_go (c := 2) (pc' := 80) (lv' := [.ref 6, .int x1, .int x2, .int (nI 1)]) (st' := [.int (-3)]) (h' := zHp s t) rfl ?_
            obtain rfl := Option.some.inj hF
            exact zX_reti rfl
          · refine zX_go (c := 4) (pc' := 77) (lv' := [.ref 6, .int x1, .int x2, .int (nI 1)]) (st' := [.int x2, .int x1, .int (nI 0), .ref 6]) (h' := zHp s t) rfl ?_
            obtain ⟨q16, hq, hF⟩ := zbd_ok hF
            refine zX_inv (av := [.ref 6, .int (nI 0), .int x1, .int x2]) (st := []) (h' := zHp s q16.2) rfl rfl rfl rfl rfl rfl (zcall_le (t_X6_added M _ _ _ _ _ _ hq) (by decide)) ?_
            obtain rfl := Option.some.inj hF
            exact zX_reti rfl
    · refine zX_go (c := 3) (pc' := if x1 = (nI 2) then 24 else 33) (lv' := [.ref 6, .int x1, .int x2, .retAddr 0]) (st' := []) (h' := zHp s t) rfl ?_
      refine zX_ite hF (fun c0 hF => ?_) (fun c0 hF => ?_)
      · refine zX_go (c := 2) (pc' := if x2 < 0 then 33 else 28) (lv' := [.ref 6, .int x1, .int x2, .retAddr 0]) (st' := []) (h' := zHp s t) rfl ?_
        refine zX_ite hF (fun c0 hF => ?_) (fun c0 hF => ?_)
        · refine zX_go (c := 3) (pc' := if x1 = (nI 3) then 38 else 50) (lv' := [.ref 6, .int x1, .int x2, .retAddr 0]) (st' := []) (h' := zHp s t) rfl ?_
          refine zX_ite hF (fun c0 hF => ?_) (fun c0 hF => ?_)
          · refine zX_go (c := 2) (pc' := 40) (lv' := [.ref 6, .int x1, .int x2, .retAddr 0]) (st' := [.int x2, .ref 6]) (h' := zHp s t) rfl ?_
            obtain ⟨q17, hq, hF⟩ := zbd_ok hF
            refine zX_inv (av := [.ref 6, .int x2]) (st := []) (h' := zHp s t) rfl rfl rfl rfl rfl rfl (zcall_le (t_X6_isType M _ _ _ _ hq) (by decide)) ?_
            refine zX_go (c := 1) (pc' := if q17 = 0 then 50 else 46) (lv' := [.ref 6, .int x1, .int x2, .retAddr 0]) (st' := []) (h' := zHp s t) rfl ?_
            refine zX_ite hF (fun c0 hF => ?_) (fun c0 hF => ?_)
            · refine zX_go (c := 4) (pc' := if (nI 0) = 0 then 56 else 59) (lv' := [.ref 6, .int x1, .int x2, .int (nI 0)]) (st' := []) (h' := zHp s t) rfl ?_
              rw [if_pos (show (nI 0) = 0 by decide)]
              refine zX_go (c := 1) (pc' := 58) (lv' := [.ref 6, .int x1, .int x2, .int (nI 0)]) (st' := [.int (-2)]) (h' := zHp s t) rfl ?_
              obtain rfl := Option.some.inj hF
              exact zX_reti rfl
            · refine zX_go (c := 5) (pc' := if (nI 1) = 0 then 56 else 59) (lv' := [.ref 6, .int x1, .int x2, .int (nI 1)]) (st' := []) (h' := zHp s t) rfl ?_
              rw [if_neg (show ¬ ((nI 1) = 0) by decide)]
              refine zX_go (c := 4) (pc' := if (t 15 0) = (nI 100) then 68 else 73) (lv' := [.ref 6, .int x1, .int x2, .int (nI 1)]) (st' := []) (h' := zHp s t) rfl ?_
              refine zX_ite hF (fun c0 hF => ?_) (fun c0 hF => ?_)
              · refine zX_go (c := 2) (pc' := 80) (lv' := [.ref 6, .int x1, .int x2, .int (nI 1)]) (st' := [.int (-3)]) (h' := zHp s t) rfl ?_
                obtain rfl := Option.some.inj hF
                exact zX_reti rfl
              · refine zX_go (c := 4) (pc' := 77) (lv' := [.ref 6, .int x1, .int x2, .int (nI 1)]) (st' := [.int x2, .int x1, .int (nI 0), .ref 6]) (h' := zHp s t) rfl ?_
                obtain ⟨q18, hq, hF⟩ := zbd_ok hF
                refine zX_inv (av := [.ref 6, .int (nI 0), .int x1, .int x2]) (st := []) (h' := zHp s q18.2) rfl rfl rfl rfl rfl rfl (zcall_le (t_X6_added M _ _ _ _ _ _ hq) (by decide)) ?_
                obtain rfl := Option.some.inj hF
                exact zX_reti rfl
          · refine zX_go (c := 4) (pc' := if (nI 0) = 0 then 56 else 59) (lv' := [.ref 6, .int x1, .int x2, .int (nI 0)]) (st' := []) (h' := zHp s t) rfl ?_
            rw [if_pos (show (nI 0) = 0 by decide)]
            refine zX_go (c := 1) (pc' := 58) (lv' := [.ref 6, .int x1, .int x2, .int (nI 0)]) (st' := [.int (-2)]) (h' := zHp s t) rfl ?_
            obtain rfl := Option.some.inj hF
            exact zX_reti rfl
        · refine zX_go (c := 3) (pc' := if (nI 4) < x2 then 33 else 46) (lv' := [.ref 6, .int x1, .int x2, .retAddr 0]) (st' := []) (h' := zHp s t) rfl ?_
          refine zX_ite hF (fun c0 hF => ?_) (fun c0 hF => ?_)
          · refine zX_go (c := 3) (pc' := if x1 = (nI 3) then 38 else 50) (lv' := [.ref 6, .int x1, .int x2, .retAddr 0]) (st' := []) (h' := zHp s t) rfl ?_
            refine zX_ite hF (fun c0 hF => ?_) (fun c0 hF => ?_)
            · refine zX_go (c := 2) (pc' := 40) (lv' := [.ref 6, .int x1, .int x2, .retAddr 0]) (st' := [.int x2, .ref 6]) (h' := zHp s t) rfl ?_
              obtain ⟨q19, hq, hF⟩ := zbd_ok hF
              refine zX_inv (av := [.ref 6, .int x2]) (st := []) (h' := zHp s t) rfl rfl rfl rfl rfl rfl (zcall_le (t_X6_isType M _ _ _ _ hq) (by decide)) ?_
              refine zX_go (c := 1) (pc' := if q19 = 0 then 50 else 46) (lv' := [.ref 6, .int x1, .int x2, .retAddr 0]) (st' := []) (h' := zHp s t) rfl ?_
              refine zX_ite hF (fun c0 hF => ?_) (fun c0 hF => ?_)
              · refine zX_go (c := 4) (pc' := if (nI 0) = 0 then 56 else 59) (lv' := [.ref 6, .int x1, .int x2, .int (nI 0)]) (st' := []) (h' := zHp s t) rfl ?_
                rw [if_pos (show (nI 0) = 0 by decide)]
                refine zX_go (c := 1) (pc' := 58) (lv' := [.ref 6, .int x1, .int x2, .int (nI 0)]) (st' := [.int (-2)]) (h' := zHp s t) rfl ?_
                obtain rfl := Option.some.inj hF
                exact zX_reti rfl
              · refine zX_go (c := 5) (pc' := if (nI 1) = 0 then 56 else 59) (lv' := [.ref 6, .int x1, .int x2, .int (nI 1)]) (st' := []) (h' := zHp s t) rfl ?_
                rw [if_neg (show ¬ ((nI 1) = 0) by decide)]
                refine zX_go (c := 4) (pc' := if (t 15 0) = (nI 100) then 68 else 73) (lv' := [.ref 6, .int x1, .int x2, .int (nI 1)]) (st' := []) (h' := zHp s t) rfl ?_
                refine zX_ite hF (fun c0 hF => ?_) (fun c0 hF => ?_)
                · refine zX_go (c := 2) (pc' := 80) (lv' := [.ref 6, .int x1, .int x2, .int (nI 1)]) (st' := [.int (-3)]) (h' := zHp s t) rfl ?_
                  obtain rfl := Option.some.inj hF
                  exact zX_reti rfl
                · refine zX_go (c := 4) (pc' := 77) (lv' := [.ref 6, .int x1, .int x2, .int (nI 1)]) (st' := [.int x2, .int x1, .int (nI 0), .ref 6]) (h' := zHp s t) rfl ?_
                  obtain ⟨q20, hq, hF⟩ := zbd_ok hF
                  refine zX_inv (av := [.ref 6, .int (nI 0), .int x1, .int x2]) (st := []) (h' := zHp s q20.2) rfl rfl rfl rfl rfl rfl (zcall_le (t_X6_added M _ _ _ _ _ _ hq) (by decide)) ?_
                  obtain rfl := Option.some.inj hF
                  exact zX_reti rfl
            · refine zX_go (c := 4) (pc' := if (nI 0) = 0 then 56 else 59) (lv' := [.ref 6, .int x1, .int x2, .int (nI 0)]) (st' := []) (h' := zHp s t) rfl ?_
              rw [if_pos (show (nI 0) = 0 by decide)]
              refine zX_go (c := 1) (pc' := 58) (lv' := [.ref 6, .int x1, .int x2, .int (nI 0)]) (st' := [.int (-2)]) (h' := zHp s t) rfl ?_
              obtain rfl := Option.some.inj hF
              exact zX_reti rfl
          · refine zX_go (c := 5) (pc' := if (nI 1) = 0 then 56 else 59) (lv' := [.ref 6, .int x1, .int x2, .int (nI 1)]) (st' := []) (h' := zHp s t) rfl ?_
            rw [if_neg (show ¬ ((nI 1) = 0) by decide)]
            refine zX_go (c := 4) (pc' := if (t 15 0) = (nI 100) then 68 else 73) (lv' := [.ref 6, .int x1, .int x2, .int (nI 1)]) (st' := []) (h' := zHp s t) rfl ?_
            refine zX_ite hF (fun c0 hF => ?_) (fun c0 hF => ?_)
            · refine zX_go (c := 2) (pc' := 80) (lv' := [.ref 6, .int x1, .int x2, .int (nI 1)]) (st' := [.int (-3)]) (h' := zHp s t) rfl ?_
              obtain rfl := Option.some.inj hF
              exact zX_reti rfl
            · refine zX_go (c := 4) (pc' := 77) (lv' := [.ref 6, .int x1, .int x2, .int (nI 1)]) (st' := [.int x2, .int x1, .int (nI 0), .ref 6]) (h' := zHp s t) rfl ?_
              obtain ⟨q21, hq, hF⟩ := zbd_ok hF
              refine zX_inv (av := [.ref 6, .int (nI 0), .int x1, .int x2]) (st := []) (h' := zHp s q21.2) rfl rfl rfl rfl rfl rfl (zcall_le (t_X6_added M _ _ _ _ _ _ hq) (by decide)) ?_
              obtain rfl := Option.some.inj hF
              exact zX_reti rfl
      · refine zX_go (c := 3) (pc' := if x1 = (nI 3) then 38 else 50) (lv' := [.ref 6, .int x1, .int x2, .retAddr 0]) (st' := []) (h' := zHp s t) rfl ?_
        refine zX_ite hF (fun c0 hF => ?_) (fun c0 hF => ?_)
        · refine zX_go (c := 2) (pc' := 40) (lv' := [.ref 6, .int x1, .int x2, .retAddr 0]) (st' := [.int x2, .ref 6]) (h' := zHp s t) rfl ?_
          obtain ⟨q22, hq, hF⟩ := zbd_ok hF
          refine zX_inv (av := [.ref 6, .int x2]) (st := []) (h' := zHp s t) rfl rfl rfl rfl rfl rfl (zcall_le (t_X6_isType M _ _ _ _ hq) (by decide)) ?_
          refine zX_go (c := 1) (pc' := if q22 = 0 then 50 else 46) (lv' := [.ref 6, .int x1, .int x2, .retAddr 0]) (st' := []) (h' := zHp s t) rfl ?_
          refine zX_ite hF (fun c0 hF => ?_) (fun c0 hF => ?_)
          · refine zX_go (c := 4) (pc' := if (nI 0) = 0 then 56 else 59) (lv' := [.ref 6, .int x1, .int x2, .int (nI 0)]) (st' := []) (h' := zHp s t) rfl ?_
            rw [if_pos (show (nI 0) = 0 by decide)]
            refine zX_go (c := 1) (pc' := 58) (lv' := [.ref 6, .int x1, .int x2, .int (nI 0)]) (st' := [.int (-2)]) (h' := zHp s t) rfl ?_
            obtain rfl := Option.some.inj hF
            exact zX_reti rfl
          · refine zX_go (c := 5) (pc' := if (nI 1) = 0 then 56 else 59) (lv' := [.ref 6, .int x1, .int x2, .int (nI 1)]) (st' := []) (h' := zHp s t) rfl ?_
            rw [if_neg (show ¬ ((nI 1) = 0) by decide)]
            refine zX_go (c := 4) (pc' := if (t 15 0) = (nI 100) then 68 else 73) (lv' := [.ref 6, .int x1, .int x2, .int (nI 1)]) (st' := []) (h' := zHp s t) rfl ?_
            refine zX_ite hF (fun c0 hF => ?_) (fun c0 hF => ?_)
            · refine zX_go (c := 2) (pc' := 80) (lv' := [.ref 6, .int x1, .int x2, .int (nI 1)]) (st' := [.int (-3)]) (h' := zHp s t) rfl ?_
              obtain rfl := Option.some.inj hF
              exact zX_reti rfl
            · refine zX_go (c := 4) (pc' := 77) (lv' := [.ref 6, .int x1, .int x2, .int (nI 1)]) (st' := [.int x2, .int x1, .int (nI 0), .ref 6]) (h' := zHp s t) rfl ?_
              obtain ⟨q23, hq, hF⟩ := zbd_ok hF
              refine zX_inv (av := [.ref 6, .int (nI 0), .int x1, .int x2]) (st := []) (h' := zHp s q23.2) rfl rfl rfl rfl rfl rfl (zcall_le (t_X6_added M _ _ _ _ _ _ hq) (by decide)) ?_
              obtain rfl := Option.some.inj hF
              exact zX_reti rfl
        · refine zX_go (c := 4) (pc' := if (nI 0) = 0 then 56 else 59) (lv' := [.ref 6, .int x1, .int x2, .int (nI 0)]) (st' := []) (h' := zHp s t) rfl ?_
          rw [if_pos (show (nI 0) = 0 by decide)]
          refine zX_go (c := 1) (pc' := 58) (lv' := [.ref 6, .int x1, .int x2, .int (nI 0)]) (st' := [.int (-2)]) (h' := zHp s t) rfl ?_
          obtain rfl := Option.some.inj hF
          exact zX_reti rfl
def f_X6_row (M : Nat) (t : zS) (x1 : Int32) : Option (Int32 × zS) :=
  zbd (f_X6_isKind M t x1) (fun q1 =>
   if q1 = 0 then
    some ((-2), t)
   else
    if (t 15 0) = (nI 100) then
     some ((-3), t)
    else
     zbd (f_X6_added M t (nI 1) x1 (nI 0)) (fun q2 =>
      some (q2.1, q2.2)))
set_option maxRecDepth 100000 in
set_option maxHeartbeats 4000000 in
theorem t_X6_row {L : Nat} {xs : Nat → Int32} (M : Nat) (s t : zS) (x1 : Int32) (R : Int32 × zS) (hF : f_X6_row M t x1 = some R) : zcall (ztb L xs) 3 107 [.ref 6, .int x1] (zHp s t) = some (some (.int R.1), zHp s R.2) := by
  unfold f_X6_row at hF
  refine zcall_X (d := 2) (e := zm_X6_row) rfl rfl ?_
  show zX (ztb L xs) (zcall (ztb L xs) 2) 6 1 zk_X6_row 0 [.ref 6, .int x1] [] (zHp s t) _
  refine zX_go (c := 2) (pc' := 2) (lv' := [.ref 6, .int x1]) (st' := [.int x1, .ref 6]) (h' := zHp s t) rfl ?_
  obtain ⟨q1, hq, hF⟩ := zbd_ok hF
  refine zX_inv (av := [.ref 6, .int x1]) (st := []) (h' := zHp s t) rfl rfl rfl rfl rfl rfl (zcall_le (t_X6_isKind M _ _ _ _ hq) (by decide)) ?_
  refine zX_go (c := 1) (pc' := if q1 = 0 then 8 else 11) (lv' := [.ref 6, .int x1]) (st' := []) (h' := zHp s t) rfl ?_
  refine zX_ite hF (fun c0 hF => ?_) (fun c0 hF => ?_)
  · refine zX_go (c := 1) (pc' := 10) (lv' := [.ref 6, .int x1]) (st' := [.int (-2)]) (h' := zHp s t) rfl ?_
    obtain rfl := Option.some.inj hF
    exact zX_reti rfl
  · refine zX_go (c := 4) (pc' := if (t 15 0) = (nI 100) then 20 else 25) (lv' := [.ref 6, .int x1]) (st' := []) (h' := zHp s t) rfl ?_
    refine zX_ite hF (fun c0 hF => ?_) (fun c0 hF => ?_)
    · refine zX_go (c := 2) (pc' := 32) (lv' := [.ref 6, .int x1]) (st' := [.int (-3)]) (h' := zHp s t) rfl ?_
      obtain rfl := Option.some.inj hF
      exact zX_reti rfl
    · refine zX_go (c := 4) (pc' := 29) (lv' := [.ref 6, .int x1]) (st' := [.int (nI 0), .int x1, .int (nI 1), .ref 6]) (h' := zHp s t) rfl ?_
      obtain ⟨q2, hq, hF⟩ := zbd_ok hF
      refine zX_inv (av := [.ref 6, .int (nI 1), .int x1, .int (nI 0)]) (st := []) (h' := zHp s q2.2) rfl rfl rfl rfl rfl rfl (zcall_le (t_X6_added M _ _ _ _ _ _ hq) (by decide)) ?_
      obtain rfl := Option.some.inj hF
      exact zX_reti rfl
def f_X6_instance (M : Nat) (t : zS) (x1 : Int32) : Option (Int32 × zS) :=
  zbd (f_X6_isMark M t x1) (fun q1 =>
   if q1 = 0 then
    some ((-2), t)
   else
    if (t 15 0) = (nI 100) then
     some ((-3), t)
    else
     zbd (f_X6_added M t (nI 2) x1 (nI 0)) (fun q2 =>
      some (q2.1, q2.2)))
set_option maxRecDepth 100000 in
set_option maxHeartbeats 4000000 in
theorem t_X6_instance {L : Nat} {xs : Nat → Int32} (M : Nat) (s t : zS) (x1 : Int32) (R : Int32 × zS) (hF : f_X6_instance M t x1 = some R) : zcall (ztb L xs) 2 108 [.ref 6, .int x1] (zHp s t) = some (some (.int R.1), zHp s R.2) := by
  unfold f_X6_instance at hF
  refine zcall_X (d := 1) (e := zm_X6_instance) rfl rfl ?_
  show zX (ztb L xs) (zcall (ztb L xs) 1) 6 1 zk_X6_instance 0 [.ref 6, .int x1] [] (zHp s t) _
  refine zX_go (c := 2) (pc' := 2) (lv' := [.ref 6, .int x1]) (st' := [.int x1, .ref 6]) (h' := zHp s t) rfl ?_
  obtain ⟨q1, hq, hF⟩ := zbd_ok hF
  refine zX_inv (av := [.ref 6, .int x1]) (st := []) (h' := zHp s t) rfl rfl rfl rfl rfl rfl (zcall_le (t_X6_isMark M _ _ _ _ hq) (by decide)) ?_
  refine zX_go (c := 1) (pc' := if q1 = 0 then 8 else 11) (lv' := [.ref 6, .int x1]) (st' := []) (h' := zHp s t) rfl ?_
  refine zX_ite hF (fun c0 hF => ?_) (fun c0 hF => ?_)
  · refine zX_go (c := 1) (pc' := 10) (lv' := [.ref 6, .int x1]) (st' := [.int (-2)]) (h' := zHp s t) rfl ?_
    obtain rfl := Option.some.inj hF
    exact zX_reti rfl
  · refine zX_go (c := 4) (pc' := if (t 15 0) = (nI 100) then 20 else 25) (lv' := [.ref 6, .int x1]) (st' := []) (h' := zHp s t) rfl ?_
    refine zX_ite hF (fun c0 hF => ?_) (fun c0 hF => ?_)
    · refine zX_go (c := 2) (pc' := 32) (lv' := [.ref 6, .int x1]) (st' := [.int (-3)]) (h' := zHp s t) rfl ?_
      obtain rfl := Option.some.inj hF
      exact zX_reti rfl
    · refine zX_go (c := 4) (pc' := 29) (lv' := [.ref 6, .int x1]) (st' := [.int (nI 0), .int x1, .int (nI 2), .ref 6]) (h' := zHp s t) rfl ?_
      obtain ⟨q2, hq, hF⟩ := zbd_ok hF
      refine zX_inv (av := [.ref 6, .int (nI 2), .int x1, .int (nI 0)]) (st := []) (h' := zHp s q2.2) rfl rfl rfl rfl rfl rfl (zcall_le (t_X6_added M _ _ _ _ _ _ hq) (by decide)) ?_
      obtain rfl := Option.some.inj hF
      exact zX_reti rfl
def f_X6_failed (M : Nat) (t : zS) (x1 : Int32) : Option (Int32 × zS) :=
  zq (zin x1 4) <|
  zq (zin x1 4) <|
  some ((-5), zup (zup t 21 0 x1) 22 x1.toNatClampNeg ((t 22 x1.toNatClampNeg) + (nI 1)))
set_option maxRecDepth 100000 in
set_option maxHeartbeats 4000000 in
theorem t_X6_failed {L : Nat} {xs : Nat → Int32} (M : Nat) (s t : zS) (x1 : Int32) (R : Int32 × zS) (hF : f_X6_failed M t x1 = some R) : zcall (ztb L xs) 1 109 [.ref 6, .int x1] (zHp s t) = some (some (.int R.1), zHp s R.2) := by
  unfold f_X6_failed at hF
  refine zcall_X (d := 0) (e := zm_X6_failed) rfl rfl ?_
  show zX (ztb L xs) (zcall (ztb L xs) 0) 6 1 zk_X6_failed 0 [.ref 6, .int x1] [] (zHp s t) _
  refine zX_go (c := 2) (pc' := 2) (lv' := [.ref 6, .int x1]) (st' := [.int x1, .ref 6]) (h' := zHp s t) rfl ?_
  refine zX_pfi (h' := zHp s (zup t 21 0 x1)) rfl rfl rfl rfl (zst_6_21 _ _ _) ?_
  refine zX_go (c := 4) (pc' := 11) (lv' := [.ref 6, .int x1]) (st' := [.int x1, .ref 51, .int x1, .ref 51]) (h' := zHp s (zup t 21 0 x1)) rfl ?_
  refine zX_ial (n := 4) rfl rfl hF (fun hF => ?_)
  refine zX_go (c := 2) (pc' := 14) (lv' := [.ref 6, .int x1]) (st' := [.int ((t 22 x1.toNatClampNeg) + (nI 1)), .int x1, .ref 51]) (h' := zHp s (zup t 21 0 x1)) rfl ?_
  refine zX_ias (n := 4) (h' := zHp s (zup (zup t 21 0 x1) 22 x1.toNatClampNeg ((t 22 x1.toNatClampNeg) + (nI 1)))) rfl rfl (zst_51 _ _ _ _) hF (fun hF => ?_)
  refine zX_go (c := 1) (pc' := 17) (lv' := [.ref 6, .int x1]) (st' := [.int (-5)]) (h' := zHp s (zup (zup t 21 0 x1) 22 x1.toNatClampNeg ((t 22 x1.toNatClampNeg) + (nI 1)))) rfl ?_
  obtain rfl := Option.some.inj hF
  exact zX_reti rfl
def f_X6_good (M : Nat) (t : zS) (x1 : Int32) : Option (Int32 × zS) :=
  some (x1, zup t 21 0 (nI 0))
set_option maxRecDepth 100000 in
set_option maxHeartbeats 4000000 in
theorem t_X6_good {L : Nat} {xs : Nat → Int32} (M : Nat) (s t : zS) (x1 : Int32) (R : Int32 × zS) (hF : f_X6_good M t x1 = some R) : zcall (ztb L xs) 1 110 [.ref 6, .int x1] (zHp s t) = some (some (.int R.1), zHp s R.2) := by
  unfold f_X6_good at hF
  refine zcall_X (d := 0) (e := zm_X6_good) rfl rfl ?_
  show zX (ztb L xs) (zcall (ztb L xs) 0) 6 1 zk_X6_good 0 [.ref 6, .int x1] [] (zHp s t) _
  refine zX_go (c := 2) (pc' := 2) (lv' := [.ref 6, .int x1]) (st' := [.int (nI 0), .ref 6]) (h' := zHp s t) rfl ?_
  refine zX_pfi (h' := zHp s (zup t 21 0 (nI 0))) rfl rfl rfl rfl (zst_6_21 _ _ _) ?_
  refine zX_go (c := 1) (pc' := 6) (lv' := [.ref 6, .int x1]) (st' := [.int x1]) (h' := zHp s (zup t 21 0 (nI 0))) rfl ?_
  obtain rfl := Option.some.inj hF
  exact zX_reti rfl
def f_X6_isOfKind (M : Nat) (t : zS) (x1 x2 : Int32) : Option (Int32) :=
  zq (zin x1 100) <|
  if (t 16 x1.toNatClampNeg) = 0 then
   zq (zin x1 100) <|
   if (t 17 x1.toNatClampNeg) = x2 then
    some (nI 1)
   else
    some (nI 0)
  else
   zq (zin x1 100) <|
   if (t 16 x1.toNatClampNeg) = (nI 2) then
    zq (zin x1 100) <|
    if x2 = ((nI 10) + (t 17 x1.toNatClampNeg)) then
     some (nI 1)
    else
     some (nI 0)
   else
    some (nI 0)
set_option maxRecDepth 100000 in
set_option maxHeartbeats 4000000 in
theorem t_X6_isOfKind {L : Nat} {xs : Nat → Int32} (M : Nat) (s t : zS) (x1 x2 : Int32) (R : Int32) (hF : f_X6_isOfKind M t x1 x2 = some R) : zcall (ztb L xs) 1 111 [.ref 6, .int x1, .int x2] (zHp s t) = some (some (.int R), zHp s t) := by
  unfold f_X6_isOfKind at hF
  refine zcall_X (d := 0) (e := zm_X6_isOfKind) rfl rfl ?_
  show zX (ztb L xs) (zcall (ztb L xs) 0) 6 2 zk_X6_isOfKind 0 [.ref 6, .int x1, .int x2] [] (zHp s t) _
  refine zX_go (c := 3) (pc' := 5) (lv' := [.ref 6, .int x1, .int x2]) (st' := [.int x1, .ref 46]) (h' := zHp s t) rfl ?_
  refine zX_ial (n := 100) rfl rfl hF (fun hF => ?_)
  refine zX_go (c := 1) (pc' := if (t 16 x1.toNatClampNeg) = 0 then 9 else 27) (lv' := [.ref 6, .int x1, .int x2]) (st' := []) (h' := zHp s t) rfl ?_
  refine zX_ite hF (fun c0 hF => ?_) (fun c0 hF => ?_)
  · refine zX_go (c := 3) (pc' := 14) (lv' := [.ref 6, .int x1, .int x2]) (st' := [.int x1, .ref 47]) (h' := zHp s t) rfl ?_
    refine zX_ial (n := 100) rfl rfl hF (fun hF => ?_)
    refine zX_go (c := 2) (pc' := if (t 17 x1.toNatClampNeg) = x2 then 19 else 23) (lv' := [.ref 6, .int x1, .int x2]) (st' := []) (h' := zHp s t) rfl ?_
    refine zX_ite hF (fun c0 hF => ?_) (fun c0 hF => ?_)
    · refine zX_go (c := 2) (pc' := 55) (lv' := [.ref 6, .int x1, .int x2]) (st' := [.int (nI 1)]) (h' := zHp s t) rfl ?_
      obtain rfl := Option.some.inj hF
      exact zX_retz rfl (by decide)
    · refine zX_go (c := 2) (pc' := 55) (lv' := [.ref 6, .int x1, .int x2]) (st' := [.int (nI 0)]) (h' := zHp s t) rfl ?_
      obtain rfl := Option.some.inj hF
      exact zX_retz rfl (by decide)
  · refine zX_go (c := 3) (pc' := 32) (lv' := [.ref 6, .int x1, .int x2]) (st' := [.int x1, .ref 46]) (h' := zHp s t) rfl ?_
    refine zX_ial (n := 100) rfl rfl hF (fun hF => ?_)
    refine zX_go (c := 2) (pc' := if (t 16 x1.toNatClampNeg) = (nI 2) then 37 else 54) (lv' := [.ref 6, .int x1, .int x2]) (st' := []) (h' := zHp s t) rfl ?_
    refine zX_ite hF (fun c0 hF => ?_) (fun c0 hF => ?_)
    · refine zX_go (c := 5) (pc' := 45) (lv' := [.ref 6, .int x1, .int x2]) (st' := [.int x1, .ref 47, .int (nI 10), .int x2]) (h' := zHp s t) rfl ?_
      refine zX_ial (n := 100) rfl rfl hF (fun hF => ?_)
      refine zX_go (c := 2) (pc' := if x2 = ((nI 10) + (t 17 x1.toNatClampNeg)) then 50 else 54) (lv' := [.ref 6, .int x1, .int x2]) (st' := []) (h' := zHp s t) rfl ?_
      refine zX_ite hF (fun c0 hF => ?_) (fun c0 hF => ?_)
      · refine zX_go (c := 2) (pc' := 55) (lv' := [.ref 6, .int x1, .int x2]) (st' := [.int (nI 1)]) (h' := zHp s t) rfl ?_
        obtain rfl := Option.some.inj hF
        exact zX_retz rfl (by decide)
      · refine zX_go (c := 1) (pc' := 55) (lv' := [.ref 6, .int x1, .int x2]) (st' := [.int (nI 0)]) (h' := zHp s t) rfl ?_
        obtain rfl := Option.some.inj hF
        exact zX_retz rfl (by decide)
    · refine zX_go (c := 1) (pc' := 55) (lv' := [.ref 6, .int x1, .int x2]) (st' := [.int (nI 0)]) (h' := zHp s t) rfl ?_
      obtain rfl := Option.some.inj hF
      exact zX_retz rfl (by decide)
def f_X6_done (M : Nat) (t : zS) (x1 : Int32) : Option (zS) :=
  zq (zin x1 100) <|
  if (t 16 x1.toNatClampNeg) = 0 then
   zq (zin x1 100) <|
   some (zup t 19 x1.toNatClampNeg (zbn 1 (nI 0)))
  else
   zq (zin x1 100) <|
   some (zup t 19 x1.toNatClampNeg (zbn 1 (nI 1)))
set_option maxRecDepth 100000 in
set_option maxHeartbeats 4000000 in
theorem t_X6_done {L : Nat} {xs : Nat → Int32} (M : Nat) (s t : zS) (x1 : Int32) (R : zS) (hF : f_X6_done M t x1 = some R) : zcall (ztb L xs) 1 112 [.ref 6, .int x1] (zHp s t) = some (none, zHp s R) := by
  unfold f_X6_done at hF
  refine zcall_X (d := 0) (e := zm_X6_done) rfl rfl ?_
  show zX (ztb L xs) (zcall (ztb L xs) 0) 6 0 zk_X6_done 0 [.ref 6, .int x1] [] (zHp s t) _
  refine zX_go (c := 6) (pc' := 10) (lv' := [.ref 6, .int x1]) (st' := [.int x1, .ref 46, .int x1, .ref 49]) (h' := zHp s t) rfl ?_
  refine zX_ial (n := 100) rfl rfl hF (fun hF => ?_)
  refine zX_go (c := 1) (pc' := if (t 16 x1.toNatClampNeg) = 0 then 18 else 14) (lv' := [.ref 6, .int x1]) (st' := [.int x1, .ref 49]) (h' := zHp s t) rfl ?_
  refine zX_ite hF (fun c0 hF => ?_) (fun c0 hF => ?_)
  · refine zX_go (c := 1) (pc' := 19) (lv' := [.ref 6, .int x1]) (st' := [.int (nI 0), .int x1, .ref 49]) (h' := zHp s t) rfl ?_
    refine zX_bas (n := 100) (h' := zHp s (zup t 19 x1.toNatClampNeg (zbn 1 (nI 0)))) rfl rfl (zst_49 _ _ _ _) hF (fun hF => ?_)
    obtain rfl := Option.some.inj hF
    exact zX_retv rfl
  · refine zX_go (c := 2) (pc' := 19) (lv' := [.ref 6, .int x1]) (st' := [.int (nI 1), .int x1, .ref 49]) (h' := zHp s t) rfl ?_
    refine zX_bas (n := 100) (h' := zHp s (zup t 19 x1.toNatClampNeg (zbn 1 (nI 1)))) rfl rfl (zst_49 _ _ _ _) hF (fun hF => ?_)
    obtain rfl := Option.some.inj hF
    exact zX_retv rfl
def f_X6_push (M : Nat) (t : zS) (x1 x2 : Int32) : Option (Int32 × zS) :=
  zbd (f_X6_isSort M t x1 (nI 1)) (fun q1 =>
   if q1 = 0 then
    some ((-2), t)
   else
    if x2 = (-1) then
     zq (zin x1 100) <|
     if (t 19 x1.toNatClampNeg) = 0 then
      if x2 = x1 then
       some ((-4), t)
      else
       if x2 = (-1) then
        zq (zin x1 100) <|
        if (t 18 x1.toNatClampNeg) = (nI 4) then
         some ((-3), t)
        else
         if x2 = (-1) then
          zbd (f_X6_failed M t (nI 1)) (fun q2 =>
           some (q2.1, q2.2))
         else
          zq (zin x1 100) <|
          zbd (f_X6_isOfKind M t x2 (t 17 x1.toNatClampNeg)) (fun q3 =>
           if q3 = 0 then
            zbd (f_X6_failed M t (nI 3)) (fun q4 =>
             some (q4.1, q4.2))
           else
            zq (zin x1 100) <|
            zq (zin (((nI 5) * x1) + (t 18 x1.toNatClampNeg)) 500) <|
            zq (zin x1 100) <|
            zq (zin x1 100) <|
            zbd (f_X6_done M (zup (zup t 20 (((nI 5) * x1) + (t 18 x1.toNatClampNeg)).toNatClampNeg x2) 18 x1.toNatClampNeg ((t 18 x1.toNatClampNeg) + (nI 1))) x2) (fun q5 =>
             zq (zin x1 100) <|
             zbd (f_X6_good M q5 (q5 18 x1.toNatClampNeg)) (fun q6 =>
              some (q6.1, q6.2))))
       else
        zq (zin x2 100) <|
        if (t 19 x2.toNatClampNeg) = 0 then
         zq (zin x1 100) <|
         if (t 18 x1.toNatClampNeg) = (nI 4) then
          some ((-3), t)
         else
          if x2 = (-1) then
           zbd (f_X6_failed M t (nI 1)) (fun q7 =>
            some (q7.1, q7.2))
          else
           zq (zin x1 100) <|
           zbd (f_X6_isOfKind M t x2 (t 17 x1.toNatClampNeg)) (fun q8 =>
            if q8 = 0 then
             zbd (f_X6_failed M t (nI 3)) (fun q9 =>
              some (q9.1, q9.2))
            else
             zq (zin x1 100) <|
             zq (zin (((nI 5) * x1) + (t 18 x1.toNatClampNeg)) 500) <|
             zq (zin x1 100) <|
             zq (zin x1 100) <|
             zbd (f_X6_done M (zup (zup t 20 (((nI 5) * x1) + (t 18 x1.toNatClampNeg)).toNatClampNeg x2) 18 x1.toNatClampNeg ((t 18 x1.toNatClampNeg) + (nI 1))) x2) (fun q10 =>
              zq (zin x1 100) <|
              zbd (f_X6_good M q10 (q10 18 x1.toNatClampNeg)) (fun q11 =>
               some (q11.1, q11.2))))
        else
         some ((-4), t)
     else
      some ((-4), t)
    else
     zbd (f_X6_isValue M t x2) (fun q12 =>
      if q12 = 0 then
       some ((-2), t)
      else
       zq (zin x1 100) <|
       if (t 19 x1.toNatClampNeg) = 0 then
        if x2 = x1 then
         some ((-4), t)
        else
         if x2 = (-1) then
          zq (zin x1 100) <|
          if (t 18 x1.toNatClampNeg) = (nI 4) then
           some ((-3), t)
          else
           if x2 = (-1) then
            zbd (f_X6_failed M t (nI 1)) (fun q13 =>
             some (q13.1, q13.2))
           else
            zq (zin x1 100) <|
            zbd (f_X6_isOfKind M t x2 (t 17 x1.toNatClampNeg)) (fun q14 =>
             if q14 = 0 then
              zbd (f_X6_failed M t (nI 3)) (fun q15 =>
               some (q15.1, q15.2))
             else
              zq (zin x1 100) <|
              zq (zin (((nI 5) * x1) + (t 18 x1.toNatClampNeg)) 500) <|
              zq (zin x1 100) <|
              zq (zin x1 100) <|
              zbd (f_X6_done M (zup (zup t 20 (((nI 5) * x1) + (t 18 x1.toNatClampNeg)).toNatClampNeg x2) 18 x1.toNatClampNeg ((t 18 x1.toNatClampNeg) + (nI 1))) x2) (fun q16 =>
               zq (zin x1 100) <|
               zbd (f_X6_good M q16 (q16 18 x1.toNatClampNeg)) (fun q17 =>
                some (q17.1, q17.2))))
         else
          zq (zin x2 100) <|
          if (t 19 x2.toNatClampNeg) = 0 then
           zq (zin x1 100) <|
           if (t 18 x1.toNatClampNeg) = (nI 4) then
            some ((-3), t)
           else
            if x2 = (-1) then
             zbd (f_X6_failed M t (nI 1)) (fun q18 =>
              some (q18.1, q18.2))
            else
             zq (zin x1 100) <|
             zbd (f_X6_isOfKind M t x2 (t 17 x1.toNatClampNeg)) (fun q19 =>
              if q19 = 0 then
               zbd (f_X6_failed M t (nI 3)) (fun q20 =>
                some (q20.1, q20.2))
              else
               zq (zin x1 100) <|
               zq (zin (((nI 5) * x1) + (t 18 x1.toNatClampNeg)) 500) <|
               zq (zin x1 100) <|
               zq (zin x1 100) <|
               zbd (f_X6_done M (zup (zup t 20 (((nI 5) * x1) + (t 18 x1.toNatClampNeg)).toNatClampNeg x2) 18 x1.toNatClampNeg ((t 18 x1.toNatClampNeg) + (nI 1))) x2) (fun q21 =>
                zq (zin x1 100) <|
                zbd (f_X6_good M q21 (q21 18 x1.toNatClampNeg)) (fun q22 =>
                 some (q22.1, q22.2))))
          else
           some ((-4), t)
       else
        some ((-4), t)))
set_option maxRecDepth 100000 in
set_option maxHeartbeats 4000000 in
theorem t_X6_push {L : Nat} {xs : Nat → Int32} (M : Nat) (s t : zS) (x1 x2 : Int32) (R : Int32 × zS) (hF : f_X6_push M t x1 x2 = some R) : zcall (ztb L xs) 3 113 [.ref 6, .int x1, .int x2] (zHp s t) = some (some (.int R.1), zHp s R.2) := by
  unfold f_X6_push at hF
  refine zcall_X (d := 2) (e := zm_X6_push) rfl rfl ?_
  show zX (ztb L xs) (zcall (ztb L xs) 2) 6 1 zk_X6_push 0 [.ref 6, .int x1, .int x2] [] (zHp s t) _
  refine zX_go (c := 3) (pc' := 3) (lv' := [.ref 6, .int x1, .int x2]) (st' := [.int (nI 1), .int x1, .ref 6]) (h' := zHp s t) rfl ?_
  obtain ⟨q1, hq, hF⟩ := zbd_ok hF
  refine zX_inv (av := [.ref 6, .int x1, .int (nI 1)]) (st := []) (h' := zHp s t) rfl rfl rfl rfl rfl rfl (zcall_le (t_X6_isSort M _ _ _ _ _ hq) (by decide)) ?_
  refine zX_go (c := 1) (pc' := if q1 = 0 then 22 else 9) (lv' := [.ref 6, .int x1, .int x2]) (st' := []) (h' := zHp s t) rfl ?_
  refine zX_ite hF (fun c0 hF => ?_) (fun c0 hF => ?_)
  · refine zX_go (c := 1) (pc' := 24) (lv' := [.ref 6, .int x1, .int x2]) (st' := [.int (-2)]) (h' := zHp s t) rfl ?_
    obtain rfl := Option.some.inj hF
    exact zX_reti rfl
  · refine zX_go (c := 3) (pc' := if x2 = (-1) then 25 else 14) (lv' := [.ref 6, .int x1, .int x2]) (st' := []) (h' := zHp s t) rfl ?_
    refine zX_ite hF (fun c0 hF => ?_) (fun c0 hF => ?_)
    · refine zX_go (c := 3) (pc' := 30) (lv' := [.ref 6, .int x1, .int x2]) (st' := [.int x1, .ref 49]) (h' := zHp s t) rfl ?_
      refine zX_bal (n := 100) rfl rfl hF (fun hF => ?_)
      refine zX_go (c := 1) (pc' := if (t 19 x1.toNatClampNeg) = 0 then 34 else 53) (lv' := [.ref 6, .int x1, .int x2]) (st' := []) (h' := zHp s t) rfl ?_
      refine zX_ite hF (fun c0 hF => ?_) (fun c0 hF => ?_)
      · refine zX_go (c := 3) (pc' := if x2 = x1 then 53 else 39) (lv' := [.ref 6, .int x1, .int x2]) (st' := []) (h' := zHp s t) rfl ?_
        refine zX_ite hF (fun c0 hF => ?_) (fun c0 hF => ?_)
        · refine zX_go (c := 1) (pc' := 55) (lv' := [.ref 6, .int x1, .int x2]) (st' := [.int (-4)]) (h' := zHp s t) rfl ?_
          obtain rfl := Option.some.inj hF
          exact zX_reti rfl
        · refine zX_go (c := 3) (pc' := if x2 = (-1) then 56 else 44) (lv' := [.ref 6, .int x1, .int x2]) (st' := []) (h' := zHp s t) rfl ?_
          refine zX_ite hF (fun c0 hF => ?_) (fun c0 hF => ?_)
          · refine zX_go (c := 3) (pc' := 61) (lv' := [.ref 6, .int x1, .int x2]) (st' := [.int x1, .ref 48]) (h' := zHp s t) rfl ?_
            refine zX_ial (n := 100) rfl rfl hF (fun hF => ?_)
            refine zX_go (c := 2) (pc' := if (t 18 x1.toNatClampNeg) = (nI 4) then 66 else 69) (lv' := [.ref 6, .int x1, .int x2]) (st' := []) (h' := zHp s t) rfl ?_
            refine zX_ite hF (fun c0 hF => ?_) (fun c0 hF => ?_)
            · refine zX_go (c := 1) (pc' := 68) (lv' := [.ref 6, .int x1, .int x2]) (st' := [.int (-3)]) (h' := zHp s t) rfl ?_
              obtain rfl := Option.some.inj hF
              exact zX_reti rfl
            · refine zX_go (c := 3) (pc' := if x2 = (-1) then 74 else 80) (lv' := [.ref 6, .int x1, .int x2]) (st' := []) (h' := zHp s t) rfl ?_
              refine zX_ite hF (fun c0 hF => ?_) (fun c0 hF => ?_)
              · refine zX_go (c := 2) (pc' := 76) (lv' := [.ref 6, .int x1, .int x2]) (st' := [.int (nI 1), .ref 6]) (h' := zHp s t) rfl ?_
                obtain ⟨q2, hq, hF⟩ := zbd_ok hF
                refine zX_inv (av := [.ref 6, .int (nI 1)]) (st := []) (h' := zHp s q2.2) rfl rfl rfl rfl rfl rfl (zcall_le (t_X6_failed M _ _ _ _ hq) (by decide)) ?_
                obtain rfl := Option.some.inj hF
                exact zX_reti rfl
              · refine zX_go (c := 5) (pc' := 87) (lv' := [.ref 6, .int x1, .int x2]) (st' := [.int x1, .ref 47, .int x2, .ref 6]) (h' := zHp s t) rfl ?_
                refine zX_ial (n := 100) rfl rfl hF (fun hF => ?_)
                obtain ⟨q3, hq, hF⟩ := zbd_ok hF
                refine zX_inv (av := [.ref 6, .int x2, .int (t 17 x1.toNatClampNeg)]) (st := []) (h' := zHp s t) rfl rfl rfl rfl rfl rfl (zcall_le (t_X6_isOfKind M _ _ _ _ _ hq) (by decide)) ?_
                refine zX_go (c := 1) (pc' := if q3 = 0 then 94 else 100) (lv' := [.ref 6, .int x1, .int x2]) (st' := []) (h' := zHp s t) rfl ?_
                refine zX_ite hF (fun c0 hF => ?_) (fun c0 hF => ?_)
                · refine zX_go (c := 2) (pc' := 96) (lv' := [.ref 6, .int x1, .int x2]) (st' := [.int (nI 3), .ref 6]) (h' := zHp s t) rfl ?_
                  obtain ⟨q4, hq, hF⟩ := zbd_ok hF
                  refine zX_inv (av := [.ref 6, .int (nI 3)]) (st := []) (h' := zHp s q4.2) rfl rfl rfl rfl rfl rfl (zcall_le (t_X6_failed M _ _ _ _ hq) (by decide)) ?_
                  obtain rfl := Option.some.inj hF
                  exact zX_reti rfl
                · refine zX_go (c := 8) (pc' := 112) (lv' := [.ref 6, .int x1, .int x2]) (st' := [.int x1, .ref 48, .int ((nI 5) * x1), .ref 50]) (h' := zHp s t) rfl ?_
                  refine zX_ial (n := 100) rfl rfl hF (fun hF => ?_)
                  refine zX_go (c := 2) (pc' := 115) (lv' := [.ref 6, .int x1, .int x2]) (st' := [.int x2, .int (((nI 5) * x1) + (t 18 x1.toNatClampNeg)), .ref 50]) (h' := zHp s t) rfl ?_
                  refine zX_ias (n := 500) (h' := zHp s (zup t 20 (((nI 5) * x1) + (t 18 x1.toNatClampNeg)).toNatClampNeg x2)) rfl rfl (zst_50 _ _ _ _) hF (fun hF => ?_)
                  refine zX_go (c := 4) (pc' := 122) (lv' := [.ref 6, .int x1, .int x2]) (st' := [.int x1, .ref 48, .int x1, .ref 48]) (h' := zHp s (zup t 20 (((nI 5) * x1) + (t 18 x1.toNatClampNeg)).toNatClampNeg x2)) rfl ?_
                  refine zX_ial (n := 100) rfl rfl hF (fun hF => ?_)
                  refine zX_go (c := 2) (pc' := 125) (lv' := [.ref 6, .int x1, .int x2]) (st' := [.int ((t 18 x1.toNatClampNeg) + (nI 1)), .int x1, .ref 48]) (h' := zHp s (zup t 20 (((nI 5) * x1) + (t 18 x1.toNatClampNeg)).toNatClampNeg x2)) rfl ?_
                  refine zX_ias (n := 100) (h' := zHp s (zup (zup t 20 (((nI 5) * x1) + (t 18 x1.toNatClampNeg)).toNatClampNeg x2) 18 x1.toNatClampNeg ((t 18 x1.toNatClampNeg) + (nI 1)))) rfl rfl (zst_48 _ _ _ _) hF (fun hF => ?_)
                  refine zX_go (c := 2) (pc' := 128) (lv' := [.ref 6, .int x1, .int x2]) (st' := [.int x2, .ref 6]) (h' := zHp s (zup (zup t 20 (((nI 5) * x1) + (t 18 x1.toNatClampNeg)).toNatClampNeg x2) 18 x1.toNatClampNeg ((t 18 x1.toNatClampNeg) + (nI 1)))) rfl ?_
                  obtain ⟨q5, hq, hF⟩ := zbd_ok hF
                  refine zX_inv (av := [.ref 6, .int x2]) (st := []) (h' := zHp s q5) rfl rfl rfl rfl rfl rfl (zcall_le (t_X6_done M _ _ _ _ hq) (by decide)) ?_
                  refine zX_go (c := 4) (pc' := 137) (lv' := [.ref 6, .int x1, .int x2]) (st' := [.int x1, .ref 48, .ref 6]) (h' := zHp s q5) rfl ?_
                  refine zX_ial (n := 100) rfl rfl hF (fun hF => ?_)
                  obtain ⟨q6, hq, hF⟩ := zbd_ok hF
                  refine zX_inv (av := [.ref 6, .int (q5 18 x1.toNatClampNeg)]) (st := []) (h' := zHp s q6.2) rfl rfl rfl rfl rfl rfl (zcall_le (t_X6_good M _ _ _ _ hq) (by decide)) ?_
                  obtain rfl := Option.some.inj hF
                  exact zX_reti rfl
          · refine zX_go (c := 3) (pc' := 49) (lv' := [.ref 6, .int x1, .int x2]) (st' := [.int x2, .ref 49]) (h' := zHp s t) rfl ?_
            refine zX_bal (n := 100) rfl rfl hF (fun hF => ?_)
            refine zX_go (c := 1) (pc' := if (t 19 x2.toNatClampNeg) = 0 then 56 else 53) (lv' := [.ref 6, .int x1, .int x2]) (st' := []) (h' := zHp s t) rfl ?_
            refine zX_ite hF (fun c0 hF => ?_) (fun c0 hF => ?_)
            · refine zX_go (c := 3) (pc' := 61) (lv' := [.ref 6, .int x1, .int x2]) (st' := [.int x1, .ref 48]) (h' := zHp s t) rfl ?_
              refine zX_ial (n := 100) rfl rfl hF (fun hF => ?_)
              refine zX_go (c := 2) (pc' := if (t 18 x1.toNatClampNeg) = (nI 4) then 66 else 69) (lv' := [.ref 6, .int x1, .int x2]) (st' := []) (h' := zHp s t) rfl ?_
              refine zX_ite hF (fun c0 hF => ?_) (fun c0 hF => ?_)
              · refine zX_go (c := 1) (pc' := 68) (lv' := [.ref 6, .int x1, .int x2]) (st' := [.int (-3)]) (h' := zHp s t) rfl ?_
                obtain rfl := Option.some.inj hF
                exact zX_reti rfl
              · refine zX_go (c := 3) (pc' := if x2 = (-1) then 74 else 80) (lv' := [.ref 6, .int x1, .int x2]) (st' := []) (h' := zHp s t) rfl ?_
                refine zX_ite hF (fun c0 hF => ?_) (fun c0 hF => ?_)
                · refine zX_go (c := 2) (pc' := 76) (lv' := [.ref 6, .int x1, .int x2]) (st' := [.int (nI 1), .ref 6]) (h' := zHp s t) rfl ?_
                  obtain ⟨q7, hq, hF⟩ := zbd_ok hF
                  refine zX_inv (av := [.ref 6, .int (nI 1)]) (st := []) (h' := zHp s q7.2) rfl rfl rfl rfl rfl rfl (zcall_le (t_X6_failed M _ _ _ _ hq) (by decide)) ?_
                  obtain rfl := Option.some.inj hF
                  exact zX_reti rfl
                · refine zX_go (c := 5) (pc' := 87) (lv' := [.ref 6, .int x1, .int x2]) (st' := [.int x1, .ref 47, .int x2, .ref 6]) (h' := zHp s t) rfl ?_
                  refine zX_ial (n := 100) rfl rfl hF (fun hF => ?_)
                  obtain ⟨q8, hq, hF⟩ := zbd_ok hF
                  refine zX_inv (av := [.ref 6, .int x2, .int (t 17 x1.toNatClampNeg)]) (st := []) (h' := zHp s t) rfl rfl rfl rfl rfl rfl (zcall_le (t_X6_isOfKind M _ _ _ _ _ hq) (by decide)) ?_
                  refine zX_go (c := 1) (pc' := if q8 = 0 then 94 else 100) (lv' := [.ref 6, .int x1, .int x2]) (st' := []) (h' := zHp s t) rfl ?_
                  refine zX_ite hF (fun c0 hF => ?_) (fun c0 hF => ?_)
                  · refine zX_go (c := 2) (pc' := 96) (lv' := [.ref 6, .int x1, .int x2]) (st' := [.int (nI 3), .ref 6]) (h' := zHp s t) rfl ?_
                    obtain ⟨q9, hq, hF⟩ := zbd_ok hF
                    refine zX_inv (av := [.ref 6, .int (nI 3)]) (st := []) (h' := zHp s q9.2) rfl rfl rfl rfl rfl rfl (zcall_le (t_X6_failed M _ _ _ _ hq) (by decide)) ?_
                    obtain rfl := Option.some.inj hF
                    exact zX_reti rfl
                  · refine zX_go (c := 8) (pc' := 112) (lv' := [.ref 6, .int x1, .int x2]) (st' := [.int x1, .ref 48, .int ((nI 5) * x1), .ref 50]) (h' := zHp s t) rfl ?_
                    refine zX_ial (n := 100) rfl rfl hF (fun hF => ?_)
                    refine zX_go (c := 2) (pc' := 115) (lv' := [.ref 6, .int x1, .int x2]) (st' := [.int x2, .int (((nI 5) * x1) + (t 18 x1.toNatClampNeg)), .ref 50]) (h' := zHp s t) rfl ?_
                    refine zX_ias (n := 500) (h' := zHp s (zup t 20 (((nI 5) * x1) + (t 18 x1.toNatClampNeg)).toNatClampNeg x2)) rfl rfl (zst_50 _ _ _ _) hF (fun hF => ?_)
                    refine zX_go (c := 4) (pc' := 122) (lv' := [.ref 6, .int x1, .int x2]) (st' := [.int x1, .ref 48, .int x1, .ref 48]) (h' := zHp s (zup t 20 (((nI 5) * x1) + (t 18 x1.toNatClampNeg)).toNatClampNeg x2)) rfl ?_
                    refine zX_ial (n := 100) rfl rfl hF (fun hF => ?_)
                    refine zX_go (c := 2) (pc' := 125) (lv' := [.ref 6, .int x1, .int x2]) (st' := [.int ((t 18 x1.toNatClampNeg) + (nI 1)), .int x1, .ref 48]) (h' := zHp s (zup t 20 (((nI 5) * x1) + (t 18 x1.toNatClampNeg)).toNatClampNeg x2)) rfl ?_
                    refine zX_ias (n := 100) (h' := zHp s (zup (zup t 20 (((nI 5) * x1) + (t 18 x1.toNatClampNeg)).toNatClampNeg x2) 18 x1.toNatClampNeg ((t 18 x1.toNatClampNeg) + (nI 1)))) rfl rfl (zst_48 _ _ _ _) hF (fun hF => ?_)
                    refine zX_go (c := 2) (pc' := 128) (lv' := [.ref 6, .int x1, .int x2]) (st' := [.int x2, .ref 6]) (h' := zHp s (zup (zup t 20 (((nI 5) * x1) + (t 18 x1.toNatClampNeg)).toNatClampNeg x2) 18 x1.toNatClampNeg ((t 18 x1.toNatClampNeg) + (nI 1)))) rfl ?_
                    obtain ⟨q10, hq, hF⟩ := zbd_ok hF
                    refine zX_inv (av := [.ref 6, .int x2]) (st := []) (h' := zHp s q10) rfl rfl rfl rfl rfl rfl (zcall_le (t_X6_done M _ _ _ _ hq) (by decide)) ?_
                    refine zX_go (c := 4) (pc' := 137) (lv' := [.ref 6, .int x1, .int x2]) (st' := [.int x1, .ref 48, .ref 6]) (h' := zHp s q10) rfl ?_
                    refine zX_ial (n := 100) rfl rfl hF (fun hF => ?_)
                    obtain ⟨q11, hq, hF⟩ := zbd_ok hF
                    refine zX_inv (av := [.ref 6, .int (q10 18 x1.toNatClampNeg)]) (st := []) (h' := zHp s q11.2) rfl rfl rfl rfl rfl rfl (zcall_le (t_X6_good M _ _ _ _ hq) (by decide)) ?_
                    obtain rfl := Option.some.inj hF
                    exact zX_reti rfl
            · refine zX_go (c := 1) (pc' := 55) (lv' := [.ref 6, .int x1, .int x2]) (st' := [.int (-4)]) (h' := zHp s t) rfl ?_
              obtain rfl := Option.some.inj hF
              exact zX_reti rfl
      · refine zX_go (c := 1) (pc' := 55) (lv' := [.ref 6, .int x1, .int x2]) (st' := [.int (-4)]) (h' := zHp s t) rfl ?_
        obtain rfl := Option.some.inj hF
        exact zX_reti rfl
    · refine zX_go (c := 2) (pc' := 16) (lv' := [.ref 6, .int x1, .int x2]) (st' := [.int x2, .ref 6]) (h' := zHp s t) rfl ?_
      obtain ⟨q12, hq, hF⟩ := zbd_ok hF
      refine zX_inv (av := [.ref 6, .int x2]) (st := []) (h' := zHp s t) rfl rfl rfl rfl rfl rfl (zcall_le (t_X6_isValue M _ _ _ _ hq) (by decide)) ?_
      refine zX_go (c := 1) (pc' := if q12 = 0 then 22 else 25) (lv' := [.ref 6, .int x1, .int x2]) (st' := []) (h' := zHp s t) rfl ?_
      refine zX_ite hF (fun c0 hF => ?_) (fun c0 hF => ?_)
      · refine zX_go (c := 1) (pc' := 24) (lv' := [.ref 6, .int x1, .int x2]) (st' := [.int (-2)]) (h' := zHp s t) rfl ?_
        obtain rfl := Option.some.inj hF
        exact zX_reti rfl
      · refine zX_go (c := 3) (pc' := 30) (lv' := [.ref 6, .int x1, .int x2]) (st' := [.int x1, .ref 49]) (h' := zHp s t) rfl ?_
        refine zX_bal (n := 100) rfl rfl hF (fun hF => ?_)
        refine zX_go (c := 1) (pc' := if (t 19 x1.toNatClampNeg) = 0 then 34 else 53) (lv' := [.ref 6, .int x1, .int x2]) (st' := []) (h' := zHp s t) rfl ?_
        refine zX_ite hF (fun c0 hF => ?_) (fun c0 hF => ?_)
        · refine zX_go (c := 3) (pc' := if x2 = x1 then 53 else 39) (lv' := [.ref 6, .int x1, .int x2]) (st' := []) (h' := zHp s t) rfl ?_
          refine zX_ite hF (fun c0 hF => ?_) (fun c0 hF => ?_)
          · refine zX_go (c := 1) (pc' := 55) (lv' := [.ref 6, .int x1, .int x2]) (st' := [.int (-4)]) (h' := zHp s t) rfl ?_
            obtain rfl := Option.some.inj hF
            exact zX_reti rfl
          · refine zX_go (c := 3) (pc' := if x2 = (-1) then 56 else 44) (lv' := [.ref 6, .int x1, .int x2]) (st' := []) (h' := zHp s t) rfl ?_
            refine zX_ite hF (fun c0 hF => ?_) (fun c0 hF => ?_)
            · refine zX_go (c := 3) (pc' := 61) (lv' := [.ref 6, .int x1, .int x2]) (st' := [.int x1, .ref 48]) (h' := zHp s t) rfl ?_
              refine zX_ial (n := 100) rfl rfl hF (fun hF => ?_)
              refine zX_go (c := 2) (pc' := if (t 18 x1.toNatClampNeg) = (nI 4) then 66 else 69) (lv' := [.ref 6, .int x1, .int x2]) (st' := []) (h' := zHp s t) rfl ?_
              refine zX_ite hF (fun c0 hF => ?_) (fun c0 hF => ?_)
              · refine zX_go (c := 1) (pc' := 68) (lv' := [.ref 6, .int x1, .int x2]) (st' := [.int (-3)]) (h' := zHp s t) rfl ?_
                obtain rfl := Option.some.inj hF
                exact zX_reti rfl
              · refine zX_go (c := 3) (pc' := if x2 = (-1) then 74 else 80) (lv' := [.ref 6, .int x1, .int x2]) (st' := []) (h' := zHp s t) rfl ?_
                refine zX_ite hF (fun c0 hF => ?_) (fun c0 hF => ?_)
                · refine zX_go (c := 2) (pc' := 76) (lv' := [.ref 6, .int x1, .int x2]) (st' := [.int (nI 1), .ref 6]) (h' := zHp s t) rfl ?_
                  obtain ⟨q13, hq, hF⟩ := zbd_ok hF
                  refine zX_inv (av := [.ref 6, .int (nI 1)]) (st := []) (h' := zHp s q13.2) rfl rfl rfl rfl rfl rfl (zcall_le (t_X6_failed M _ _ _ _ hq) (by decide)) ?_
                  obtain rfl := Option.some.inj hF
                  exact zX_reti rfl
                · refine zX_go (c := 5) (pc' := 87) (lv' := [.ref 6, .int x1, .int x2]) (st' := [.int x1, .ref 47, .int x2, .ref 6]) (h' := zHp s t) rfl ?_
                  refine zX_ial (n := 100) rfl rfl hF (fun hF => ?_)
                  obtain ⟨q14, hq, hF⟩ := zbd_ok hF
                  refine zX_inv (av := [.ref 6, .int x2, .int (t 17 x1.toNatClampNeg)]) (st := []) (h' := zHp s t) rfl rfl rfl rfl rfl rfl (zcall_le (t_X6_isOfKind M _ _ _ _ _ hq) (by decide)) ?_
                  refine zX_go (c := 1) (pc' := if q14 = 0 then 94 else 100) (lv' := [.ref 6, .int x1, .int x2]) (st' := []) (h' := zHp s t) rfl ?_
                  refine zX_ite hF (fun c0 hF => ?_) (fun c0 hF => ?_)
                  · refine zX_go (c := 2) (pc' := 96) (lv' := [.ref 6, .int x1, .int x2]) (st' := [.int (nI 3), .ref 6]) (h' := zHp s t) rfl ?_
                    obtain ⟨q15, hq, hF⟩ := zbd_ok hF
                    refine zX_inv (av := [.ref 6, .int (nI 3)]) (st := []) (h' := zHp s q15.2) rfl rfl rfl rfl rfl rfl (zcall_le (t_X6_failed M _ _ _ _ hq) (by decide)) ?_
                    obtain rfl := Option.some.inj hF
                    exact zX_reti rfl
                  · refine zX_go (c := 8) (pc' := 112) (lv' := [.ref 6, .int x1, .int x2]) (st' := [.int x1, .ref 48, .int ((nI 5) * x1), .ref 50]) (h' := zHp s t) rfl ?_
                    refine zX_ial (n := 100) rfl rfl hF (fun hF => ?_)
                    refine zX_go (c := 2) (pc' := 115) (lv' := [.ref 6, .int x1, .int x2]) (st' := [.int x2, .int (((nI 5) * x1) + (t 18 x1.toNatClampNeg)), .ref 50]) (h' := zHp s t) rfl ?_
                    refine zX_ias (n := 500) (h' := zHp s (zup t 20 (((nI 5) * x1) + (t 18 x1.toNatClampNeg)).toNatClampNeg x2)) rfl rfl (zst_50 _ _ _ _) hF (fun hF => ?_)
                    refine zX_go (c := 4) (pc' := 122) (lv' := [.ref 6, .int x1, .int x2]) (st' := [.int x1, .ref 48, .int x1, .ref 48]) (h' := zHp s (zup t 20 (((nI 5) * x1) + (t 18 x1.toNatClampNeg)).toNatClampNeg x2)) rfl ?_
                    refine zX_ial (n := 100) rfl rfl hF (fun hF => ?_)
                    refine zX_go (c := 2) (pc' := 125) (lv' := [.ref 6, .int x1, .int x2]) (st' := [.int ((t 18 x1.toNatClampNeg) + (nI 1)), .int x1, .ref 48]) (h' := zHp s (zup t 20 (((nI 5) * x1) + (t 18 x1.toNatClampNeg)).toNatClampNeg x2)) rfl ?_
                    refine zX_ias (n := 100) (h' := zHp s (zup (zup t 20 (((nI 5) * x1) + (t 18 x1.toNatClampNeg)).toNatClampNeg x2) 18 x1.toNatClampNeg ((t 18 x1.toNatClampNeg) + (nI 1)))) rfl rfl (zst_48 _ _ _ _) hF (fun hF => ?_)
                    refine zX_go (c := 2) (pc' := 128) (lv' := [.ref 6, .int x1, .int x2]) (st' := [.int x2, .ref 6]) (h' := zHp s (zup (zup t 20 (((nI 5) * x1) + (t 18 x1.toNatClampNeg)).toNatClampNeg x2) 18 x1.toNatClampNeg ((t 18 x1.toNatClampNeg) + (nI 1)))) rfl ?_
                    obtain ⟨q16, hq, hF⟩ := zbd_ok hF
                    refine zX_inv (av := [.ref 6, .int x2]) (st := []) (h' := zHp s q16) rfl rfl rfl rfl rfl rfl (zcall_le (t_X6_done M _ _ _ _ hq) (by decide)) ?_
                    refine zX_go (c := 4) (pc' := 137) (lv' := [.ref 6, .int x1, .int x2]) (st' := [.int x1, .ref 48, .ref 6]) (h' := zHp s q16) rfl ?_
                    refine zX_ial (n := 100) rfl rfl hF (fun hF => ?_)
                    obtain ⟨q17, hq, hF⟩ := zbd_ok hF
                    refine zX_inv (av := [.ref 6, .int (q16 18 x1.toNatClampNeg)]) (st := []) (h' := zHp s q17.2) rfl rfl rfl rfl rfl rfl (zcall_le (t_X6_good M _ _ _ _ hq) (by decide)) ?_
                    obtain rfl := Option.some.inj hF
                    exact zX_reti rfl
            · refine zX_go (c := 3) (pc' := 49) (lv' := [.ref 6, .int x1, .int x2]) (st' := [.int x2, .ref 49]) (h' := zHp s t) rfl ?_
              refine zX_bal (n := 100) rfl rfl hF (fun hF => ?_)
              refine zX_go (c := 1) (pc' := if (t 19 x2.toNatClampNeg) = 0 then 56 else 53) (lv' := [.ref 6, .int x1, .int x2]) (st' := []) (h' := zHp s t) rfl ?_
              refine zX_ite hF (fun c0 hF => ?_) (fun c0 hF => ?_)
              · refine zX_go (c := 3) (pc' := 61) (lv' := [.ref 6, .int x1, .int x2]) (st' := [.int x1, .ref 48]) (h' := zHp s t) rfl ?_
                refine zX_ial (n := 100) rfl rfl hF (fun hF => ?_)
                refine zX_go (c := 2) (pc' := if (t 18 x1.toNatClampNeg) = (nI 4) then 66 else 69) (lv' := [.ref 6, .int x1, .int x2]) (st' := []) (h' := zHp s t) rfl ?_
                refine zX_ite hF (fun c0 hF => ?_) (fun c0 hF => ?_)
                · refine zX_go (c := 1) (pc' := 68) (lv' := [.ref 6, .int x1, .int x2]) (st' := [.int (-3)]) (h' := zHp s t) rfl ?_
                  obtain rfl := Option.some.inj hF
                  exact zX_reti rfl
                · refine zX_go (c := 3) (pc' := if x2 = (-1) then 74 else 80) (lv' := [.ref 6, .int x1, .int x2]) (st' := []) (h' := zHp s t) rfl ?_
                  refine zX_ite hF (fun c0 hF => ?_) (fun c0 hF => ?_)
                  · refine zX_go (c := 2) (pc' := 76) (lv' := [.ref 6, .int x1, .int x2]) (st' := [.int (nI 1), .ref 6]) (h' := zHp s t) rfl ?_
                    obtain ⟨q18, hq, hF⟩ := zbd_ok hF
                    refine zX_inv (av := [.ref 6, .int (nI 1)]) (st := []) (h' := zHp s q18.2) rfl rfl rfl rfl rfl rfl (zcall_le (t_X6_failed M _ _ _ _ hq) (by decide)) ?_
                    obtain rfl := Option.some.inj hF
                    exact zX_reti rfl
                  · refine zX_go (c := 5) (pc' := 87) (lv' := [.ref 6, .int x1, .int x2]) (st' := [.int x1, .ref 47, .int x2, .ref 6]) (h' := zHp s t) rfl ?_
                    refine zX_ial (n := 100) rfl rfl hF (fun hF => ?_)
                    obtain ⟨q19, hq, hF⟩ := zbd_ok hF
                    refine zX_inv (av := [.ref 6, .int x2, .int (t 17 x1.toNatClampNeg)]) (st := []) (h' := zHp s t) rfl rfl rfl rfl rfl rfl (zcall_le (t_X6_isOfKind M _ _ _ _ _ hq) (by decide)) ?_
                    refine zX_go (c := 1) (pc' := if q19 = 0 then 94 else 100) (lv' := [.ref 6, .int x1, .int x2]) (st' := []) (h' := zHp s t) rfl ?_
                    refine zX_ite hF (fun c0 hF => ?_) (fun c0 hF => ?_)
                    · refine zX_go (c := 2) (pc' := 96) (lv' := [.ref 6, .int x1, .int x2]) (st' := [.int (nI 3), .ref 6]) (h' := zHp s t) rfl ?_
                      obtain ⟨q20, hq, hF⟩ := zbd_ok hF
                      refine zX_inv (av := [.ref 6, .int (nI 3)]) (st := []) (h' := zHp s q20.2) rfl rfl rfl rfl rfl rfl (zcall_le (t_X6_failed M _ _ _ _ hq) (by decide)) ?_
                      obtain rfl := Option.some.inj hF
                      exact zX_reti rfl
                    · refine zX_go (c := 8) (pc' := 112) (lv' := [.ref 6, .int x1, .int x2]) (st' := [.int x1, .ref 48, .int ((nI 5) * x1), .ref 50]) (h' := zHp s t) rfl ?_
                      refine zX_ial (n := 100) rfl rfl hF (fun hF => ?_)
                      refine zX_go (c := 2) (pc' := 115) (lv' := [.ref 6, .int x1, .int x2]) (st' := [.int x2, .int (((nI 5) * x1) + (t 18 x1.toNatClampNeg)), .ref 50]) (h' := zHp s t) rfl ?_
                      refine zX_ias (n := 500) (h' := zHp s (zup t 20 (((nI 5) * x1) + (t 18 x1.toNatClampNeg)).toNatClampNeg x2)) rfl rfl (zst_50 _ _ _ _) hF (fun hF => ?_)
                      refine zX_go (c := 4) (pc' := 122) (lv' := [.ref 6, .int x1, .int x2]) (st' := [.int x1, .ref 48, .int x1, .ref 48]) (h' := zHp s (zup t 20 (((nI 5) * x1) + (t 18 x1.toNatClampNeg)).toNatClampNeg x2)) rfl ?_
                      refine zX_ial (n := 100) rfl rfl hF (fun hF => ?_)
                      refine zX_go (c := 2) (pc' := 125) (lv' := [.ref 6, .int x1, .int x2]) (st' := [.int ((t 18 x1.toNatClampNeg) + (nI 1)), .int x1, .ref 48]) (h' := zHp s (zup t 20 (((nI 5) * x1) + (t 18 x1.toNatClampNeg)).toNatClampNeg x2)) rfl ?_
                      refine zX_ias (n := 100) (h' := zHp s (zup (zup t 20 (((nI 5) * x1) + (t 18 x1.toNatClampNeg)).toNatClampNeg x2) 18 x1.toNatClampNeg ((t 18 x1.toNatClampNeg) + (nI 1)))) rfl rfl (zst_48 _ _ _ _) hF (fun hF => ?_)
                      refine zX_go (c := 2) (pc' := 128) (lv' := [.ref 6, .int x1, .int x2]) (st' := [.int x2, .ref 6]) (h' := zHp s (zup (zup t 20 (((nI 5) * x1) + (t 18 x1.toNatClampNeg)).toNatClampNeg x2) 18 x1.toNatClampNeg ((t 18 x1.toNatClampNeg) + (nI 1)))) rfl ?_
                      obtain ⟨q21, hq, hF⟩ := zbd_ok hF
                      refine zX_inv (av := [.ref 6, .int x2]) (st := []) (h' := zHp s q21) rfl rfl rfl rfl rfl rfl (zcall_le (t_X6_done M _ _ _ _ hq) (by decide)) ?_
                      refine zX_go (c := 4) (pc' := 137) (lv' := [.ref 6, .int x1, .int x2]) (st' := [.int x1, .ref 48, .ref 6]) (h' := zHp s q21) rfl ?_
                      refine zX_ial (n := 100) rfl rfl hF (fun hF => ?_)
                      obtain ⟨q22, hq, hF⟩ := zbd_ok hF
                      refine zX_inv (av := [.ref 6, .int (q21 18 x1.toNatClampNeg)]) (st := []) (h' := zHp s q22.2) rfl rfl rfl rfl rfl rfl (zcall_le (t_X6_good M _ _ _ _ hq) (by decide)) ?_
                      obtain rfl := Option.some.inj hF
                      exact zX_reti rfl
              · refine zX_go (c := 1) (pc' := 55) (lv' := [.ref 6, .int x1, .int x2]) (st' := [.int (-4)]) (h' := zHp s t) rfl ?_
                obtain rfl := Option.some.inj hF
                exact zX_reti rfl
        · refine zX_go (c := 1) (pc' := 55) (lv' := [.ref 6, .int x1, .int x2]) (st' := [.int (-4)]) (h' := zHp s t) rfl ?_
          obtain rfl := Option.some.inj hF
          exact zX_reti rfl
def f_X6_given (M : Nat) (t : zS) (x1 x2 : Int32) : Option (Int32 × zS) :=
  if x2 = (-1) then
   if x2 = (-1) then
    zbd (f_X6_failed M t (nI 1)) (fun q1 =>
     some (q1.1, q1.2))
   else
    zq (zin x1 60) <|
    if (t 9 x1.toNatClampNeg) = 0 then
     zbd (f_X6_failed M t (nI 2)) (fun q2 =>
      some (q2.1, q2.2))
    else
     zq (zin x2 100) <|
     if (t 16 x2.toNatClampNeg) = (nI 1) then
      zq (zin x2 100) <|
      zq (zin x1 60) <|
      if (t 17 x2.toNatClampNeg) = (t 8 x1.toNatClampNeg) then
       zbd (f_X6_done M t x2) (fun q3 =>
        zbd (f_X6_good M q3 x2) (fun q4 =>
         some (q4.1, q4.2)))
      else
       zbd (f_X6_failed M t (nI 2)) (fun q5 =>
        some (q5.1, q5.2))
     else
      zbd (f_X6_failed M t (nI 2)) (fun q6 =>
       some (q6.1, q6.2))
  else
   zq (zin x1 60) <|
   zbd (f_X6_isOfKind M t x2 (t 8 x1.toNatClampNeg)) (fun q7 =>
    if q7 = 0 then
     if x2 = (-1) then
      zbd (f_X6_failed M t (nI 1)) (fun q8 =>
       some (q8.1, q8.2))
     else
      zq (zin x1 60) <|
      if (t 9 x1.toNatClampNeg) = 0 then
       zbd (f_X6_failed M t (nI 2)) (fun q9 =>
        some (q9.1, q9.2))
      else
       zq (zin x2 100) <|
       if (t 16 x2.toNatClampNeg) = (nI 1) then
        zq (zin x2 100) <|
        zq (zin x1 60) <|
        if (t 17 x2.toNatClampNeg) = (t 8 x1.toNatClampNeg) then
         zbd (f_X6_done M t x2) (fun q10 =>
          zbd (f_X6_good M q10 x2) (fun q11 =>
           some (q11.1, q11.2)))
        else
         zbd (f_X6_failed M t (nI 2)) (fun q12 =>
          some (q12.1, q12.2))
       else
        zbd (f_X6_failed M t (nI 2)) (fun q13 =>
         some (q13.1, q13.2))
    else
     zq (zin x1 60) <|
     if (t 9 x1.toNatClampNeg) = 0 then
      if x2 = (-1) then
       zbd (f_X6_failed M t (nI 1)) (fun q14 =>
        some (q14.1, q14.2))
      else
       zq (zin x1 60) <|
       if (t 9 x1.toNatClampNeg) = 0 then
        zq (zin x1 60) <|
        if (t 9 x1.toNatClampNeg) = 0 then
         zq (zin x1 60) <|
         if (t 9 x1.toNatClampNeg) = 0 then
          zbd (f_X6_done M t x2) (fun q15 =>
           zbd (f_X6_good M q15 x2) (fun q16 =>
            some (q16.1, q16.2)))
         else
          zbd (f_X6_failed M t (nI 2)) (fun q17 =>
           some (q17.1, q17.2))
        else
         zq (zin x2 100) <|
         if (t 16 x2.toNatClampNeg) = (nI 1) then
          zq (zin x2 100) <|
          zq (zin x1 60) <|
          if (t 17 x2.toNatClampNeg) = (t 8 x1.toNatClampNeg) then
           zbd (f_X6_done M t x2) (fun q18 =>
            zbd (f_X6_good M q18 x2) (fun q19 =>
             some (q19.1, q19.2)))
          else
           zq (zin x1 60) <|
           if (t 9 x1.toNatClampNeg) = 0 then
            zbd (f_X6_done M t x2) (fun q20 =>
             zbd (f_X6_good M q20 x2) (fun q21 =>
              some (q21.1, q21.2)))
           else
            zbd (f_X6_failed M t (nI 2)) (fun q22 =>
             some (q22.1, q22.2))
         else
          zq (zin x1 60) <|
          if (t 9 x1.toNatClampNeg) = 0 then
           zbd (f_X6_done M t x2) (fun q23 =>
            zbd (f_X6_good M q23 x2) (fun q24 =>
             some (q24.1, q24.2)))
          else
           zbd (f_X6_failed M t (nI 2)) (fun q25 =>
            some (q25.1, q25.2))
       else
        zq (zin x1 60) <|
        zbd (f_X6_added M t (nI 1) (t 8 x1.toNatClampNeg) (nI 1)) (fun q26 =>
         zq (zin ((nI 5) * q26.1) 500) <|
         zbd (f_X6_done M (zup q26.2 20 ((nI 5) * q26.1).toNatClampNeg x2) x2) (fun q27 =>
          zbd (f_X6_done M q27 q26.1) (fun q28 =>
           zbd (f_X6_good M q28 q26.1) (fun q29 =>
            some (q29.1, q29.2)))))
     else
      if (t 15 0) = (nI 100) then
       some ((-3), t)
      else
       if x2 = (-1) then
        zbd (f_X6_failed M t (nI 1)) (fun q30 =>
         some (q30.1, q30.2))
       else
        zq (zin x1 60) <|
        if (t 9 x1.toNatClampNeg) = 0 then
         zq (zin x1 60) <|
         if (t 9 x1.toNatClampNeg) = 0 then
          zq (zin x1 60) <|
          if (t 9 x1.toNatClampNeg) = 0 then
           zbd (f_X6_done M t x2) (fun q31 =>
            zbd (f_X6_good M q31 x2) (fun q32 =>
             some (q32.1, q32.2)))
          else
           zbd (f_X6_failed M t (nI 2)) (fun q33 =>
            some (q33.1, q33.2))
         else
          zq (zin x2 100) <|
          if (t 16 x2.toNatClampNeg) = (nI 1) then
           zq (zin x2 100) <|
           zq (zin x1 60) <|
           if (t 17 x2.toNatClampNeg) = (t 8 x1.toNatClampNeg) then
            zbd (f_X6_done M t x2) (fun q34 =>
             zbd (f_X6_good M q34 x2) (fun q35 =>
              some (q35.1, q35.2)))
           else
            zq (zin x1 60) <|
            if (t 9 x1.toNatClampNeg) = 0 then
             zbd (f_X6_done M t x2) (fun q36 =>
              zbd (f_X6_good M q36 x2) (fun q37 =>
               some (q37.1, q37.2)))
            else
             zbd (f_X6_failed M t (nI 2)) (fun q38 =>
              some (q38.1, q38.2))
          else
           zq (zin x1 60) <|
           if (t 9 x1.toNatClampNeg) = 0 then
            zbd (f_X6_done M t x2) (fun q39 =>
             zbd (f_X6_good M q39 x2) (fun q40 =>
              some (q40.1, q40.2)))
           else
            zbd (f_X6_failed M t (nI 2)) (fun q41 =>
             some (q41.1, q41.2))
        else
         zq (zin x1 60) <|
         zbd (f_X6_added M t (nI 1) (t 8 x1.toNatClampNeg) (nI 1)) (fun q42 =>
          zq (zin ((nI 5) * q42.1) 500) <|
          zbd (f_X6_done M (zup q42.2 20 ((nI 5) * q42.1).toNatClampNeg x2) x2) (fun q43 =>
           zbd (f_X6_done M q43 q42.1) (fun q44 =>
            zbd (f_X6_good M q44 q42.1) (fun q45 =>
             some (q45.1, q45.2))))))
set_option maxRecDepth 100000 in
set_option maxHeartbeats 4000000 in
theorem t_X6_given {L : Nat} {xs : Nat → Int32} (M : Nat) (s t : zS) (x1 x2 : Int32) (R : Int32 × zS) (hF : f_X6_given M t x1 x2 = some R) : zcall (ztb L xs) 2 114 [.ref 6, .int x1, .int x2] (zHp s t) = some (some (.int R.1), zHp s R.2) := by
  unfold f_X6_given at hF
  refine zcall_X (d := 1) (e := zm_X6_given) rfl rfl ?_
  show zX (ztb L xs) (zcall (ztb L xs) 1) 6 1 zk_X6_given 0 [.ref 6, .int x1, .int x2, .retAddr 0, .retAddr 0] [] (zHp s t) _
  refine zX_go (c := 3) (pc' := if x2 = (-1) then 23 else 5) (lv' := [.ref 6, .int x1, .int x2, .retAddr 0, .retAddr 0]) (st' := []) (h' := zHp s t) rfl ?_
  refine zX_ite hF (fun c0 hF => ?_) (fun c0 hF => ?_)
  · refine zX_go (c := 4) (pc' := if (nI 0) = 0 then 50 else 29) (lv' := [.ref 6, .int x1, .int x2, .int (nI 0), .retAddr 0]) (st' := []) (h' := zHp s t) rfl ?_
    rw [if_pos (show (nI 0) = 0 by decide)]
    refine zX_go (c := 3) (pc' := if x2 = (-1) then 55 else 61) (lv' := [.ref 6, .int x1, .int x2, .int (nI 0), .retAddr 0]) (st' := []) (h' := zHp s t) rfl ?_
    refine zX_ite hF (fun c0 hF => ?_) (fun c0 hF => ?_)
    · refine zX_go (c := 2) (pc' := 57) (lv' := [.ref 6, .int x1, .int x2, .int (nI 0), .retAddr 0]) (st' := [.int (nI 1), .ref 6]) (h' := zHp s t) rfl ?_
      obtain ⟨q1, hq, hF⟩ := zbd_ok hF
      refine zX_inv (av := [.ref 6, .int (nI 1)]) (st := []) (h' := zHp s q1.2) rfl rfl rfl rfl rfl rfl (zcall_le (t_X6_failed M _ _ _ _ hq) (by decide)) ?_
      obtain rfl := Option.some.inj hF
      exact zX_reti rfl
    · refine zX_go (c := 2) (pc' := if (nI 0) = 0 then 116 else 65) (lv' := [.ref 6, .int x1, .int x2, .int (nI 0), .retAddr 0]) (st' := []) (h' := zHp s t) rfl ?_
      rw [if_pos (show (nI 0) = 0 by decide)]
      refine zX_go (c := 3) (pc' := 121) (lv' := [.ref 6, .int x1, .int x2, .int (nI 0), .retAddr 0]) (st' := [.int x1, .ref 41]) (h' := zHp s t) rfl ?_
      refine zX_bal (n := 60) rfl rfl hF (fun hF => ?_)
      refine zX_go (c := 1) (pc' := if (t 9 x1.toNatClampNeg) = 0 then 154 else 125) (lv' := [.ref 6, .int x1, .int x2, .int (nI 0), .retAddr 0]) (st' := []) (h' := zHp s t) rfl ?_
      refine zX_ite hF (fun c0 hF => ?_) (fun c0 hF => ?_)
      · refine zX_go (c := 4) (pc' := if (nI 0) = 0 then 162 else 181) (lv' := [.ref 6, .int x1, .int x2, .int (nI 0), .int (nI 0)]) (st' := []) (h' := zHp s t) rfl ?_
        rw [if_pos (show (nI 0) = 0 by decide)]
        refine zX_go (c := 2) (pc' := if (nI 0) = 0 then 175 else 166) (lv' := [.ref 6, .int x1, .int x2, .int (nI 0), .int (nI 0)]) (st' := []) (h' := zHp s t) rfl ?_
        rw [if_pos (show (nI 0) = 0 by decide)]
        refine zX_go (c := 2) (pc' := 177) (lv' := [.ref 6, .int x1, .int x2, .int (nI 0), .int (nI 0)]) (st' := [.int (nI 2), .ref 6]) (h' := zHp s t) rfl ?_
        obtain ⟨q2, hq, hF⟩ := zbd_ok hF
        refine zX_inv (av := [.ref 6, .int (nI 2)]) (st := []) (h' := zHp s q2.2) rfl rfl rfl rfl rfl rfl (zcall_le (t_X6_failed M _ _ _ _ hq) (by decide)) ?_
        obtain rfl := Option.some.inj hF
        exact zX_reti rfl
      · refine zX_go (c := 3) (pc' := 130) (lv' := [.ref 6, .int x1, .int x2, .int (nI 0), .retAddr 0]) (st' := [.int x2, .ref 46]) (h' := zHp s t) rfl ?_
        refine zX_ial (n := 100) rfl rfl hF (fun hF => ?_)
        refine zX_go (c := 2) (pc' := if (t 16 x2.toNatClampNeg) = (nI 1) then 135 else 154) (lv' := [.ref 6, .int x1, .int x2, .int (nI 0), .retAddr 0]) (st' := []) (h' := zHp s t) rfl ?_
        refine zX_ite hF (fun c0 hF => ?_) (fun c0 hF => ?_)
        · refine zX_go (c := 3) (pc' := 140) (lv' := [.ref 6, .int x1, .int x2, .int (nI 0), .retAddr 0]) (st' := [.int x2, .ref 47]) (h' := zHp s t) rfl ?_
          refine zX_ial (n := 100) rfl rfl hF (fun hF => ?_)
          refine zX_go (c := 3) (pc' := 146) (lv' := [.ref 6, .int x1, .int x2, .int (nI 0), .retAddr 0]) (st' := [.int x1, .ref 40, .int (t 17 x2.toNatClampNeg)]) (h' := zHp s t) rfl ?_
          refine zX_ial (n := 60) rfl rfl hF (fun hF => ?_)
          refine zX_go (c := 1) (pc' := if (t 17 x2.toNatClampNeg) = (t 8 x1.toNatClampNeg) then 150 else 154) (lv' := [.ref 6, .int x1, .int x2, .int (nI 0), .retAddr 0]) (st' := []) (h' := zHp s t) rfl ?_
          refine zX_ite hF (fun c0 hF => ?_) (fun c0 hF => ?_)
          · refine zX_go (c := 5) (pc' := if (nI 1) = 0 then 162 else 181) (lv' := [.ref 6, .int x1, .int x2, .int (nI 0), .int (nI 1)]) (st' := []) (h' := zHp s t) rfl ?_
            rw [if_neg (show ¬ ((nI 1) = 0) by decide)]
            refine zX_go (c := 2) (pc' := 183) (lv' := [.ref 6, .int x1, .int x2, .int (nI 0), .int (nI 1)]) (st' := [.int x2, .ref 6]) (h' := zHp s t) rfl ?_
            obtain ⟨q3, hq, hF⟩ := zbd_ok hF
            refine zX_inv (av := [.ref 6, .int x2]) (st := []) (h' := zHp s q3) rfl rfl rfl rfl rfl rfl (zcall_le (t_X6_done M _ _ _ _ hq) (by decide)) ?_
            refine zX_go (c := 2) (pc' := 188) (lv' := [.ref 6, .int x1, .int x2, .int (nI 0), .int (nI 1)]) (st' := [.int x2, .ref 6]) (h' := zHp s q3) rfl ?_
            obtain ⟨q4, hq, hF⟩ := zbd_ok hF
            refine zX_inv (av := [.ref 6, .int x2]) (st := []) (h' := zHp s q4.2) rfl rfl rfl rfl rfl rfl (zcall_le (t_X6_good M _ _ _ _ hq) (by decide)) ?_
            obtain rfl := Option.some.inj hF
            exact zX_reti rfl
          · refine zX_go (c := 4) (pc' := if (nI 0) = 0 then 162 else 181) (lv' := [.ref 6, .int x1, .int x2, .int (nI 0), .int (nI 0)]) (st' := []) (h' := zHp s t) rfl ?_
            rw [if_pos (show (nI 0) = 0 by decide)]
            refine zX_go (c := 2) (pc' := if (nI 0) = 0 then 175 else 166) (lv' := [.ref 6, .int x1, .int x2, .int (nI 0), .int (nI 0)]) (st' := []) (h' := zHp s t) rfl ?_
            rw [if_pos (show (nI 0) = 0 by decide)]
            refine zX_go (c := 2) (pc' := 177) (lv' := [.ref 6, .int x1, .int x2, .int (nI 0), .int (nI 0)]) (st' := [.int (nI 2), .ref 6]) (h' := zHp s t) rfl ?_
            obtain ⟨q5, hq, hF⟩ := zbd_ok hF
            refine zX_inv (av := [.ref 6, .int (nI 2)]) (st := []) (h' := zHp s q5.2) rfl rfl rfl rfl rfl rfl (zcall_le (t_X6_failed M _ _ _ _ hq) (by decide)) ?_
            obtain rfl := Option.some.inj hF
            exact zX_reti rfl
        · refine zX_go (c := 4) (pc' := if (nI 0) = 0 then 162 else 181) (lv' := [.ref 6, .int x1, .int x2, .int (nI 0), .int (nI 0)]) (st' := []) (h' := zHp s t) rfl ?_
          rw [if_pos (show (nI 0) = 0 by decide)]
          refine zX_go (c := 2) (pc' := if (nI 0) = 0 then 175 else 166) (lv' := [.ref 6, .int x1, .int x2, .int (nI 0), .int (nI 0)]) (st' := []) (h' := zHp s t) rfl ?_
          rw [if_pos (show (nI 0) = 0 by decide)]
          refine zX_go (c := 2) (pc' := 177) (lv' := [.ref 6, .int x1, .int x2, .int (nI 0), .int (nI 0)]) (st' := [.int (nI 2), .ref 6]) (h' := zHp s t) rfl ?_
          obtain ⟨q6, hq, hF⟩ := zbd_ok hF
          refine zX_inv (av := [.ref 6, .int (nI 2)]) (st := []) (h' := zHp s q6.2) rfl rfl rfl rfl rfl rfl (zcall_le (t_X6_failed M _ _ _ _ hq) (by decide)) ?_
          obtain rfl := Option.some.inj hF
          exact zX_reti rfl
  · refine zX_go (c := 5) (pc' := 12) (lv' := [.ref 6, .int x1, .int x2, .retAddr 0, .retAddr 0]) (st' := [.int x1, .ref 40, .int x2, .ref 6]) (h' := zHp s t) rfl ?_
    refine zX_ial (n := 60) rfl rfl hF (fun hF => ?_)
    obtain ⟨q7, hq, hF⟩ := zbd_ok hF
    refine zX_inv (av := [.ref 6, .int x2, .int (t 8 x1.toNatClampNeg)]) (st := []) (h' := zHp s t) rfl rfl rfl rfl rfl rfl (zcall_le (t_X6_isOfKind M _ _ _ _ _ hq) (by decide)) ?_
    refine zX_go (c := 1) (pc' := if q7 = 0 then 23 else 19) (lv' := [.ref 6, .int x1, .int x2, .retAddr 0, .retAddr 0]) (st' := []) (h' := zHp s t) rfl ?_
    refine zX_ite hF (fun c0 hF => ?_) (fun c0 hF => ?_)
    · refine zX_go (c := 4) (pc' := if (nI 0) = 0 then 50 else 29) (lv' := [.ref 6, .int x1, .int x2, .int (nI 0), .retAddr 0]) (st' := []) (h' := zHp s t) rfl ?_
      rw [if_pos (show (nI 0) = 0 by decide)]
      refine zX_go (c := 3) (pc' := if x2 = (-1) then 55 else 61) (lv' := [.ref 6, .int x1, .int x2, .int (nI 0), .retAddr 0]) (st' := []) (h' := zHp s t) rfl ?_
      refine zX_ite hF (fun c0 hF => ?_) (fun c0 hF => ?_)
      · refine zX_go (c := 2) (pc' := 57) (lv' := [.ref 6, .int x1, .int x2, .int (nI 0), .retAddr 0]) (st' := [.int (nI 1), .ref 6]) (h' := zHp s t) rfl ?_
        obtain ⟨q8, hq, hF⟩ := zbd_ok hF
        refine zX_inv (av := [.ref 6, .int (nI 1)]) (st := []) (h' := zHp s q8.2) rfl rfl rfl rfl rfl rfl (zcall_le (t_X6_failed M _ _ _ _ hq) (by decide)) ?_
        obtain rfl := Option.some.inj hF
        exact zX_reti rfl
      · refine zX_go (c := 2) (pc' := if (nI 0) = 0 then 116 else 65) (lv' := [.ref 6, .int x1, .int x2, .int (nI 0), .retAddr 0]) (st' := []) (h' := zHp s t) rfl ?_
        rw [if_pos (show (nI 0) = 0 by decide)]
        refine zX_go (c := 3) (pc' := 121) (lv' := [.ref 6, .int x1, .int x2, .int (nI 0), .retAddr 0]) (st' := [.int x1, .ref 41]) (h' := zHp s t) rfl ?_
        refine zX_bal (n := 60) rfl rfl hF (fun hF => ?_)
        refine zX_go (c := 1) (pc' := if (t 9 x1.toNatClampNeg) = 0 then 154 else 125) (lv' := [.ref 6, .int x1, .int x2, .int (nI 0), .retAddr 0]) (st' := []) (h' := zHp s t) rfl ?_
        refine zX_ite hF (fun c0 hF => ?_) (fun c0 hF => ?_)
        · refine zX_go (c := 4) (pc' := if (nI 0) = 0 then 162 else 181) (lv' := [.ref 6, .int x1, .int x2, .int (nI 0), .int (nI 0)]) (st' := []) (h' := zHp s t) rfl ?_
          rw [if_pos (show (nI 0) = 0 by decide)]
          refine zX_go (c := 2) (pc' := if (nI 0) = 0 then 175 else 166) (lv' := [.ref 6, .int x1, .int x2, .int (nI 0), .int (nI 0)]) (st' := []) (h' := zHp s t) rfl ?_
          rw [if_pos (show (nI 0) = 0 by decide)]
          refine zX_go (c := 2) (pc' := 177) (lv' := [.ref 6, .int x1, .int x2, .int (nI 0), .int (nI 0)]) (st' := [.int (nI 2), .ref 6]) (h' := zHp s t) rfl ?_
          obtain ⟨q9, hq, hF⟩ := zbd_ok hF
          refine zX_inv (av := [.ref 6, .int (nI 2)]) (st := []) (h' := zHp s q9.2) rfl rfl rfl rfl rfl rfl (zcall_le (t_X6_failed M _ _ _ _ hq) (by decide)) ?_
          obtain rfl := Option.some.inj hF
          exact zX_reti rfl
        · refine zX_go (c := 3) (pc' := 130) (lv' := [.ref 6, .int x1, .int x2, .int (nI 0), .retAddr 0]) (st' := [.int x2, .ref 46]) (h' := zHp s t) rfl ?_
          refine zX_ial (n := 100) rfl rfl hF (fun hF => ?_)
          refine zX_go (c := 2) (pc' := if (t 16 x2.toNatClampNeg) = (nI 1) then 135 else 154) (lv' := [.ref 6, .int x1, .int x2, .int (nI 0), .retAddr 0]) (st' := []) (h' := zHp s t) rfl ?_
          refine zX_ite hF (fun c0 hF => ?_) (fun c0 hF => ?_)
          · refine zX_go (c := 3) (pc' := 140) (lv' := [.ref 6, .int x1, .int x2, .int (nI 0), .retAddr 0]) (st' := [.int x2, .ref 47]) (h' := zHp s t) rfl ?_
            refine zX_ial (n := 100) rfl rfl hF (fun hF => ?_)
            refine zX_go (c := 3) (pc' := 146) (lv' := [.ref 6, .int x1, .int x2, .int (nI 0), .retAddr 0]) (st' := [.int x1, .ref 40, .int (t 17 x2.toNatClampNeg)]) (h' := zHp s t) rfl ?_
            refine zX_ial (n := 60) rfl rfl hF (fun hF => ?_)
            refine zX_go (c := 1) (pc' := if (t 17 x2.toNatClampNeg) = (t 8 x1.toNatClampNeg) then 150 else 154) (lv' := [.ref 6, .int x1, .int x2, .int (nI 0), .retAddr 0]) (st' := []) (h' := zHp s t) rfl ?_
            refine zX_ite hF (fun c0 hF => ?_) (fun c0 hF => ?_)
            · refine zX_go (c := 5) (pc' := if (nI 1) = 0 then 162 else 181) (lv' := [.ref 6, .int x1, .int x2, .int (nI 0), .int (nI 1)]) (st' := []) (h' := zHp s t) rfl ?_
              rw [if_neg (show ¬ ((nI 1) = 0) by decide)]
              refine zX_go (c := 2) (pc' := 183) (lv' := [.ref 6, .int x1, .int x2, .int (nI 0), .int (nI 1)]) (st' := [.int x2, .ref 6]) (h' := zHp s t) rfl ?_
              obtain ⟨q10, hq, hF⟩ := zbd_ok hF
              refine zX_inv (av := [.ref 6, .int x2]) (st := []) (h' := zHp s q10) rfl rfl rfl rfl rfl rfl (zcall_le (t_X6_done M _ _ _ _ hq) (by decide)) ?_
              refine zX_go (c := 2) (pc' := 188) (lv' := [.ref 6, .int x1, .int x2, .int (nI 0), .int (nI 1)]) (st' := [.int x2, .ref 6]) (h' := zHp s q10) rfl ?_
              obtain ⟨q11, hq, hF⟩ := zbd_ok hF
              refine zX_inv (av := [.ref 6, .int x2]) (st := []) (h' := zHp s q11.2) rfl rfl rfl rfl rfl rfl (zcall_le (t_X6_good M _ _ _ _ hq) (by decide)) ?_
              obtain rfl := Option.some.inj hF
              exact zX_reti rfl
            · refine zX_go (c := 4) (pc' := if (nI 0) = 0 then 162 else 181) (lv' := [.ref 6, .int x1, .int x2, .int (nI 0), .int (nI 0)]) (st' := []) (h' := zHp s t) rfl ?_
              rw [if_pos (show (nI 0) = 0 by decide)]
              refine zX_go (c := 2) (pc' := if (nI 0) = 0 then 175 else 166) (lv' := [.ref 6, .int x1, .int x2, .int (nI 0), .int (nI 0)]) (st' := []) (h' := zHp s t) rfl ?_
              rw [if_pos (show (nI 0) = 0 by decide)]
              refine zX_go (c := 2) (pc' := 177) (lv' := [.ref 6, .int x1, .int x2, .int (nI 0), .int (nI 0)]) (st' := [.int (nI 2), .ref 6]) (h' := zHp s t) rfl ?_
              obtain ⟨q12, hq, hF⟩ := zbd_ok hF
              refine zX_inv (av := [.ref 6, .int (nI 2)]) (st := []) (h' := zHp s q12.2) rfl rfl rfl rfl rfl rfl (zcall_le (t_X6_failed M _ _ _ _ hq) (by decide)) ?_
              obtain rfl := Option.some.inj hF
              exact zX_reti rfl
          · refine zX_go (c := 4) (pc' := if (nI 0) = 0 then 162 else 181) (lv' := [.ref 6, .int x1, .int x2, .int (nI 0), .int (nI 0)]) (st' := []) (h' := zHp s t) rfl ?_
            rw [if_pos (show (nI 0) = 0 by decide)]
            refine zX_go (c := 2) (pc' := if (nI 0) = 0 then 175 else 166) (lv' := [.ref 6, .int x1, .int x2, .int (nI 0), .int (nI 0)]) (st' := []) (h' := zHp s t) rfl ?_
            rw [if_pos (show (nI 0) = 0 by decide)]
            refine zX_go (c := 2) (pc' := 177) (lv' := [.ref 6, .int x1, .int x2, .int (nI 0), .int (nI 0)]) (st' := [.int (nI 2), .ref 6]) (h' := zHp s t) rfl ?_
            obtain ⟨q13, hq, hF⟩ := zbd_ok hF
            refine zX_inv (av := [.ref 6, .int (nI 2)]) (st := []) (h' := zHp s q13.2) rfl rfl rfl rfl rfl rfl (zcall_le (t_X6_failed M _ _ _ _ hq) (by decide)) ?_
            obtain rfl := Option.some.inj hF
            exact zX_reti rfl
    · refine zX_go (c := 5) (pc' := if (nI 1) = 0 then 50 else 29) (lv' := [.ref 6, .int x1, .int x2, .int (nI 1), .retAddr 0]) (st' := []) (h' := zHp s t) rfl ?_
      rw [if_neg (show ¬ ((nI 1) = 0) by decide)]
      refine zX_go (c := 3) (pc' := 34) (lv' := [.ref 6, .int x1, .int x2, .int (nI 1), .retAddr 0]) (st' := [.int x1, .ref 41]) (h' := zHp s t) rfl ?_
      refine zX_bal (n := 60) rfl rfl hF (fun hF => ?_)
      refine zX_go (c := 1) (pc' := if (t 9 x1.toNatClampNeg) = 0 then 50 else 38) (lv' := [.ref 6, .int x1, .int x2, .int (nI 1), .retAddr 0]) (st' := []) (h' := zHp s t) rfl ?_
      refine zX_ite hF (fun c0 hF => ?_) (fun c0 hF => ?_)
      · refine zX_go (c := 3) (pc' := if x2 = (-1) then 55 else 61) (lv' := [.ref 6, .int x1, .int x2, .int (nI 1), .retAddr 0]) (st' := []) (h' := zHp s t) rfl ?_
        refine zX_ite hF (fun c0 hF => ?_) (fun c0 hF => ?_)
        · refine zX_go (c := 2) (pc' := 57) (lv' := [.ref 6, .int x1, .int x2, .int (nI 1), .retAddr 0]) (st' := [.int (nI 1), .ref 6]) (h' := zHp s t) rfl ?_
          obtain ⟨q14, hq, hF⟩ := zbd_ok hF
          refine zX_inv (av := [.ref 6, .int (nI 1)]) (st := []) (h' := zHp s q14.2) rfl rfl rfl rfl rfl rfl (zcall_le (t_X6_failed M _ _ _ _ hq) (by decide)) ?_
          obtain rfl := Option.some.inj hF
          exact zX_reti rfl
        · refine zX_go (c := 2) (pc' := if (nI 1) = 0 then 116 else 65) (lv' := [.ref 6, .int x1, .int x2, .int (nI 1), .retAddr 0]) (st' := []) (h' := zHp s t) rfl ?_
          rw [if_neg (show ¬ ((nI 1) = 0) by decide)]
          refine zX_go (c := 3) (pc' := 70) (lv' := [.ref 6, .int x1, .int x2, .int (nI 1), .retAddr 0]) (st' := [.int x1, .ref 41]) (h' := zHp s t) rfl ?_
          refine zX_bal (n := 60) rfl rfl hF (fun hF => ?_)
          refine zX_go (c := 1) (pc' := if (t 9 x1.toNatClampNeg) = 0 then 116 else 74) (lv' := [.ref 6, .int x1, .int x2, .int (nI 1), .retAddr 0]) (st' := []) (h' := zHp s t) rfl ?_
          refine zX_ite hF (fun c0 hF => ?_) (fun c0 hF => ?_)
          · refine zX_go (c := 3) (pc' := 121) (lv' := [.ref 6, .int x1, .int x2, .int (nI 1), .retAddr 0]) (st' := [.int x1, .ref 41]) (h' := zHp s t) rfl ?_
            refine zX_bal (n := 60) rfl rfl hF (fun hF => ?_)
            refine zX_go (c := 1) (pc' := if (t 9 x1.toNatClampNeg) = 0 then 154 else 125) (lv' := [.ref 6, .int x1, .int x2, .int (nI 1), .retAddr 0]) (st' := []) (h' := zHp s t) rfl ?_
            refine zX_ite hF (fun c0 hF => ?_) (fun c0 hF => ?_)
            · refine zX_go (c := 4) (pc' := if (nI 0) = 0 then 162 else 181) (lv' := [.ref 6, .int x1, .int x2, .int (nI 1), .int (nI 0)]) (st' := []) (h' := zHp s t) rfl ?_
              rw [if_pos (show (nI 0) = 0 by decide)]
              refine zX_go (c := 2) (pc' := if (nI 1) = 0 then 175 else 166) (lv' := [.ref 6, .int x1, .int x2, .int (nI 1), .int (nI 0)]) (st' := []) (h' := zHp s t) rfl ?_
              rw [if_neg (show ¬ ((nI 1) = 0) by decide)]
              refine zX_go (c := 3) (pc' := 171) (lv' := [.ref 6, .int x1, .int x2, .int (nI 1), .int (nI 0)]) (st' := [.int x1, .ref 41]) (h' := zHp s t) rfl ?_
              refine zX_bal (n := 60) rfl rfl hF (fun hF => ?_)
              refine zX_go (c := 1) (pc' := if (t 9 x1.toNatClampNeg) = 0 then 181 else 175) (lv' := [.ref 6, .int x1, .int x2, .int (nI 1), .int (nI 0)]) (st' := []) (h' := zHp s t) rfl ?_
              refine zX_ite hF (fun c0 hF => ?_) (fun c0 hF => ?_)
              · refine zX_go (c := 2) (pc' := 183) (lv' := [.ref 6, .int x1, .int x2, .int (nI 1), .int (nI 0)]) (st' := [.int x2, .ref 6]) (h' := zHp s t) rfl ?_
                obtain ⟨q15, hq, hF⟩ := zbd_ok hF
                refine zX_inv (av := [.ref 6, .int x2]) (st := []) (h' := zHp s q15) rfl rfl rfl rfl rfl rfl (zcall_le (t_X6_done M _ _ _ _ hq) (by decide)) ?_
                refine zX_go (c := 2) (pc' := 188) (lv' := [.ref 6, .int x1, .int x2, .int (nI 1), .int (nI 0)]) (st' := [.int x2, .ref 6]) (h' := zHp s q15) rfl ?_
                obtain ⟨q16, hq, hF⟩ := zbd_ok hF
                refine zX_inv (av := [.ref 6, .int x2]) (st := []) (h' := zHp s q16.2) rfl rfl rfl rfl rfl rfl (zcall_le (t_X6_good M _ _ _ _ hq) (by decide)) ?_
                obtain rfl := Option.some.inj hF
                exact zX_reti rfl
              · refine zX_go (c := 2) (pc' := 177) (lv' := [.ref 6, .int x1, .int x2, .int (nI 1), .int (nI 0)]) (st' := [.int (nI 2), .ref 6]) (h' := zHp s t) rfl ?_
                obtain ⟨q17, hq, hF⟩ := zbd_ok hF
                refine zX_inv (av := [.ref 6, .int (nI 2)]) (st := []) (h' := zHp s q17.2) rfl rfl rfl rfl rfl rfl (zcall_le (t_X6_failed M _ _ _ _ hq) (by decide)) ?_
                obtain rfl := Option.some.inj hF
                exact zX_reti rfl
            · refine zX_go (c := 3) (pc' := 130) (lv' := [.ref 6, .int x1, .int x2, .int (nI 1), .retAddr 0]) (st' := [.int x2, .ref 46]) (h' := zHp s t) rfl ?_
              refine zX_ial (n := 100) rfl rfl hF (fun hF => ?_)
              refine zX_go (c := 2) (pc' := if (t 16 x2.toNatClampNeg) = (nI 1) then 135 else 154) (lv' := [.ref 6, .int x1, .int x2, .int (nI 1), .retAddr 0]) (st' := []) (h' := zHp s t) rfl ?_
              refine zX_ite hF (fun c0 hF => ?_) (fun c0 hF => ?_)
              · refine zX_go (c := 3) (pc' := 140) (lv' := [.ref 6, .int x1, .int x2, .int (nI 1), .retAddr 0]) (st' := [.int x2, .ref 47]) (h' := zHp s t) rfl ?_
                refine zX_ial (n := 100) rfl rfl hF (fun hF => ?_)
                refine zX_go (c := 3) (pc' := 146) (lv' := [.ref 6, .int x1, .int x2, .int (nI 1), .retAddr 0]) (st' := [.int x1, .ref 40, .int (t 17 x2.toNatClampNeg)]) (h' := zHp s t) rfl ?_
                refine zX_ial (n := 60) rfl rfl hF (fun hF => ?_)
                refine zX_go (c := 1) (pc' := if (t 17 x2.toNatClampNeg) = (t 8 x1.toNatClampNeg) then 150 else 154) (lv' := [.ref 6, .int x1, .int x2, .int (nI 1), .retAddr 0]) (st' := []) (h' := zHp s t) rfl ?_
                refine zX_ite hF (fun c0 hF => ?_) (fun c0 hF => ?_)
                · refine zX_go (c := 5) (pc' := if (nI 1) = 0 then 162 else 181) (lv' := [.ref 6, .int x1, .int x2, .int (nI 1), .int (nI 1)]) (st' := []) (h' := zHp s t) rfl ?_
                  rw [if_neg (show ¬ ((nI 1) = 0) by decide)]
                  refine zX_go (c := 2) (pc' := 183) (lv' := [.ref 6, .int x1, .int x2, .int (nI 1), .int (nI 1)]) (st' := [.int x2, .ref 6]) (h' := zHp s t) rfl ?_
                  obtain ⟨q18, hq, hF⟩ := zbd_ok hF
                  refine zX_inv (av := [.ref 6, .int x2]) (st := []) (h' := zHp s q18) rfl rfl rfl rfl rfl rfl (zcall_le (t_X6_done M _ _ _ _ hq) (by decide)) ?_
                  refine zX_go (c := 2) (pc' := 188) (lv' := [.ref 6, .int x1, .int x2, .int (nI 1), .int (nI 1)]) (st' := [.int x2, .ref 6]) (h' := zHp s q18) rfl ?_
                  obtain ⟨q19, hq, hF⟩ := zbd_ok hF
                  refine zX_inv (av := [.ref 6, .int x2]) (st := []) (h' := zHp s q19.2) rfl rfl rfl rfl rfl rfl (zcall_le (t_X6_good M _ _ _ _ hq) (by decide)) ?_
                  obtain rfl := Option.some.inj hF
                  exact zX_reti rfl
                · refine zX_go (c := 4) (pc' := if (nI 0) = 0 then 162 else 181) (lv' := [.ref 6, .int x1, .int x2, .int (nI 1), .int (nI 0)]) (st' := []) (h' := zHp s t) rfl ?_
                  rw [if_pos (show (nI 0) = 0 by decide)]
                  refine zX_go (c := 2) (pc' := if (nI 1) = 0 then 175 else 166) (lv' := [.ref 6, .int x1, .int x2, .int (nI 1), .int (nI 0)]) (st' := []) (h' := zHp s t) rfl ?_
                  rw [if_neg (show ¬ ((nI 1) = 0) by decide)]
                  refine zX_go (c := 3) (pc' := 171) (lv' := [.ref 6, .int x1, .int x2, .int (nI 1), .int (nI 0)]) (st' := [.int x1, .ref 41]) (h' := zHp s t) rfl ?_
                  refine zX_bal (n := 60) rfl rfl hF (fun hF => ?_)
                  refine zX_go (c := 1) (pc' := if (t 9 x1.toNatClampNeg) = 0 then 181 else 175) (lv' := [.ref 6, .int x1, .int x2, .int (nI 1), .int (nI 0)]) (st' := []) (h' := zHp s t) rfl ?_
                  refine zX_ite hF (fun c0 hF => ?_) (fun c0 hF => ?_)
                  · refine zX_go (c := 2) (pc' := 183) (lv' := [.ref 6, .int x1, .int x2, .int (nI 1), .int (nI 0)]) (st' := [.int x2, .ref 6]) (h' := zHp s t) rfl ?_
                    obtain ⟨q20, hq, hF⟩ := zbd_ok hF
                    refine zX_inv (av := [.ref 6, .int x2]) (st := []) (h' := zHp s q20) rfl rfl rfl rfl rfl rfl (zcall_le (t_X6_done M _ _ _ _ hq) (by decide)) ?_
                    refine zX_go (c := 2) (pc' := 188) (lv' := [.ref 6, .int x1, .int x2, .int (nI 1), .int (nI 0)]) (st' := [.int x2, .ref 6]) (h' := zHp s q20) rfl ?_
                    obtain ⟨q21, hq, hF⟩ := zbd_ok hF
                    refine zX_inv (av := [.ref 6, .int x2]) (st := []) (h' := zHp s q21.2) rfl rfl rfl rfl rfl rfl (zcall_le (t_X6_good M _ _ _ _ hq) (by decide)) ?_
                    obtain rfl := Option.some.inj hF
                    exact zX_reti rfl
                  · refine zX_go (c := 2) (pc' := 177) (lv' := [.ref 6, .int x1, .int x2, .int (nI 1), .int (nI 0)]) (st' := [.int (nI 2), .ref 6]) (h' := zHp s t) rfl ?_
                    obtain ⟨q22, hq, hF⟩ := zbd_ok hF
                    refine zX_inv (av := [.ref 6, .int (nI 2)]) (st := []) (h' := zHp s q22.2) rfl rfl rfl rfl rfl rfl (zcall_le (t_X6_failed M _ _ _ _ hq) (by decide)) ?_
                    obtain rfl := Option.some.inj hF
                    exact zX_reti rfl
              · refine zX_go (c := 4) (pc' := if (nI 0) = 0 then 162 else 181) (lv' := [.ref 6, .int x1, .int x2, .int (nI 1), .int (nI 0)]) (st' := []) (h' := zHp s t) rfl ?_
                rw [if_pos (show (nI 0) = 0 by decide)]
                refine zX_go (c := 2) (pc' := if (nI 1) = 0 then 175 else 166) (lv' := [.ref 6, .int x1, .int x2, .int (nI 1), .int (nI 0)]) (st' := []) (h' := zHp s t) rfl ?_
                rw [if_neg (show ¬ ((nI 1) = 0) by decide)]
                refine zX_go (c := 3) (pc' := 171) (lv' := [.ref 6, .int x1, .int x2, .int (nI 1), .int (nI 0)]) (st' := [.int x1, .ref 41]) (h' := zHp s t) rfl ?_
                refine zX_bal (n := 60) rfl rfl hF (fun hF => ?_)
                refine zX_go (c := 1) (pc' := if (t 9 x1.toNatClampNeg) = 0 then 181 else 175) (lv' := [.ref 6, .int x1, .int x2, .int (nI 1), .int (nI 0)]) (st' := []) (h' := zHp s t) rfl ?_
                refine zX_ite hF (fun c0 hF => ?_) (fun c0 hF => ?_)
                · refine zX_go (c := 2) (pc' := 183) (lv' := [.ref 6, .int x1, .int x2, .int (nI 1), .int (nI 0)]) (st' := [.int x2, .ref 6]) (h' := zHp s t) rfl ?_
                  obtain ⟨q23, hq, hF⟩ := zbd_ok hF
                  refine zX_inv (av := [.ref 6, .int x2]) (st := []) (h' := zHp s q23) rfl rfl rfl rfl rfl rfl (zcall_le (t_X6_done M _ _ _ _ hq) (by decide)) ?_
                  refine zX_go (c := 2) (pc' := 188) (lv' := [.ref 6, .int x1, .int x2, .int (nI 1), .int (nI 0)]) (st' := [.int x2, .ref 6]) (h' := zHp s q23) rfl ?_
                  obtain ⟨q24, hq, hF⟩ := zbd_ok hF
                  refine zX_inv (av := [.ref 6, .int x2]) (st := []) (h' := zHp s q24.2) rfl rfl rfl rfl rfl rfl (zcall_le (t_X6_good M _ _ _ _ hq) (by decide)) ?_
                  obtain rfl := Option.some.inj hF
                  exact zX_reti rfl
                · refine zX_go (c := 2) (pc' := 177) (lv' := [.ref 6, .int x1, .int x2, .int (nI 1), .int (nI 0)]) (st' := [.int (nI 2), .ref 6]) (h' := zHp s t) rfl ?_
                  obtain ⟨q25, hq, hF⟩ := zbd_ok hF
                  refine zX_inv (av := [.ref 6, .int (nI 2)]) (st := []) (h' := zHp s q25.2) rfl rfl rfl rfl rfl rfl (zcall_le (t_X6_failed M _ _ _ _ hq) (by decide)) ?_
                  obtain rfl := Option.some.inj hF
                  exact zX_reti rfl
          · refine zX_go (c := 5) (pc' := 81) (lv' := [.ref 6, .int x1, .int x2, .int (nI 1), .retAddr 0]) (st' := [.int x1, .ref 40, .int (nI 1), .ref 6]) (h' := zHp s t) rfl ?_
            refine zX_ial (n := 60) rfl rfl hF (fun hF => ?_)
            refine zX_go (c := 1) (pc' := 83) (lv' := [.ref 6, .int x1, .int x2, .int (nI 1), .retAddr 0]) (st' := [.int (nI 1), .int (t 8 x1.toNatClampNeg), .int (nI 1), .ref 6]) (h' := zHp s t) rfl ?_
            obtain ⟨q26, hq, hF⟩ := zbd_ok hF
            refine zX_inv (av := [.ref 6, .int (nI 1), .int (t 8 x1.toNatClampNeg), .int (nI 1)]) (st := []) (h' := zHp s q26.2) rfl rfl rfl rfl rfl rfl (zcall_le (t_X6_added M _ _ _ _ _ _ hq) (by decide)) ?_
            refine zX_go (c := 7) (pc' := 97) (lv' := [.ref 6, .int x1, .int x2, .int (nI 1), .int q26.1]) (st' := [.int x2, .int ((nI 5) * q26.1), .ref 50]) (h' := zHp s q26.2) rfl ?_
            refine zX_ias (n := 500) (h' := zHp s (zup q26.2 20 ((nI 5) * q26.1).toNatClampNeg x2)) rfl rfl (zst_50 _ _ _ _) hF (fun hF => ?_)
            refine zX_go (c := 2) (pc' := 100) (lv' := [.ref 6, .int x1, .int x2, .int (nI 1), .int q26.1]) (st' := [.int x2, .ref 6]) (h' := zHp s (zup q26.2 20 ((nI 5) * q26.1).toNatClampNeg x2)) rfl ?_
            obtain ⟨q27, hq, hF⟩ := zbd_ok hF
            refine zX_inv (av := [.ref 6, .int x2]) (st := []) (h' := zHp s q27) rfl rfl rfl rfl rfl rfl (zcall_le (t_X6_done M _ _ _ _ hq) (by decide)) ?_
            refine zX_go (c := 2) (pc' := 106) (lv' := [.ref 6, .int x1, .int x2, .int (nI 1), .int q26.1]) (st' := [.int q26.1, .ref 6]) (h' := zHp s q27) rfl ?_
            obtain ⟨q28, hq, hF⟩ := zbd_ok hF
            refine zX_inv (av := [.ref 6, .int q26.1]) (st := []) (h' := zHp s q28) rfl rfl rfl rfl rfl rfl (zcall_le (t_X6_done M _ _ _ _ hq) (by decide)) ?_
            refine zX_go (c := 2) (pc' := 112) (lv' := [.ref 6, .int x1, .int x2, .int (nI 1), .int q26.1]) (st' := [.int q26.1, .ref 6]) (h' := zHp s q28) rfl ?_
            obtain ⟨q29, hq, hF⟩ := zbd_ok hF
            refine zX_inv (av := [.ref 6, .int q26.1]) (st := []) (h' := zHp s q29.2) rfl rfl rfl rfl rfl rfl (zcall_le (t_X6_good M _ _ _ _ hq) (by decide)) ?_
            obtain rfl := Option.some.inj hF
            exact zX_reti rfl
      · refine zX_go (c := 4) (pc' := if (t 15 0) = (nI 100) then 47 else 50) (lv' := [.ref 6, .int x1, .int x2, .int (nI 1), .retAddr 0]) (st' := []) (h' := zHp s t) rfl ?_
        refine zX_ite hF (fun c0 hF => ?_) (fun c0 hF => ?_)
        · refine zX_go (c := 1) (pc' := 49) (lv' := [.ref 6, .int x1, .int x2, .int (nI 1), .retAddr 0]) (st' := [.int (-3)]) (h' := zHp s t) rfl ?_
          obtain rfl := Option.some.inj hF
          exact zX_reti rfl
        · refine zX_go (c := 3) (pc' := if x2 = (-1) then 55 else 61) (lv' := [.ref 6, .int x1, .int x2, .int (nI 1), .retAddr 0]) (st' := []) (h' := zHp s t) rfl ?_
          refine zX_ite hF (fun c0 hF => ?_) (fun c0 hF => ?_)
          · refine zX_go (c := 2) (pc' := 57) (lv' := [.ref 6, .int x1, .int x2, .int (nI 1), .retAddr 0]) (st' := [.int (nI 1), .ref 6]) (h' := zHp s t) rfl ?_
            obtain ⟨q30, hq, hF⟩ := zbd_ok hF
            refine zX_inv (av := [.ref 6, .int (nI 1)]) (st := []) (h' := zHp s q30.2) rfl rfl rfl rfl rfl rfl (zcall_le (t_X6_failed M _ _ _ _ hq) (by decide)) ?_
            obtain rfl := Option.some.inj hF
            exact zX_reti rfl
          · refine zX_go (c := 2) (pc' := if (nI 1) = 0 then 116 else 65) (lv' := [.ref 6, .int x1, .int x2, .int (nI 1), .retAddr 0]) (st' := []) (h' := zHp s t) rfl ?_
            rw [if_neg (show ¬ ((nI 1) = 0) by decide)]
            refine zX_go (c := 3) (pc' := 70) (lv' := [.ref 6, .int x1, .int x2, .int (nI 1), .retAddr 0]) (st' := [.int x1, .ref 41]) (h' := zHp s t) rfl ?_
            refine zX_bal (n := 60) rfl rfl hF (fun hF => ?_)
            refine zX_go (c := 1) (pc' := if (t 9 x1.toNatClampNeg) = 0 then 116 else 74) (lv' := [.ref 6, .int x1, .int x2, .int (nI 1), .retAddr 0]) (st' := []) (h' := zHp s t) rfl ?_
            refine zX_ite hF (fun c0 hF => ?_) (fun c0 hF => ?_)
            · refine zX_go (c := 3) (pc' := 121) (lv' := [.ref 6, .int x1, .int x2, .int (nI 1), .retAddr 0]) (st' := [.int x1, .ref 41]) (h' := zHp s t) rfl ?_
              refine zX_bal (n := 60) rfl rfl hF (fun hF => ?_)
              refine zX_go (c := 1) (pc' := if (t 9 x1.toNatClampNeg) = 0 then 154 else 125) (lv' := [.ref 6, .int x1, .int x2, .int (nI 1), .retAddr 0]) (st' := []) (h' := zHp s t) rfl ?_
              refine zX_ite hF (fun c0 hF => ?_) (fun c0 hF => ?_)
              · refine zX_go (c := 4) (pc' := if (nI 0) = 0 then 162 else 181) (lv' := [.ref 6, .int x1, .int x2, .int (nI 1), .int (nI 0)]) (st' := []) (h' := zHp s t) rfl ?_
                rw [if_pos (show (nI 0) = 0 by decide)]
                refine zX_go (c := 2) (pc' := if (nI 1) = 0 then 175 else 166) (lv' := [.ref 6, .int x1, .int x2, .int (nI 1), .int (nI 0)]) (st' := []) (h' := zHp s t) rfl ?_
                rw [if_neg (show ¬ ((nI 1) = 0) by decide)]
                refine zX_go (c := 3) (pc' := 171) (lv' := [.ref 6, .int x1, .int x2, .int (nI 1), .int (nI 0)]) (st' := [.int x1, .ref 41]) (h' := zHp s t) rfl ?_
                refine zX_bal (n := 60) rfl rfl hF (fun hF => ?_)
                refine zX_go (c := 1) (pc' := if (t 9 x1.toNatClampNeg) = 0 then 181 else 175) (lv' := [.ref 6, .int x1, .int x2, .int (nI 1), .int (nI 0)]) (st' := []) (h' := zHp s t) rfl ?_
                refine zX_ite hF (fun c0 hF => ?_) (fun c0 hF => ?_)
                · refine zX_go (c := 2) (pc' := 183) (lv' := [.ref 6, .int x1, .int x2, .int (nI 1), .int (nI 0)]) (st' := [.int x2, .ref 6]) (h' := zHp s t) rfl ?_
                  obtain ⟨q31, hq, hF⟩ := zbd_ok hF
                  refine zX_inv (av := [.ref 6, .int x2]) (st := []) (h' := zHp s q31) rfl rfl rfl rfl rfl rfl (zcall_le (t_X6_done M _ _ _ _ hq) (by decide)) ?_
                  refine zX_go (c := 2) (pc' := 188) (lv' := [.ref 6, .int x1, .int x2, .int (nI 1), .int (nI 0)]) (st' := [.int x2, .ref 6]) (h' := zHp s q31) rfl ?_
                  obtain ⟨q32, hq, hF⟩ := zbd_ok hF
                  refine zX_inv (av := [.ref 6, .int x2]) (st := []) (h' := zHp s q32.2) rfl rfl rfl rfl rfl rfl (zcall_le (t_X6_good M _ _ _ _ hq) (by decide)) ?_
                  obtain rfl := Option.some.inj hF
                  exact zX_reti rfl
                · refine zX_go (c := 2) (pc' := 177) (lv' := [.ref 6, .int x1, .int x2, .int (nI 1), .int (nI 0)]) (st' := [.int (nI 2), .ref 6]) (h' := zHp s t) rfl ?_
                  obtain ⟨q33, hq, hF⟩ := zbd_ok hF
                  refine zX_inv (av := [.ref 6, .int (nI 2)]) (st := []) (h' := zHp s q33.2) rfl rfl rfl rfl rfl rfl (zcall_le (t_X6_failed M _ _ _ _ hq) (by decide)) ?_
                  obtain rfl := Option.some.inj hF
                  exact zX_reti rfl
              · refine zX_go (c := 3) (pc' := 130) (lv' := [.ref 6, .int x1, .int x2, .int (nI 1), .retAddr 0]) (st' := [.int x2, .ref 46]) (h' := zHp s t) rfl ?_
                refine zX_ial (n := 100) rfl rfl hF (fun hF => ?_)
                refine zX_go (c := 2) (pc' := if (t 16 x2.toNatClampNeg) = (nI 1) then 135 else 154) (lv' := [.ref 6, .int x1, .int x2, .int (nI 1), .retAddr 0]) (st' := []) (h' := zHp s t) rfl ?_
                refine zX_ite hF (fun c0 hF => ?_) (fun c0 hF => ?_)
                · refine zX_go (c := 3) (pc' := 140) (lv' := [.ref 6, .int x1, .int x2, .int (nI 1), .retAddr 0]) (st' := [.int x2, .ref 47]) (h' := zHp s t) rfl ?_
                  refine zX_ial (n := 100) rfl rfl hF (fun hF => ?_)
                  refine zX_go (c := 3) (pc' := 146) (lv' := [.ref 6, .int x1, .int x2, .int (nI 1), .retAddr 0]) (st' := [.int x1, .ref 40, .int (t 17 x2.toNatClampNeg)]) (h' := zHp s t) rfl ?_
                  refine zX_ial (n := 60) rfl rfl hF (fun hF => ?_)
                  refine zX_go (c := 1) (pc' := if (t 17 x2.toNatClampNeg) = (t 8 x1.toNatClampNeg) then 150 else 154) (lv' := [.ref 6, .int x1, .int x2, .int (nI 1), .retAddr 0]) (st' := []) (h' := zHp s t) rfl ?_
                  refine zX_ite hF (fun c0 hF => ?_) (fun c0 hF => ?_)
                  · refine zX_go (c := 5) (pc' := if (nI 1) = 0 then 162 else 181) (lv' := [.ref 6, .int x1, .int x2, .int (nI 1), .int (nI 1)]) (st' := []) (h' := zHp s t) rfl ?_
                    rw [if_neg (show ¬ ((nI 1) = 0) by decide)]
                    refine zX_go (c := 2) (pc' := 183) (lv' := [.ref 6, .int x1, .int x2, .int (nI 1), .int (nI 1)]) (st' := [.int x2, .ref 6]) (h' := zHp s t) rfl ?_
                    obtain ⟨q34, hq, hF⟩ := zbd_ok hF
                    refine zX_inv (av := [.ref 6, .int x2]) (st := []) (h' := zHp s q34) rfl rfl rfl rfl rfl rfl (zcall_le (t_X6_done M _ _ _ _ hq) (by decide)) ?_
                    refine zX_go (c := 2) (pc' := 188) (lv' := [.ref 6, .int x1, .int x2, .int (nI 1), .int (nI 1)]) (st' := [.int x2, .ref 6]) (h' := zHp s q34) rfl ?_
                    obtain ⟨q35, hq, hF⟩ := zbd_ok hF
                    refine zX_inv (av := [.ref 6, .int x2]) (st := []) (h' := zHp s q35.2) rfl rfl rfl rfl rfl rfl (zcall_le (t_X6_good M _ _ _ _ hq) (by decide)) ?_
                    obtain rfl := Option.some.inj hF
                    exact zX_reti rfl
                  · refine zX_go (c := 4) (pc' := if (nI 0) = 0 then 162 else 181) (lv' := [.ref 6, .int x1, .int x2, .int (nI 1), .int (nI 0)]) (st' := []) (h' := zHp s t) rfl ?_
                    rw [if_pos (show (nI 0) = 0 by decide)]
                    refine zX_go (c := 2) (pc' := if (nI 1) = 0 then 175 else 166) (lv' := [.ref 6, .int x1, .int x2, .int (nI 1), .int (nI 0)]) (st' := []) (h' := zHp s t) rfl ?_
                    rw [if_neg (show ¬ ((nI 1) = 0) by decide)]
                    refine zX_go (c := 3) (pc' := 171) (lv' := [.ref 6, .int x1, .int x2, .int (nI 1), .int (nI 0)]) (st' := [.int x1, .ref 41]) (h' := zHp s t) rfl ?_
                    refine zX_bal (n := 60) rfl rfl hF (fun hF => ?_)
                    refine zX_go (c := 1) (pc' := if (t 9 x1.toNatClampNeg) = 0 then 181 else 175) (lv' := [.ref 6, .int x1, .int x2, .int (nI 1), .int (nI 0)]) (st' := []) (h' := zHp s t) rfl ?_
                    refine zX_ite hF (fun c0 hF => ?_) (fun c0 hF => ?_)
                    · refine zX_go (c := 2) (pc' := 183) (lv' := [.ref 6, .int x1, .int x2, .int (nI 1), .int (nI 0)]) (st' := [.int x2, .ref 6]) (h' := zHp s t) rfl ?_
                      obtain ⟨q36, hq, hF⟩ := zbd_ok hF
                      refine zX_inv (av := [.ref 6, .int x2]) (st := []) (h' := zHp s q36) rfl rfl rfl rfl rfl rfl (zcall_le (t_X6_done M _ _ _ _ hq) (by decide)) ?_
                      refine zX_go (c := 2) (pc' := 188) (lv' := [.ref 6, .int x1, .int x2, .int (nI 1), .int (nI 0)]) (st' := [.int x2, .ref 6]) (h' := zHp s q36) rfl ?_
                      obtain ⟨q37, hq, hF⟩ := zbd_ok hF
                      refine zX_inv (av := [.ref 6, .int x2]) (st := []) (h' := zHp s q37.2) rfl rfl rfl rfl rfl rfl (zcall_le (t_X6_good M _ _ _ _ hq) (by decide)) ?_
                      obtain rfl := Option.some.inj hF
                      exact zX_reti rfl
                    · refine zX_go (c := 2) (pc' := 177) (lv' := [.ref 6, .int x1, .int x2, .int (nI 1), .int (nI 0)]) (st' := [.int (nI 2), .ref 6]) (h' := zHp s t) rfl ?_
                      obtain ⟨q38, hq, hF⟩ := zbd_ok hF
                      refine zX_inv (av := [.ref 6, .int (nI 2)]) (st := []) (h' := zHp s q38.2) rfl rfl rfl rfl rfl rfl (zcall_le (t_X6_failed M _ _ _ _ hq) (by decide)) ?_
                      obtain rfl := Option.some.inj hF
                      exact zX_reti rfl
                · refine zX_go (c := 4) (pc' := if (nI 0) = 0 then 162 else 181) (lv' := [.ref 6, .int x1, .int x2, .int (nI 1), .int (nI 0)]) (st' := []) (h' := zHp s t) rfl ?_
                  rw [if_pos (show (nI 0) = 0 by decide)]
                  refine zX_go (c := 2) (pc' := if (nI 1) = 0 then 175 else 166) (lv' := [.ref 6, .int x1, .int x2, .int (nI 1), .int (nI 0)]) (st' := []) (h' := zHp s t) rfl ?_
                  rw [if_neg (show ¬ ((nI 1) = 0) by decide)]
                  refine zX_go (c := 3) (pc' := 171) (lv' := [.ref 6, .int x1, .int x2, .int (nI 1), .int (nI 0)]) (st' := [.int x1, .ref 41]) (h' := zHp s t) rfl ?_
                  refine zX_bal (n := 60) rfl rfl hF (fun hF => ?_)
                  refine zX_go (c := 1) (pc' := if (t 9 x1.toNatClampNeg) = 0 then 181 else 175) (lv' := [.ref 6, .int x1, .int x2, .int (nI 1), .int (nI 0)]) (st' := []) (h' := zHp s t) rfl ?_
                  refine zX_ite hF (fun c0 hF => ?_) (fun c0 hF => ?_)
                  · refine zX_go (c := 2) (pc' := 183) (lv' := [.ref 6, .int x1, .int x2, .int (nI 1), .int (nI 0)]) (st' := [.int x2, .ref 6]) (h' := zHp s t) rfl ?_
                    obtain ⟨q39, hq, hF⟩ := zbd_ok hF
                    refine zX_inv (av := [.ref 6, .int x2]) (st := []) (h' := zHp s q39) rfl rfl rfl rfl rfl rfl (zcall_le (t_X6_done M _ _ _ _ hq) (by decide)) ?_
                    refine zX_go (c := 2) (pc' := 188) (lv' := [.ref 6, .int x1, .int x2, .int (nI 1), .int (nI 0)]) (st' := [.int x2, .ref 6]) (h' := zHp s q39) rfl ?_
                    obtain ⟨q40, hq, hF⟩ := zbd_ok hF
                    refine zX_inv (av := [.ref 6, .int x2]) (st := []) (h' := zHp s q40.2) rfl rfl rfl rfl rfl rfl (zcall_le (t_X6_good M _ _ _ _ hq) (by decide)) ?_
                    obtain rfl := Option.some.inj hF
                    exact zX_reti rfl
                  · refine zX_go (c := 2) (pc' := 177) (lv' := [.ref 6, .int x1, .int x2, .int (nI 1), .int (nI 0)]) (st' := [.int (nI 2), .ref 6]) (h' := zHp s t) rfl ?_
                    obtain ⟨q41, hq, hF⟩ := zbd_ok hF
                    refine zX_inv (av := [.ref 6, .int (nI 2)]) (st := []) (h' := zHp s q41.2) rfl rfl rfl rfl rfl rfl (zcall_le (t_X6_failed M _ _ _ _ hq) (by decide)) ?_
                    obtain rfl := Option.some.inj hF
                    exact zX_reti rfl
            · refine zX_go (c := 5) (pc' := 81) (lv' := [.ref 6, .int x1, .int x2, .int (nI 1), .retAddr 0]) (st' := [.int x1, .ref 40, .int (nI 1), .ref 6]) (h' := zHp s t) rfl ?_
              refine zX_ial (n := 60) rfl rfl hF (fun hF => ?_)
              refine zX_go (c := 1) (pc' := 83) (lv' := [.ref 6, .int x1, .int x2, .int (nI 1), .retAddr 0]) (st' := [.int (nI 1), .int (t 8 x1.toNatClampNeg), .int (nI 1), .ref 6]) (h' := zHp s t) rfl ?_
              obtain ⟨q42, hq, hF⟩ := zbd_ok hF
              refine zX_inv (av := [.ref 6, .int (nI 1), .int (t 8 x1.toNatClampNeg), .int (nI 1)]) (st := []) (h' := zHp s q42.2) rfl rfl rfl rfl rfl rfl (zcall_le (t_X6_added M _ _ _ _ _ _ hq) (by decide)) ?_
              refine zX_go (c := 7) (pc' := 97) (lv' := [.ref 6, .int x1, .int x2, .int (nI 1), .int q42.1]) (st' := [.int x2, .int ((nI 5) * q42.1), .ref 50]) (h' := zHp s q42.2) rfl ?_
              refine zX_ias (n := 500) (h' := zHp s (zup q42.2 20 ((nI 5) * q42.1).toNatClampNeg x2)) rfl rfl (zst_50 _ _ _ _) hF (fun hF => ?_)
              refine zX_go (c := 2) (pc' := 100) (lv' := [.ref 6, .int x1, .int x2, .int (nI 1), .int q42.1]) (st' := [.int x2, .ref 6]) (h' := zHp s (zup q42.2 20 ((nI 5) * q42.1).toNatClampNeg x2)) rfl ?_
              obtain ⟨q43, hq, hF⟩ := zbd_ok hF
              refine zX_inv (av := [.ref 6, .int x2]) (st := []) (h' := zHp s q43) rfl rfl rfl rfl rfl rfl (zcall_le (t_X6_done M _ _ _ _ hq) (by decide)) ?_
              refine zX_go (c := 2) (pc' := 106) (lv' := [.ref 6, .int x1, .int x2, .int (nI 1), .int q42.1]) (st' := [.int q42.1, .ref 6]) (h' := zHp s q43) rfl ?_
              obtain ⟨q44, hq, hF⟩ := zbd_ok hF
              refine zX_inv (av := [.ref 6, .int q42.1]) (st := []) (h' := zHp s q44) rfl rfl rfl rfl rfl rfl (zcall_le (t_X6_done M _ _ _ _ hq) (by decide)) ?_
              refine zX_go (c := 2) (pc' := 112) (lv' := [.ref 6, .int x1, .int x2, .int (nI 1), .int q42.1]) (st' := [.int q42.1, .ref 6]) (h' := zHp s q44) rfl ?_
              obtain ⟨q45, hq, hF⟩ := zbd_ok hF
              refine zX_inv (av := [.ref 6, .int q42.1]) (st := []) (h' := zHp s q45.2) rfl rfl rfl rfl rfl rfl (zcall_le (t_X6_good M _ _ _ _ hq) (by decide)) ?_
              obtain rfl := Option.some.inj hF
              exact zX_reti rfl
def f_X6_pile (M : Nat) (t : zS) (x1 x2 : Int32) : Option (zS) :=
  zq (zin (t 23 0) 64) <|
  zq (zin (t 23 0) 64) <|
  zq (zin (t 23 0) 64) <|
  some (zup (zup (zup (zup t 24 (t 23 0).toNatClampNeg x1) 25 (t 23 0).toNatClampNeg x2) 26 (t 23 0).toNatClampNeg (nI 0)) 23 0 ((t 23 0) + (nI 1)))
set_option maxRecDepth 100000 in
set_option maxHeartbeats 4000000 in
theorem t_X6_pile {L : Nat} {xs : Nat → Int32} (M : Nat) (s t : zS) (x1 x2 : Int32) (R : zS) (hF : f_X6_pile M t x1 x2 = some R) : zcall (ztb L xs) 1 119 [.ref 6, .int x1, .int x2] (zHp s t) = some (none, zHp s R) := by
  unfold f_X6_pile at hF
  refine zcall_X (d := 0) (e := zm_X6_pile) rfl rfl ?_
  show zX (ztb L xs) (zcall (ztb L xs) 0) 6 0 zk_X6_pile 0 [.ref 6, .int x1, .int x2] [] (zHp s t) _
  refine zX_go (c := 5) (pc' := 9) (lv' := [.ref 6, .int x1, .int x2]) (st' := [.int x1, .int (t 23 0), .ref 52]) (h' := zHp s t) rfl ?_
  refine zX_ias (n := 64) (h' := zHp s (zup t 24 (t 23 0).toNatClampNeg x1)) rfl rfl (zst_52 _ _ _ _) hF (fun hF => ?_)
  refine zX_go (c := 5) (pc' := 19) (lv' := [.ref 6, .int x1, .int x2]) (st' := [.int x2, .int (t 23 0), .ref 53]) (h' := zHp s (zup t 24 (t 23 0).toNatClampNeg x1)) rfl ?_
  refine zX_ias (n := 64) (h' := zHp s (zup (zup t 24 (t 23 0).toNatClampNeg x1) 25 (t 23 0).toNatClampNeg x2)) rfl rfl (zst_53 _ _ _ _) hF (fun hF => ?_)
  refine zX_go (c := 5) (pc' := 29) (lv' := [.ref 6, .int x1, .int x2]) (st' := [.int (nI 0), .int (t 23 0), .ref 54]) (h' := zHp s (zup (zup t 24 (t 23 0).toNatClampNeg x1) 25 (t 23 0).toNatClampNeg x2)) rfl ?_
  refine zX_ias (n := 64) (h' := zHp s (zup (zup (zup t 24 (t 23 0).toNatClampNeg x1) 25 (t 23 0).toNatClampNeg x2) 26 (t 23 0).toNatClampNeg (nI 0))) rfl rfl (zst_54 _ _ _ _) hF (fun hF => ?_)
  refine zX_go (c := 5) (pc' := 37) (lv' := [.ref 6, .int x1, .int x2]) (st' := [.int ((t 23 0) + (nI 1)), .ref 6]) (h' := zHp s (zup (zup (zup t 24 (t 23 0).toNatClampNeg x1) 25 (t 23 0).toNatClampNeg x2) 26 (t 23 0).toNatClampNeg (nI 0))) rfl ?_
  refine zX_pfi (h' := zHp s (zup (zup (zup (zup t 24 (t 23 0).toNatClampNeg x1) 25 (t 23 0).toNatClampNeg x2) 26 (t 23 0).toNatClampNeg (nI 0)) 23 0 ((t 23 0) + (nI 1)))) rfl rfl rfl rfl (zst_6_23 _ _ _) ?_
  obtain rfl := Option.some.inj hF
  exact zX_retv rfl
def f_X6_within (M : Nat) (t : zS) (x1 : Int32) : Option (Int32) :=
  zq (zin x1 100) <|
  if (t 16 x1.toNatClampNeg) = (nI 1) then
   zq (zin x1 100) <|
   some (t 18 x1.toNatClampNeg)
  else
   zq (zin x1 100) <|
   if (t 16 x1.toNatClampNeg) = (nI 2) then
    zq (zin x1 100) <|
    zq (zin (t 17 x1.toNatClampNeg) 12) <|
    some (t 6 (t 17 x1.toNatClampNeg).toNatClampNeg)
   else
    some (nI 0)
set_option maxRecDepth 100000 in
set_option maxHeartbeats 4000000 in
theorem t_X6_within {L : Nat} {xs : Nat → Int32} (M : Nat) (s t : zS) (x1 : Int32) (R : Int32) (hF : f_X6_within M t x1 = some R) : zcall (ztb L xs) 1 117 [.ref 6, .int x1] (zHp s t) = some (some (.int R), zHp s t) := by
  unfold f_X6_within at hF
  refine zcall_X (d := 0) (e := zm_X6_within) rfl rfl ?_
  show zX (ztb L xs) (zcall (ztb L xs) 0) 6 1 zk_X6_within 0 [.ref 6, .int x1] [] (zHp s t) _
  refine zX_go (c := 3) (pc' := 5) (lv' := [.ref 6, .int x1]) (st' := [.int x1, .ref 46]) (h' := zHp s t) rfl ?_
  refine zX_ial (n := 100) rfl rfl hF (fun hF => ?_)
  refine zX_go (c := 2) (pc' := if (t 16 x1.toNatClampNeg) = (nI 1) then 10 else 19) (lv' := [.ref 6, .int x1]) (st' := []) (h' := zHp s t) rfl ?_
  refine zX_ite hF (fun c0 hF => ?_) (fun c0 hF => ?_)
  · refine zX_go (c := 3) (pc' := 15) (lv' := [.ref 6, .int x1]) (st' := [.int x1, .ref 48]) (h' := zHp s t) rfl ?_
    refine zX_ial (n := 100) rfl rfl hF (fun hF => ?_)
    refine zX_go (c := 1) (pc' := 44) (lv' := [.ref 6, .int x1]) (st' := [.int (t 18 x1.toNatClampNeg)]) (h' := zHp s t) rfl ?_
    obtain rfl := Option.some.inj hF
    exact zX_reti rfl
  · refine zX_go (c := 3) (pc' := 24) (lv' := [.ref 6, .int x1]) (st' := [.int x1, .ref 46]) (h' := zHp s t) rfl ?_
    refine zX_ial (n := 100) rfl rfl hF (fun hF => ?_)
    refine zX_go (c := 2) (pc' := if (t 16 x1.toNatClampNeg) = (nI 2) then 29 else 43) (lv' := [.ref 6, .int x1]) (st' := []) (h' := zHp s t) rfl ?_
    refine zX_ite hF (fun c0 hF => ?_) (fun c0 hF => ?_)
    · refine zX_go (c := 5) (pc' := 38) (lv' := [.ref 6, .int x1]) (st' := [.int x1, .ref 47, .ref 38]) (h' := zHp s t) rfl ?_
      refine zX_ial (n := 100) rfl rfl hF (fun hF => ?_)
      refine zX_ial (n := 12) rfl rfl hF (fun hF => ?_)
      refine zX_go (c := 1) (pc' := 44) (lv' := [.ref 6, .int x1]) (st' := [.int (t 6 (t 17 x1.toNatClampNeg).toNatClampNeg)]) (h' := zHp s t) rfl ?_
      obtain rfl := Option.some.inj hF
      exact zX_reti rfl
    · refine zX_go (c := 1) (pc' := 44) (lv' := [.ref 6, .int x1]) (st' := [.int (nI 0)]) (h' := zHp s t) rfl ?_
      obtain rfl := Option.some.inj hF
      exact zX_reti rfl
def f_X6_inner (M : Nat) (t : zS) (x1 x2 : Int32) : Option (Int32) :=
  zq (zin (((nI 5) * x1) + x2) 500) <|
  zq (zin x1 100) <|
  if (t 16 x1.toNatClampNeg) = (nI 2) then
   if (t 20 (((nI 5) * x1) + x2).toNatClampNeg) = (-1) then
    zq (zin x1 100) <|
    zq (zin (((nI 5) * (t 17 x1.toNatClampNeg)) + x2) 60) <|
    some (t 10 (((nI 5) * (t 17 x1.toNatClampNeg)) + x2).toNatClampNeg)
   else
    some (t 20 (((nI 5) * x1) + x2).toNatClampNeg)
  else
   some (t 20 (((nI 5) * x1) + x2).toNatClampNeg)
set_option maxRecDepth 100000 in
set_option maxHeartbeats 4000000 in
theorem t_X6_inner {L : Nat} {xs : Nat → Int32} (M : Nat) (s t : zS) (x1 x2 : Int32) (R : Int32) (hF : f_X6_inner M t x1 x2 = some R) : zcall (ztb L xs) 1 118 [.ref 6, .int x1, .int x2] (zHp s t) = some (some (.int R), zHp s t) := by
  unfold f_X6_inner at hF
  refine zcall_X (d := 0) (e := zm_X6_inner) rfl rfl ?_
  show zX (ztb L xs) (zcall (ztb L xs) 0) 6 1 zk_X6_inner 0 [.ref 6, .int x1, .int x2, .retAddr 0] [] (zHp s t) _
  refine zX_go (c := 7) (pc' := 9) (lv' := [.ref 6, .int x1, .int x2, .retAddr 0]) (st' := [.int (((nI 5) * x1) + x2), .ref 50]) (h' := zHp s t) rfl ?_
  refine zX_ial (n := 500) rfl rfl hF (fun hF => ?_)
  refine zX_go (c := 4) (pc' := 16) (lv' := [.ref 6, .int x1, .int x2, .int (t 20 (((nI 5) * x1) + x2).toNatClampNeg)]) (st' := [.int x1, .ref 46]) (h' := zHp s t) rfl ?_
  refine zX_ial (n := 100) rfl rfl hF (fun hF => ?_)
  refine zX_go (c := 2) (pc' := if (t 16 x1.toNatClampNeg) = (nI 2) then 21 else 44) (lv' := [.ref 6, .int x1, .int x2, .int (t 20 (((nI 5) * x1) + x2).toNatClampNeg)]) (st' := []) (h' := zHp s t) rfl ?_
  refine zX_ite hF (fun c0 hF => ?_) (fun c0 hF => ?_)
  · refine zX_go (c := 3) (pc' := if (t 20 (((nI 5) * x1) + x2).toNatClampNeg) = (-1) then 26 else 44) (lv' := [.ref 6, .int x1, .int x2, .int (t 20 (((nI 5) * x1) + x2).toNatClampNeg)]) (st' := []) (h' := zHp s t) rfl ?_
    refine zX_ite hF (fun c0 hF => ?_) (fun c0 hF => ?_)
    · refine zX_go (c := 6) (pc' := 36) (lv' := [.ref 6, .int x1, .int x2, .int (t 20 (((nI 5) * x1) + x2).toNatClampNeg)]) (st' := [.int x1, .ref 47, .int (nI 5), .ref 42]) (h' := zHp s t) rfl ?_
      refine zX_ial (n := 100) rfl rfl hF (fun hF => ?_)
      refine zX_go (c := 3) (pc' := 40) (lv' := [.ref 6, .int x1, .int x2, .int (t 20 (((nI 5) * x1) + x2).toNatClampNeg)]) (st' := [.int (((nI 5) * (t 17 x1.toNatClampNeg)) + x2), .ref 42]) (h' := zHp s t) rfl ?_
      refine zX_ial (n := 60) rfl rfl hF (fun hF => ?_)
      refine zX_go (c := 1) (pc' := 45) (lv' := [.ref 6, .int x1, .int x2, .int (t 20 (((nI 5) * x1) + x2).toNatClampNeg)]) (st' := [.int (t 10 (((nI 5) * (t 17 x1.toNatClampNeg)) + x2).toNatClampNeg)]) (h' := zHp s t) rfl ?_
      obtain rfl := Option.some.inj hF
      exact zX_reti rfl
    · refine zX_go (c := 1) (pc' := 45) (lv' := [.ref 6, .int x1, .int x2, .int (t 20 (((nI 5) * x1) + x2).toNatClampNeg)]) (st' := [.int (t 20 (((nI 5) * x1) + x2).toNatClampNeg)]) (h' := zHp s t) rfl ?_
      obtain rfl := Option.some.inj hF
      exact zX_reti rfl
  · refine zX_go (c := 1) (pc' := 45) (lv' := [.ref 6, .int x1, .int x2, .int (t 20 (((nI 5) * x1) + x2).toNatClampNeg)]) (st' := [.int (t 20 (((nI 5) * x1) + x2).toNatClampNeg)]) (h' := zHp s t) rfl ?_
    obtain rfl := Option.some.inj hF
    exact zX_reti rfl
def l_X6_isWhole (M : Nat) : Nat → zS → Int32 → Option (Int32 × zS)
  | 0, _, _ => none
  | N + 1, t, y2 =>
    if y2 = 0 then
     zq (y2 &&& 1 == y2) <|
     some (y2, t)
    else
     if 0 < (t 23 0) then
      zq (zin ((t 23 0) - (nI 1)) 64) <|
      zq (zin ((t 23 0) - (nI 1)) 64) <|
      zbd (f_X6_within M t (t 24 ((t 23 0) - (nI 1)).toNatClampNeg)) (fun q1 =>
       if (t 26 ((t 23 0) - (nI 1)).toNatClampNeg) = q1 then
        l_X6_isWhole M N (zup t 23 0 ((t 23 0) - (nI 1))) y2
       else
        zq (zin ((t 23 0) - (nI 1)) 64) <|
        zq (zin ((t 23 0) - (nI 1)) 64) <|
        zbd (f_X6_inner M t (t 24 ((t 23 0) - (nI 1)).toNatClampNeg) (t 26 ((t 23 0) - (nI 1)).toNatClampNeg)) (fun q2 =>
         zq (zin ((t 23 0) - (nI 1)) 64) <|
         zq (zin ((t 23 0) - (nI 1)) 64) <|
         if q2 = (-1) then
          l_X6_isWhole M N (zup t 26 ((t 23 0) - (nI 1)).toNatClampNeg ((t 26 ((t 23 0) - (nI 1)).toNatClampNeg) + (nI 1))) (nI 0)
         else
          zq (zin q2 100) <|
          if (t 16 q2.toNatClampNeg) = 0 then
           l_X6_isWhole M N (zup t 26 ((t 23 0) - (nI 1)).toNatClampNeg ((t 26 ((t 23 0) - (nI 1)).toNatClampNeg) + (nI 1))) (nI 1)
          else
           zbd (f_X6_pile M (zup t 26 ((t 23 0) - (nI 1)).toNatClampNeg ((t 26 ((t 23 0) - (nI 1)).toNatClampNeg) + (nI 1))) q2 (-1)) (fun q3 =>
            l_X6_isWhole M N q3 (nI 1))))
     else
      zq (y2 &&& 1 == y2) <|
      some (y2, t)
set_option maxRecDepth 100000 in
set_option maxHeartbeats 4000000 in
theorem tl_X6_isWhole {L : Nat} {xs : Nat → Int32} (M : Nat) (s : zS) : ∀ (N : Nat) (t : zS) (y2 : Int32) (R : Int32 × zS) (u1 : Int32) (u3 : Value) (u4 : Value) (hF : l_X6_isWhole M N t y2 = some R), zX (ztb L xs) (zcall (ztb L xs) 1) 6 2 zk_X6_isWhole 13 [.ref 6, .int u1, .int y2, u3, u4] [] (zHp s t) (some (.int R.1), zHp s R.2) := by
  intro N
  induction N with
  | zero => intro t y2 R u1 u3 u4 hF; cases hF
  | succ N ih =>
    intro t y2 R u1 u3 u4 hF
    unfold l_X6_isWhole at hF
    refine zX_go (c := 2) (pc' := if y2 = 0 then 127 else 17) (lv' := [.ref 6, .int u1, .int y2, u3, u4]) (st' := []) (h' := zHp s t) rfl ?_
    refine zX_ite hF (fun c0 hF => ?_) (fun c0 hF => ?_)
    · refine zX_go (c := 1) (pc' := 128) (lv' := [.ref 6, .int u1, .int y2, u3, u4]) (st' := [.int y2]) (h' := zHp s t) rfl ?_
      obtain ⟨hb, hF⟩ := zq_ok hF
      obtain rfl := Option.some.inj hF
      exact zX_retz rfl (by simpa using hb)
    · refine zX_go (c := 3) (pc' := if 0 < (t 23 0) then 24 else 127) (lv' := [.ref 6, .int u1, .int y2, u3, u4]) (st' := []) (h' := zHp s t) rfl ?_
      refine zX_ite hF (fun c0 hF => ?_) (fun c0 hF => ?_)
      · refine zX_go (c := 8) (pc' := 36) (lv' := [.ref 6, .int u1, .int y2, .int ((t 23 0) - (nI 1)), u4]) (st' := [.int ((t 23 0) - (nI 1)), .ref 54]) (h' := zHp s t) rfl ?_
        refine zX_ial (n := 64) rfl rfl hF (fun hF => ?_)
        refine zX_go (c := 4) (pc' := 43) (lv' := [.ref 6, .int u1, .int y2, .int ((t 23 0) - (nI 1)), u4]) (st' := [.int ((t 23 0) - (nI 1)), .ref 52, .ref 6, .int (t 26 ((t 23 0) - (nI 1)).toNatClampNeg)]) (h' := zHp s t) rfl ?_
        refine zX_ial (n := 64) rfl rfl hF (fun hF => ?_)
        obtain ⟨q1, hq, hF⟩ := zbd_ok hF
        refine zX_inv (av := [.ref 6, .int (t 24 ((t 23 0) - (nI 1)).toNatClampNeg)]) (st := [.int (t 26 ((t 23 0) - (nI 1)).toNatClampNeg)]) (h' := zHp s t) rfl rfl rfl rfl rfl rfl (zcall_le (t_X6_within M _ _ _ _ hq) (by decide)) ?_
        refine zX_go (c := 1) (pc' := if (t 26 ((t 23 0) - (nI 1)).toNatClampNeg) = q1 then 50 else 63) (lv' := [.ref 6, .int u1, .int y2, .int ((t 23 0) - (nI 1)), u4]) (st' := []) (h' := zHp s t) rfl ?_
        refine zX_ite hF (fun c0 hF => ?_) (fun c0 hF => ?_)
        · refine zX_go (c := 5) (pc' := 57) (lv' := [.ref 6, .int u1, .int y2, .int ((t 23 0) - (nI 1)), u4]) (st' := [.int ((t 23 0) - (nI 1)), .ref 6]) (h' := zHp s t) rfl ?_
          refine zX_pfi (h' := zHp s (zup t 23 0 ((t 23 0) - (nI 1)))) rfl rfl rfl rfl (zst_6_23 _ _ _) ?_
          refine zX_go (c := 2) (pc' := 13) (lv' := [.ref 6, .int u1, .int y2, .int ((t 23 0) - (nI 1)), u4]) (st' := []) (h' := zHp s (zup t 23 0 ((t 23 0) - (nI 1)))) rfl ?_
          exact ih (zup t 23 0 ((t 23 0) - (nI 1))) y2 _ u1 (.int ((t 23 0) - (nI 1))) u4 hF
        · refine zX_go (c := 4) (pc' := 69) (lv' := [.ref 6, .int u1, .int y2, .int ((t 23 0) - (nI 1)), u4]) (st' := [.int ((t 23 0) - (nI 1)), .ref 52, .ref 6]) (h' := zHp s t) rfl ?_
          refine zX_ial (n := 64) rfl rfl hF (fun hF => ?_)
          refine zX_go (c := 3) (pc' := 75) (lv' := [.ref 6, .int u1, .int y2, .int ((t 23 0) - (nI 1)), u4]) (st' := [.int ((t 23 0) - (nI 1)), .ref 54, .int (t 24 ((t 23 0) - (nI 1)).toNatClampNeg), .ref 6]) (h' := zHp s t) rfl ?_
          refine zX_ial (n := 64) rfl rfl hF (fun hF => ?_)
          obtain ⟨q2, hq, hF⟩ := zbd_ok hF
          refine zX_inv (av := [.ref 6, .int (t 24 ((t 23 0) - (nI 1)).toNatClampNeg), .int (t 26 ((t 23 0) - (nI 1)).toNatClampNeg)]) (st := []) (h' := zHp s t) rfl rfl rfl rfl rfl rfl (zcall_le (t_X6_inner M _ _ _ _ _ hq) (by decide)) ?_
          refine zX_go (c := 5) (pc' := 87) (lv' := [.ref 6, .int u1, .int y2, .int ((t 23 0) - (nI 1)), .int q2]) (st' := [.int ((t 23 0) - (nI 1)), .ref 54, .int ((t 23 0) - (nI 1)), .ref 54]) (h' := zHp s t) rfl ?_
          refine zX_ial (n := 64) rfl rfl hF (fun hF => ?_)
          refine zX_go (c := 2) (pc' := 90) (lv' := [.ref 6, .int u1, .int y2, .int ((t 23 0) - (nI 1)), .int q2]) (st' := [.int ((t 26 ((t 23 0) - (nI 1)).toNatClampNeg) + (nI 1)), .int ((t 23 0) - (nI 1)), .ref 54]) (h' := zHp s t) rfl ?_
          refine zX_ias (n := 64) (h' := zHp s (zup t 26 ((t 23 0) - (nI 1)).toNatClampNeg ((t 26 ((t 23 0) - (nI 1)).toNatClampNeg) + (nI 1)))) rfl rfl (zst_54 _ _ _ _) hF (fun hF => ?_)
          refine zX_go (c := 3) (pc' := if q2 = (-1) then 101 else 97) (lv' := [.ref 6, .int u1, .int y2, .int ((t 23 0) - (nI 1)), .int q2]) (st' := []) (h' := zHp s (zup t 26 ((t 23 0) - (nI 1)).toNatClampNeg ((t 26 ((t 23 0) - (nI 1)).toNatClampNeg) + (nI 1)))) rfl ?_
          refine zX_ite hF (fun c0 hF => ?_) (fun c0 hF => ?_)
          · refine zX_go (c := 4) (pc' := if (nI 0) = 0 then 124 else 107) (lv' := [.ref 6, .int u1, .int (nI 0), .int ((t 23 0) - (nI 1)), .int q2]) (st' := []) (h' := zHp s (zup t 26 ((t 23 0) - (nI 1)).toNatClampNeg ((t 26 ((t 23 0) - (nI 1)).toNatClampNeg) + (nI 1)))) rfl ?_
            rw [if_pos (show (nI 0) = 0 by decide)]
            refine zX_go (c := 1) (pc' := 13) (lv' := [.ref 6, .int u1, .int (nI 0), .int ((t 23 0) - (nI 1)), .int q2]) (st' := []) (h' := zHp s (zup t 26 ((t 23 0) - (nI 1)).toNatClampNeg ((t 26 ((t 23 0) - (nI 1)).toNatClampNeg) + (nI 1)))) rfl ?_
            exact ih (zup t 26 ((t 23 0) - (nI 1)).toNatClampNeg ((t 26 ((t 23 0) - (nI 1)).toNatClampNeg) + (nI 1))) (nI 0) _ u1 (.int ((t 23 0) - (nI 1))) (.int q2) hF
          · refine zX_go (c := 5) (pc' := if (nI 1) = 0 then 124 else 107) (lv' := [.ref 6, .int u1, .int (nI 1), .int ((t 23 0) - (nI 1)), .int q2]) (st' := []) (h' := zHp s (zup t 26 ((t 23 0) - (nI 1)).toNatClampNeg ((t 26 ((t 23 0) - (nI 1)).toNatClampNeg) + (nI 1)))) rfl ?_
            rw [if_neg (show ¬ ((nI 1) = 0) by decide)]
            refine zX_go (c := 3) (pc' := 113) (lv' := [.ref 6, .int u1, .int (nI 1), .int ((t 23 0) - (nI 1)), .int q2]) (st' := [.int q2, .ref 46]) (h' := zHp s (zup t 26 ((t 23 0) - (nI 1)).toNatClampNeg ((t 26 ((t 23 0) - (nI 1)).toNatClampNeg) + (nI 1)))) rfl ?_
            refine zX_ial (n := 100) rfl rfl hF (fun hF => ?_)
            refine zX_go (c := 1) (pc' := if (t 16 q2.toNatClampNeg) = 0 then 124 else 117) (lv' := [.ref 6, .int u1, .int (nI 1), .int ((t 23 0) - (nI 1)), .int q2]) (st' := []) (h' := zHp s (zup t 26 ((t 23 0) - (nI 1)).toNatClampNeg ((t 26 ((t 23 0) - (nI 1)).toNatClampNeg) + (nI 1)))) rfl ?_
            refine zX_ite hF (fun c0 hF => ?_) (fun c0 hF => ?_)
            · refine zX_go (c := 1) (pc' := 13) (lv' := [.ref 6, .int u1, .int (nI 1), .int ((t 23 0) - (nI 1)), .int q2]) (st' := []) (h' := zHp s (zup t 26 ((t 23 0) - (nI 1)).toNatClampNeg ((t 26 ((t 23 0) - (nI 1)).toNatClampNeg) + (nI 1)))) rfl ?_
              exact ih (zup t 26 ((t 23 0) - (nI 1)).toNatClampNeg ((t 26 ((t 23 0) - (nI 1)).toNatClampNeg) + (nI 1))) (nI 1) _ u1 (.int ((t 23 0) - (nI 1))) (.int q2) hF
            · refine zX_go (c := 3) (pc' := 121) (lv' := [.ref 6, .int u1, .int (nI 1), .int ((t 23 0) - (nI 1)), .int q2]) (st' := [.int (-1), .int q2, .ref 6]) (h' := zHp s (zup t 26 ((t 23 0) - (nI 1)).toNatClampNeg ((t 26 ((t 23 0) - (nI 1)).toNatClampNeg) + (nI 1)))) rfl ?_
              obtain ⟨q3, hq, hF⟩ := zbd_ok hF
              refine zX_inv (av := [.ref 6, .int q2, .int (-1)]) (st := []) (h' := zHp s q3) rfl rfl rfl rfl rfl rfl (zcall_le (t_X6_pile M _ _ _ _ _ hq) (by decide)) ?_
              refine zX_go (c := 1) (pc' := 13) (lv' := [.ref 6, .int u1, .int (nI 1), .int ((t 23 0) - (nI 1)), .int q2]) (st' := []) (h' := zHp s q3) rfl ?_
              exact ih q3 (nI 1) _ u1 (.int ((t 23 0) - (nI 1))) (.int q2) hF
      · refine zX_go (c := 1) (pc' := 128) (lv' := [.ref 6, .int u1, .int y2, u3, u4]) (st' := [.int y2]) (h' := zHp s t) rfl ?_
        obtain ⟨hb, hF⟩ := zq_ok hF
        obtain rfl := Option.some.inj hF
        exact zX_retz rfl (by simpa using hb)
def f_X6_isWhole (M : Nat) (t : zS) (x1 : Int32) : Option (Int32 × zS) :=
  zbd (f_X6_pile M (zup t 23 0 (nI 0)) x1 (-1)) (fun q1 =>
   l_X6_isWhole M M q1 (nI 1))
set_option maxRecDepth 100000 in
set_option maxHeartbeats 4000000 in
theorem t_X6_isWhole {L : Nat} {xs : Nat → Int32} (M : Nat) (s t : zS) (x1 : Int32) (R : Int32 × zS) (hF : f_X6_isWhole M t x1 = some R) : zcall (ztb L xs) 2 120 [.ref 6, .int x1] (zHp s t) = some (some (.int R.1), zHp s R.2) := by
  unfold f_X6_isWhole at hF
  refine zcall_X (d := 1) (e := zm_X6_isWhole) rfl rfl ?_
  show zX (ztb L xs) (zcall (ztb L xs) 1) 6 2 zk_X6_isWhole 0 [.ref 6, .int x1, .retAddr 0, .retAddr 0, .retAddr 0] [] (zHp s t) _
  refine zX_go (c := 4) (pc' := 4) (lv' := [.ref 6, .int x1, .int (nI 1), .retAddr 0, .retAddr 0]) (st' := [.int (nI 0), .ref 6]) (h' := zHp s t) rfl ?_
  refine zX_pfi (h' := zHp s (zup t 23 0 (nI 0))) rfl rfl rfl rfl (zst_6_23 _ _ _) ?_
  refine zX_go (c := 3) (pc' := 10) (lv' := [.ref 6, .int x1, .int (nI 1), .retAddr 0, .retAddr 0]) (st' := [.int (-1), .int x1, .ref 6]) (h' := zHp s (zup t 23 0 (nI 0))) rfl ?_
  obtain ⟨q1, hq, hF⟩ := zbd_ok hF
  refine zX_inv (av := [.ref 6, .int x1, .int (-1)]) (st := []) (h' := zHp s q1) rfl rfl rfl rfl rfl rfl (zcall_le (t_X6_pile M _ _ _ _ _ hq) (by decide)) ?_
  exact tl_X6_isWhole M s M q1 (nI 1) _ x1 (.retAddr 0) (.retAddr 0) hF
def f_X6_fallback (M : Nat) (t : zS) (x1 x2 x3 : Int32) : Option (Int32 × zS) :=
  zbd (f_X6_isMark M t x1) (fun q1 =>
   if q1 = 0 then
    some ((-2), t)
   else
    zbd (f_X6_elementOf M t x1 x2) (fun q2 =>
     if q2 = (-1) then
      some ((-2), t)
     else
      if x3 = (-1) then
       zbd (f_X6_isFixed M t x1) (fun q3 =>
        if q3 = 0 then
         if x3 = (-1) then
          zbd (f_X6_elementOf M t x1 x2) (fun q4 =>
           zbd (f_X6_given M t q4 x3) (fun q5 =>
            if q5.1 < 0 then
             some (q5.1, q5.2)
            else
             zbd (f_X6_elementOf M q5.2 x1 x2) (fun q6 =>
              zq (zin q6 60) <|
              some (nI 1, zup q5.2 10 q6.toNatClampNeg q5.1))))
         else
          zq (zin x3 100) <|
          if (t 19 x3.toNatClampNeg) = 0 then
           zbd (f_X6_isWhole M t x3) (fun q7 =>
            if q7.1 = 0 then
             some ((-4), q7.2)
            else
             zbd (f_X6_elementOf M q7.2 x1 x2) (fun q8 =>
              zbd (f_X6_given M q7.2 q8 x3) (fun q9 =>
               if q9.1 < 0 then
                some (q9.1, q9.2)
               else
                zbd (f_X6_elementOf M q9.2 x1 x2) (fun q10 =>
                 zq (zin q10 60) <|
                 some (nI 1, zup q9.2 10 q10.toNatClampNeg q9.1)))))
          else
           some ((-4), t)
        else
         some ((-4), t))
      else
       zbd (f_X6_isValue M t x3) (fun q11 =>
        if q11 = 0 then
         some ((-2), t)
        else
         zbd (f_X6_isFixed M t x1) (fun q12 =>
          if q12 = 0 then
           if x3 = (-1) then
            zbd (f_X6_elementOf M t x1 x2) (fun q13 =>
             zbd (f_X6_given M t q13 x3) (fun q14 =>
              if q14.1 < 0 then
               some (q14.1, q14.2)
              else
               zbd (f_X6_elementOf M q14.2 x1 x2) (fun q15 =>
                zq (zin q15 60) <|
                some (nI 1, zup q14.2 10 q15.toNatClampNeg q14.1))))
           else
            zq (zin x3 100) <|
            if (t 19 x3.toNatClampNeg) = 0 then
             zbd (f_X6_isWhole M t x3) (fun q16 =>
              if q16.1 = 0 then
               some ((-4), q16.2)
              else
               zbd (f_X6_elementOf M q16.2 x1 x2) (fun q17 =>
                zbd (f_X6_given M q16.2 q17 x3) (fun q18 =>
                 if q18.1 < 0 then
                  some (q18.1, q18.2)
                 else
                  zbd (f_X6_elementOf M q18.2 x1 x2) (fun q19 =>
                   zq (zin q19 60) <|
                   some (nI 1, zup q18.2 10 q19.toNatClampNeg q18.1)))))
            else
             some ((-4), t)
          else
           some ((-4), t)))))
set_option maxRecDepth 100000 in
set_option maxHeartbeats 4000000 in
theorem t_X6_fallback {L : Nat} {xs : Nat → Int32} (M : Nat) (s t : zS) (x1 x2 x3 : Int32) (R : Int32 × zS) (hF : f_X6_fallback M t x1 x2 x3 = some R) : zcall (ztb L xs) 3 115 [.ref 6, .int x1, .int x2, .int x3] (zHp s t) = some (some (.int R.1), zHp s R.2) := by
  unfold f_X6_fallback at hF
  refine zcall_X (d := 2) (e := zm_X6_fallback) rfl rfl ?_
  show zX (ztb L xs) (zcall (ztb L xs) 2) 6 1 zk_X6_fallback 0 [.ref 6, .int x1, .int x2, .int x3, .retAddr 0] [] (zHp s t) _
  refine zX_go (c := 2) (pc' := 2) (lv' := [.ref 6, .int x1, .int x2, .int x3, .retAddr 0]) (st' := [.int x1, .ref 6]) (h' := zHp s t) rfl ?_
  obtain ⟨q1, hq, hF⟩ := zbd_ok hF
  refine zX_inv (av := [.ref 6, .int x1]) (st := []) (h' := zHp s t) rfl rfl rfl rfl rfl rfl (zcall_le (t_X6_isMark M _ _ _ _ hq) (by decide)) ?_
  refine zX_go (c := 1) (pc' := if q1 = 0 then 31 else 8) (lv' := [.ref 6, .int x1, .int x2, .int x3, .retAddr 0]) (st' := []) (h' := zHp s t) rfl ?_
  refine zX_ite hF (fun c0 hF => ?_) (fun c0 hF => ?_)
  · refine zX_go (c := 1) (pc' := 33) (lv' := [.ref 6, .int x1, .int x2, .int x3, .retAddr 0]) (st' := [.int (-2)]) (h' := zHp s t) rfl ?_
    obtain rfl := Option.some.inj hF
    exact zX_reti rfl
  · refine zX_go (c := 3) (pc' := 11) (lv' := [.ref 6, .int x1, .int x2, .int x3, .retAddr 0]) (st' := [.int x2, .int x1, .ref 6]) (h' := zHp s t) rfl ?_
    obtain ⟨q2, hq, hF⟩ := zbd_ok hF
    refine zX_inv (av := [.ref 6, .int x1, .int x2]) (st := []) (h' := zHp s t) rfl rfl rfl rfl rfl rfl (zcall_le (t_X6_elementOf M _ _ _ _ _ hq) (by decide)) ?_
    refine zX_go (c := 2) (pc' := if q2 = (-1) then 31 else 18) (lv' := [.ref 6, .int x1, .int x2, .int x3, .retAddr 0]) (st' := []) (h' := zHp s t) rfl ?_
    refine zX_ite hF (fun c0 hF => ?_) (fun c0 hF => ?_)
    · refine zX_go (c := 1) (pc' := 33) (lv' := [.ref 6, .int x1, .int x2, .int x3, .retAddr 0]) (st' := [.int (-2)]) (h' := zHp s t) rfl ?_
      obtain rfl := Option.some.inj hF
      exact zX_reti rfl
    · refine zX_go (c := 3) (pc' := if x3 = (-1) then 34 else 23) (lv' := [.ref 6, .int x1, .int x2, .int x3, .retAddr 0]) (st' := []) (h' := zHp s t) rfl ?_
      refine zX_ite hF (fun c0 hF => ?_) (fun c0 hF => ?_)
      · refine zX_go (c := 2) (pc' := 36) (lv' := [.ref 6, .int x1, .int x2, .int x3, .retAddr 0]) (st' := [.int x1, .ref 6]) (h' := zHp s t) rfl ?_
        obtain ⟨q3, hq, hF⟩ := zbd_ok hF
        refine zX_inv (av := [.ref 6, .int x1]) (st := []) (h' := zHp s t) rfl rfl rfl rfl rfl rfl (zcall_le (t_X6_isFixed M _ _ _ _ hq) (by decide)) ?_
        refine zX_go (c := 1) (pc' := if q3 = 0 then 42 else 64) (lv' := [.ref 6, .int x1, .int x2, .int x3, .retAddr 0]) (st' := []) (h' := zHp s t) rfl ?_
        refine zX_ite hF (fun c0 hF => ?_) (fun c0 hF => ?_)
        · refine zX_go (c := 3) (pc' := if x3 = (-1) then 67 else 47) (lv' := [.ref 6, .int x1, .int x2, .int x3, .retAddr 0]) (st' := []) (h' := zHp s t) rfl ?_
          refine zX_ite hF (fun c0 hF => ?_) (fun c0 hF => ?_)
          · refine zX_go (c := 4) (pc' := 71) (lv' := [.ref 6, .int x1, .int x2, .int x3, .retAddr 0]) (st' := [.int x2, .int x1, .ref 6, .ref 6]) (h' := zHp s t) rfl ?_
            obtain ⟨q4, hq, hF⟩ := zbd_ok hF
            refine zX_inv (av := [.ref 6, .int x1, .int x2]) (st := [.ref 6]) (h' := zHp s t) rfl rfl rfl rfl rfl rfl (zcall_le (t_X6_elementOf M _ _ _ _ _ hq) (by decide)) ?_
            refine zX_go (c := 1) (pc' := 75) (lv' := [.ref 6, .int x1, .int x2, .int x3, .retAddr 0]) (st' := [.int x3, .int q4, .ref 6]) (h' := zHp s t) rfl ?_
            obtain ⟨q5, hq, hF⟩ := zbd_ok hF
            refine zX_inv (av := [.ref 6, .int q4, .int x3]) (st := []) (h' := zHp s q5.2) rfl rfl rfl rfl rfl rfl (zcall_le (t_X6_given M _ _ _ _ _ hq) (by decide)) ?_
            refine zX_go (c := 3) (pc' := if q5.1 < 0 then 85 else 88) (lv' := [.ref 6, .int x1, .int x2, .int x3, .int q5.1]) (st' := []) (h' := zHp s q5.2) rfl ?_
            refine zX_ite hF (fun c0 hF => ?_) (fun c0 hF => ?_)
            · refine zX_go (c := 1) (pc' := 87) (lv' := [.ref 6, .int x1, .int x2, .int x3, .int q5.1]) (st' := [.int q5.1]) (h' := zHp s q5.2) rfl ?_
              obtain rfl := Option.some.inj hF
              exact zX_reti rfl
            · refine zX_go (c := 5) (pc' := 95) (lv' := [.ref 6, .int x1, .int x2, .int x3, .int q5.1]) (st' := [.int x2, .int x1, .ref 6, .ref 42]) (h' := zHp s q5.2) rfl ?_
              obtain ⟨q6, hq, hF⟩ := zbd_ok hF
              refine zX_inv (av := [.ref 6, .int x1, .int x2]) (st := [.ref 42]) (h' := zHp s q5.2) rfl rfl rfl rfl rfl rfl (zcall_le (t_X6_elementOf M _ _ _ _ _ hq) (by decide)) ?_
              refine zX_go (c := 1) (pc' := 100) (lv' := [.ref 6, .int x1, .int x2, .int x3, .int q5.1]) (st' := [.int q5.1, .int q6, .ref 42]) (h' := zHp s q5.2) rfl ?_
              refine zX_ias (n := 60) (h' := zHp s (zup q5.2 10 q6.toNatClampNeg q5.1)) rfl rfl (zst_42 _ _ _ _) hF (fun hF => ?_)
              refine zX_go (c := 1) (pc' := 102) (lv' := [.ref 6, .int x1, .int x2, .int x3, .int q5.1]) (st' := [.int (nI 1)]) (h' := zHp s (zup q5.2 10 q6.toNatClampNeg q5.1)) rfl ?_
              obtain rfl := Option.some.inj hF
              exact zX_reti rfl
          · refine zX_go (c := 3) (pc' := 52) (lv' := [.ref 6, .int x1, .int x2, .int x3, .retAddr 0]) (st' := [.int x3, .ref 49]) (h' := zHp s t) rfl ?_
            refine zX_bal (n := 100) rfl rfl hF (fun hF => ?_)
            refine zX_go (c := 1) (pc' := if (t 19 x3.toNatClampNeg) = 0 then 56 else 64) (lv' := [.ref 6, .int x1, .int x2, .int x3, .retAddr 0]) (st' := []) (h' := zHp s t) rfl ?_
            refine zX_ite hF (fun c0 hF => ?_) (fun c0 hF => ?_)
            · refine zX_go (c := 2) (pc' := 58) (lv' := [.ref 6, .int x1, .int x2, .int x3, .retAddr 0]) (st' := [.int x3, .ref 6]) (h' := zHp s t) rfl ?_
              obtain ⟨q7, hq, hF⟩ := zbd_ok hF
              refine zX_inv (av := [.ref 6, .int x3]) (st := []) (h' := zHp s q7.2) rfl rfl rfl rfl rfl rfl (zcall_le (t_X6_isWhole M _ _ _ _ hq) (by decide)) ?_
              refine zX_go (c := 1) (pc' := if q7.1 = 0 then 64 else 67) (lv' := [.ref 6, .int x1, .int x2, .int x3, .retAddr 0]) (st' := []) (h' := zHp s q7.2) rfl ?_
              refine zX_ite hF (fun c0 hF => ?_) (fun c0 hF => ?_)
              · refine zX_go (c := 1) (pc' := 66) (lv' := [.ref 6, .int x1, .int x2, .int x3, .retAddr 0]) (st' := [.int (-4)]) (h' := zHp s q7.2) rfl ?_
                obtain rfl := Option.some.inj hF
                exact zX_reti rfl
              · refine zX_go (c := 4) (pc' := 71) (lv' := [.ref 6, .int x1, .int x2, .int x3, .retAddr 0]) (st' := [.int x2, .int x1, .ref 6, .ref 6]) (h' := zHp s q7.2) rfl ?_
                obtain ⟨q8, hq, hF⟩ := zbd_ok hF
                refine zX_inv (av := [.ref 6, .int x1, .int x2]) (st := [.ref 6]) (h' := zHp s q7.2) rfl rfl rfl rfl rfl rfl (zcall_le (t_X6_elementOf M _ _ _ _ _ hq) (by decide)) ?_
                refine zX_go (c := 1) (pc' := 75) (lv' := [.ref 6, .int x1, .int x2, .int x3, .retAddr 0]) (st' := [.int x3, .int q8, .ref 6]) (h' := zHp s q7.2) rfl ?_
                obtain ⟨q9, hq, hF⟩ := zbd_ok hF
                refine zX_inv (av := [.ref 6, .int q8, .int x3]) (st := []) (h' := zHp s q9.2) rfl rfl rfl rfl rfl rfl (zcall_le (t_X6_given M _ _ _ _ _ hq) (by decide)) ?_
                refine zX_go (c := 3) (pc' := if q9.1 < 0 then 85 else 88) (lv' := [.ref 6, .int x1, .int x2, .int x3, .int q9.1]) (st' := []) (h' := zHp s q9.2) rfl ?_
                refine zX_ite hF (fun c0 hF => ?_) (fun c0 hF => ?_)
                · refine zX_go (c := 1) (pc' := 87) (lv' := [.ref 6, .int x1, .int x2, .int x3, .int q9.1]) (st' := [.int q9.1]) (h' := zHp s q9.2) rfl ?_
                  obtain rfl := Option.some.inj hF
                  exact zX_reti rfl
                · refine zX_go (c := 5) (pc' := 95) (lv' := [.ref 6, .int x1, .int x2, .int x3, .int q9.1]) (st' := [.int x2, .int x1, .ref 6, .ref 42]) (h' := zHp s q9.2) rfl ?_
                  obtain ⟨q10, hq, hF⟩ := zbd_ok hF
                  refine zX_inv (av := [.ref 6, .int x1, .int x2]) (st := [.ref 42]) (h' := zHp s q9.2) rfl rfl rfl rfl rfl rfl (zcall_le (t_X6_elementOf M _ _ _ _ _ hq) (by decide)) ?_
                  refine zX_go (c := 1) (pc' := 100) (lv' := [.ref 6, .int x1, .int x2, .int x3, .int q9.1]) (st' := [.int q9.1, .int q10, .ref 42]) (h' := zHp s q9.2) rfl ?_
                  refine zX_ias (n := 60) (h' := zHp s (zup q9.2 10 q10.toNatClampNeg q9.1)) rfl rfl (zst_42 _ _ _ _) hF (fun hF => ?_)
                  refine zX_go (c := 1) (pc' := 102) (lv' := [.ref 6, .int x1, .int x2, .int x3, .int q9.1]) (st' := [.int (nI 1)]) (h' := zHp s (zup q9.2 10 q10.toNatClampNeg q9.1)) rfl ?_
                  obtain rfl := Option.some.inj hF
                  exact zX_reti rfl
            · refine zX_go (c := 1) (pc' := 66) (lv' := [.ref 6, .int x1, .int x2, .int x3, .retAddr 0]) (st' := [.int (-4)]) (h' := zHp s t) rfl ?_
              obtain rfl := Option.some.inj hF
              exact zX_reti rfl
        · refine zX_go (c := 1) (pc' := 66) (lv' := [.ref 6, .int x1, .int x2, .int x3, .retAddr 0]) (st' := [.int (-4)]) (h' := zHp s t) rfl ?_
          obtain rfl := Option.some.inj hF
          exact zX_reti rfl
      · refine zX_go (c := 2) (pc' := 25) (lv' := [.ref 6, .int x1, .int x2, .int x3, .retAddr 0]) (st' := [.int x3, .ref 6]) (h' := zHp s t) rfl ?_
        obtain ⟨q11, hq, hF⟩ := zbd_ok hF
        refine zX_inv (av := [.ref 6, .int x3]) (st := []) (h' := zHp s t) rfl rfl rfl rfl rfl rfl (zcall_le (t_X6_isValue M _ _ _ _ hq) (by decide)) ?_
        refine zX_go (c := 1) (pc' := if q11 = 0 then 31 else 34) (lv' := [.ref 6, .int x1, .int x2, .int x3, .retAddr 0]) (st' := []) (h' := zHp s t) rfl ?_
        refine zX_ite hF (fun c0 hF => ?_) (fun c0 hF => ?_)
        · refine zX_go (c := 1) (pc' := 33) (lv' := [.ref 6, .int x1, .int x2, .int x3, .retAddr 0]) (st' := [.int (-2)]) (h' := zHp s t) rfl ?_
          obtain rfl := Option.some.inj hF
          exact zX_reti rfl
        · refine zX_go (c := 2) (pc' := 36) (lv' := [.ref 6, .int x1, .int x2, .int x3, .retAddr 0]) (st' := [.int x1, .ref 6]) (h' := zHp s t) rfl ?_
          obtain ⟨q12, hq, hF⟩ := zbd_ok hF
          refine zX_inv (av := [.ref 6, .int x1]) (st := []) (h' := zHp s t) rfl rfl rfl rfl rfl rfl (zcall_le (t_X6_isFixed M _ _ _ _ hq) (by decide)) ?_
          refine zX_go (c := 1) (pc' := if q12 = 0 then 42 else 64) (lv' := [.ref 6, .int x1, .int x2, .int x3, .retAddr 0]) (st' := []) (h' := zHp s t) rfl ?_
          refine zX_ite hF (fun c0 hF => ?_) (fun c0 hF => ?_)
          · refine zX_go (c := 3) (pc' := if x3 = (-1) then 67 else 47) (lv' := [.ref 6, .int x1, .int x2, .int x3, .retAddr 0]) (st' := []) (h' := zHp s t) rfl ?_
            refine zX_ite hF (fun c0 hF => ?_) (fun c0 hF => ?_)
            · refine zX_go (c := 4) (pc' := 71) (lv' := [.ref 6, .int x1, .int x2, .int x3, .retAddr 0]) (st' := [.int x2, .int x1, .ref 6, .ref 6]) (h' := zHp s t) rfl ?_
              obtain ⟨q13, hq, hF⟩ := zbd_ok hF
              refine zX_inv (av := [.ref 6, .int x1, .int x2]) (st := [.ref 6]) (h' := zHp s t) rfl rfl rfl rfl rfl rfl (zcall_le (t_X6_elementOf M _ _ _ _ _ hq) (by decide)) ?_
              refine zX_go (c := 1) (pc' := 75) (lv' := [.ref 6, .int x1, .int x2, .int x3, .retAddr 0]) (st' := [.int x3, .int q13, .ref 6]) (h' := zHp s t) rfl ?_
              obtain ⟨q14, hq, hF⟩ := zbd_ok hF
              refine zX_inv (av := [.ref 6, .int q13, .int x3]) (st := []) (h' := zHp s q14.2) rfl rfl rfl rfl rfl rfl (zcall_le (t_X6_given M _ _ _ _ _ hq) (by decide)) ?_
              refine zX_go (c := 3) (pc' := if q14.1 < 0 then 85 else 88) (lv' := [.ref 6, .int x1, .int x2, .int x3, .int q14.1]) (st' := []) (h' := zHp s q14.2) rfl ?_
              refine zX_ite hF (fun c0 hF => ?_) (fun c0 hF => ?_)
              · refine zX_go (c := 1) (pc' := 87) (lv' := [.ref 6, .int x1, .int x2, .int x3, .int q14.1]) (st' := [.int q14.1]) (h' := zHp s q14.2) rfl ?_
                obtain rfl := Option.some.inj hF
                exact zX_reti rfl
              · refine zX_go (c := 5) (pc' := 95) (lv' := [.ref 6, .int x1, .int x2, .int x3, .int q14.1]) (st' := [.int x2, .int x1, .ref 6, .ref 42]) (h' := zHp s q14.2) rfl ?_
                obtain ⟨q15, hq, hF⟩ := zbd_ok hF
                refine zX_inv (av := [.ref 6, .int x1, .int x2]) (st := [.ref 42]) (h' := zHp s q14.2) rfl rfl rfl rfl rfl rfl (zcall_le (t_X6_elementOf M _ _ _ _ _ hq) (by decide)) ?_
                refine zX_go (c := 1) (pc' := 100) (lv' := [.ref 6, .int x1, .int x2, .int x3, .int q14.1]) (st' := [.int q14.1, .int q15, .ref 42]) (h' := zHp s q14.2) rfl ?_
                refine zX_ias (n := 60) (h' := zHp s (zup q14.2 10 q15.toNatClampNeg q14.1)) rfl rfl (zst_42 _ _ _ _) hF (fun hF => ?_)
                refine zX_go (c := 1) (pc' := 102) (lv' := [.ref 6, .int x1, .int x2, .int x3, .int q14.1]) (st' := [.int (nI 1)]) (h' := zHp s (zup q14.2 10 q15.toNatClampNeg q14.1)) rfl ?_
                obtain rfl := Option.some.inj hF
                exact zX_reti rfl
            · refine zX_go (c := 3) (pc' := 52) (lv' := [.ref 6, .int x1, .int x2, .int x3, .retAddr 0]) (st' := [.int x3, .ref 49]) (h' := zHp s t) rfl ?_
              refine zX_bal (n := 100) rfl rfl hF (fun hF => ?_)
              refine zX_go (c := 1) (pc' := if (t 19 x3.toNatClampNeg) = 0 then 56 else 64) (lv' := [.ref 6, .int x1, .int x2, .int x3, .retAddr 0]) (st' := []) (h' := zHp s t) rfl ?_
              refine zX_ite hF (fun c0 hF => ?_) (fun c0 hF => ?_)
              · refine zX_go (c := 2) (pc' := 58) (lv' := [.ref 6, .int x1, .int x2, .int x3, .retAddr 0]) (st' := [.int x3, .ref 6]) (h' := zHp s t) rfl ?_
                obtain ⟨q16, hq, hF⟩ := zbd_ok hF
                refine zX_inv (av := [.ref 6, .int x3]) (st := []) (h' := zHp s q16.2) rfl rfl rfl rfl rfl rfl (zcall_le (t_X6_isWhole M _ _ _ _ hq) (by decide)) ?_
                refine zX_go (c := 1) (pc' := if q16.1 = 0 then 64 else 67) (lv' := [.ref 6, .int x1, .int x2, .int x3, .retAddr 0]) (st' := []) (h' := zHp s q16.2) rfl ?_
                refine zX_ite hF (fun c0 hF => ?_) (fun c0 hF => ?_)
                · refine zX_go (c := 1) (pc' := 66) (lv' := [.ref 6, .int x1, .int x2, .int x3, .retAddr 0]) (st' := [.int (-4)]) (h' := zHp s q16.2) rfl ?_
                  obtain rfl := Option.some.inj hF
                  exact zX_reti rfl
                · refine zX_go (c := 4) (pc' := 71) (lv' := [.ref 6, .int x1, .int x2, .int x3, .retAddr 0]) (st' := [.int x2, .int x1, .ref 6, .ref 6]) (h' := zHp s q16.2) rfl ?_
                  obtain ⟨q17, hq, hF⟩ := zbd_ok hF
                  refine zX_inv (av := [.ref 6, .int x1, .int x2]) (st := [.ref 6]) (h' := zHp s q16.2) rfl rfl rfl rfl rfl rfl (zcall_le (t_X6_elementOf M _ _ _ _ _ hq) (by decide)) ?_
                  refine zX_go (c := 1) (pc' := 75) (lv' := [.ref 6, .int x1, .int x2, .int x3, .retAddr 0]) (st' := [.int x3, .int q17, .ref 6]) (h' := zHp s q16.2) rfl ?_
                  obtain ⟨q18, hq, hF⟩ := zbd_ok hF
                  refine zX_inv (av := [.ref 6, .int q17, .int x3]) (st := []) (h' := zHp s q18.2) rfl rfl rfl rfl rfl rfl (zcall_le (t_X6_given M _ _ _ _ _ hq) (by decide)) ?_
                  refine zX_go (c := 3) (pc' := if q18.1 < 0 then 85 else 88) (lv' := [.ref 6, .int x1, .int x2, .int x3, .int q18.1]) (st' := []) (h' := zHp s q18.2) rfl ?_
                  refine zX_ite hF (fun c0 hF => ?_) (fun c0 hF => ?_)
                  · refine zX_go (c := 1) (pc' := 87) (lv' := [.ref 6, .int x1, .int x2, .int x3, .int q18.1]) (st' := [.int q18.1]) (h' := zHp s q18.2) rfl ?_
                    obtain rfl := Option.some.inj hF
                    exact zX_reti rfl
                  · refine zX_go (c := 5) (pc' := 95) (lv' := [.ref 6, .int x1, .int x2, .int x3, .int q18.1]) (st' := [.int x2, .int x1, .ref 6, .ref 42]) (h' := zHp s q18.2) rfl ?_
                    obtain ⟨q19, hq, hF⟩ := zbd_ok hF
                    refine zX_inv (av := [.ref 6, .int x1, .int x2]) (st := [.ref 42]) (h' := zHp s q18.2) rfl rfl rfl rfl rfl rfl (zcall_le (t_X6_elementOf M _ _ _ _ _ hq) (by decide)) ?_
                    refine zX_go (c := 1) (pc' := 100) (lv' := [.ref 6, .int x1, .int x2, .int x3, .int q18.1]) (st' := [.int q18.1, .int q19, .ref 42]) (h' := zHp s q18.2) rfl ?_
                    refine zX_ias (n := 60) (h' := zHp s (zup q18.2 10 q19.toNatClampNeg q18.1)) rfl rfl (zst_42 _ _ _ _) hF (fun hF => ?_)
                    refine zX_go (c := 1) (pc' := 102) (lv' := [.ref 6, .int x1, .int x2, .int x3, .int q18.1]) (st' := [.int (nI 1)]) (h' := zHp s (zup q18.2 10 q19.toNatClampNeg q18.1)) rfl ?_
                    obtain rfl := Option.some.inj hF
                    exact zX_reti rfl
              · refine zX_go (c := 1) (pc' := 66) (lv' := [.ref 6, .int x1, .int x2, .int x3, .retAddr 0]) (st' := [.int (-4)]) (h' := zHp s t) rfl ?_
                obtain rfl := Option.some.inj hF
                exact zX_reti rfl
          · refine zX_go (c := 1) (pc' := 66) (lv' := [.ref 6, .int x1, .int x2, .int x3, .retAddr 0]) (st' := [.int (-4)]) (h' := zHp s t) rfl ?_
            obtain rfl := Option.some.inj hF
            exact zX_reti rfl
def f_X6_give (M : Nat) (t : zS) (x1 x2 x3 : Int32) : Option (Int32 × zS) :=
  zbd (f_X6_isSort M t x1 (nI 2)) (fun q1 =>
   if q1 = 0 then
    some ((-2), t)
   else
    zq (zin x1 100) <|
    zbd (f_X6_elementOf M t (t 17 x1.toNatClampNeg) x2) (fun q2 =>
     if q2 = (-1) then
      some ((-2), t)
     else
      if x3 = (-1) then
       zq (zin x1 100) <|
       zbd (f_X6_elementOf M t (t 17 x1.toNatClampNeg) x2) (fun q3 =>
        zq (zin x1 100) <|
        zq (zin x1 100) <|
        if (t 19 x1.toNatClampNeg) = 0 then
         zq (zin ((((nI 5) * x1) + q3) - ((nI 5) * (t 17 x1.toNatClampNeg))) 500) <|
         if (t 20 ((((nI 5) * x1) + q3) - ((nI 5) * (t 17 x1.toNatClampNeg))).toNatClampNeg) = (-1) then
          if x3 = x1 then
           some ((-4), t)
          else
           if x3 = (-1) then
            zbd (f_X6_given M t q3 x3) (fun q4 =>
             if q4.1 < 0 then
              some (q4.1, q4.2)
             else
              zq (zin ((((nI 5) * x1) + q3) - ((nI 5) * (t 17 x1.toNatClampNeg))) 500) <|
              zq (zin x1 100) <|
              zq (zin x1 100) <|
              some (nI 1, zup (zup q4.2 20 ((((nI 5) * x1) + q3) - ((nI 5) * (t 17 x1.toNatClampNeg))).toNatClampNeg q4.1) 18 x1.toNatClampNeg ((q4.2 18 x1.toNatClampNeg) + (nI 1))))
           else
            zq (zin x3 100) <|
            if (t 19 x3.toNatClampNeg) = 0 then
             zbd (f_X6_given M t q3 x3) (fun q5 =>
              if q5.1 < 0 then
               some (q5.1, q5.2)
              else
               zq (zin ((((nI 5) * x1) + q3) - ((nI 5) * (t 17 x1.toNatClampNeg))) 500) <|
               zq (zin x1 100) <|
               zq (zin x1 100) <|
               some (nI 1, zup (zup q5.2 20 ((((nI 5) * x1) + q3) - ((nI 5) * (t 17 x1.toNatClampNeg))).toNatClampNeg q5.1) 18 x1.toNatClampNeg ((q5.2 18 x1.toNatClampNeg) + (nI 1))))
            else
             some ((-4), t)
         else
          some ((-4), t)
        else
         some ((-4), t))
      else
       zbd (f_X6_isValue M t x3) (fun q6 =>
        if q6 = 0 then
         some ((-2), t)
        else
         zq (zin x1 100) <|
         zbd (f_X6_elementOf M t (t 17 x1.toNatClampNeg) x2) (fun q7 =>
          zq (zin x1 100) <|
          zq (zin x1 100) <|
          if (t 19 x1.toNatClampNeg) = 0 then
           zq (zin ((((nI 5) * x1) + q7) - ((nI 5) * (t 17 x1.toNatClampNeg))) 500) <|
           if (t 20 ((((nI 5) * x1) + q7) - ((nI 5) * (t 17 x1.toNatClampNeg))).toNatClampNeg) = (-1) then
            if x3 = x1 then
             some ((-4), t)
            else
             if x3 = (-1) then
              zbd (f_X6_given M t q7 x3) (fun q8 =>
               if q8.1 < 0 then
                some (q8.1, q8.2)
               else
                zq (zin ((((nI 5) * x1) + q7) - ((nI 5) * (t 17 x1.toNatClampNeg))) 500) <|
                zq (zin x1 100) <|
                zq (zin x1 100) <|
                some (nI 1, zup (zup q8.2 20 ((((nI 5) * x1) + q7) - ((nI 5) * (t 17 x1.toNatClampNeg))).toNatClampNeg q8.1) 18 x1.toNatClampNeg ((q8.2 18 x1.toNatClampNeg) + (nI 1))))
             else
              zq (zin x3 100) <|
              if (t 19 x3.toNatClampNeg) = 0 then
               zbd (f_X6_given M t q7 x3) (fun q9 =>
                if q9.1 < 0 then
                 some (q9.1, q9.2)
                else
                 zq (zin ((((nI 5) * x1) + q7) - ((nI 5) * (t 17 x1.toNatClampNeg))) 500) <|
                 zq (zin x1 100) <|
                 zq (zin x1 100) <|
                 some (nI 1, zup (zup q9.2 20 ((((nI 5) * x1) + q7) - ((nI 5) * (t 17 x1.toNatClampNeg))).toNatClampNeg q9.1) 18 x1.toNatClampNeg ((q9.2 18 x1.toNatClampNeg) + (nI 1))))
              else
               some ((-4), t)
           else
            some ((-4), t)
          else
           some ((-4), t)))))
set_option maxRecDepth 100000 in
set_option maxHeartbeats 4000000 in
theorem t_X6_give {L : Nat} {xs : Nat → Int32} (M : Nat) (s t : zS) (x1 x2 x3 : Int32) (R : Int32 × zS) (hF : f_X6_give M t x1 x2 x3 = some R) : zcall (ztb L xs) 3 116 [.ref 6, .int x1, .int x2, .int x3] (zHp s t) = some (some (.int R.1), zHp s R.2) := by
  unfold f_X6_give at hF
  refine zcall_X (d := 2) (e := zm_X6_give) rfl rfl ?_
  show zX (ztb L xs) (zcall (ztb L xs) 2) 6 1 zk_X6_give 0 [.ref 6, .int x1, .int x2, .int x3, .retAddr 0, .retAddr 0, .retAddr 0] [] (zHp s t) _
  refine zX_go (c := 3) (pc' := 3) (lv' := [.ref 6, .int x1, .int x2, .int x3, .retAddr 0, .retAddr 0, .retAddr 0]) (st' := [.int (nI 2), .int x1, .ref 6]) (h' := zHp s t) rfl ?_
  obtain ⟨q1, hq, hF⟩ := zbd_ok hF
  refine zX_inv (av := [.ref 6, .int x1, .int (nI 2)]) (st := []) (h' := zHp s t) rfl rfl rfl rfl rfl rfl (zcall_le (t_X6_isSort M _ _ _ _ _ hq) (by decide)) ?_
  refine zX_go (c := 1) (pc' := if q1 = 0 then 37 else 9) (lv' := [.ref 6, .int x1, .int x2, .int x3, .retAddr 0, .retAddr 0, .retAddr 0]) (st' := []) (h' := zHp s t) rfl ?_
  refine zX_ite hF (fun c0 hF => ?_) (fun c0 hF => ?_)
  · refine zX_go (c := 1) (pc' := 39) (lv' := [.ref 6, .int x1, .int x2, .int x3, .retAddr 0, .retAddr 0, .retAddr 0]) (st' := [.int (-2)]) (h' := zHp s t) rfl ?_
    obtain rfl := Option.some.inj hF
    exact zX_reti rfl
  · refine zX_go (c := 4) (pc' := 15) (lv' := [.ref 6, .int x1, .int x2, .int x3, .retAddr 0, .retAddr 0, .retAddr 0]) (st' := [.int x1, .ref 47, .ref 6]) (h' := zHp s t) rfl ?_
    refine zX_ial (n := 100) rfl rfl hF (fun hF => ?_)
    refine zX_go (c := 1) (pc' := 17) (lv' := [.ref 6, .int x1, .int x2, .int x3, .retAddr 0, .retAddr 0, .retAddr 0]) (st' := [.int x2, .int (t 17 x1.toNatClampNeg), .ref 6]) (h' := zHp s t) rfl ?_
    obtain ⟨q2, hq, hF⟩ := zbd_ok hF
    refine zX_inv (av := [.ref 6, .int (t 17 x1.toNatClampNeg), .int x2]) (st := []) (h' := zHp s t) rfl rfl rfl rfl rfl rfl (zcall_le (t_X6_elementOf M _ _ _ _ _ hq) (by decide)) ?_
    refine zX_go (c := 2) (pc' := if q2 = (-1) then 37 else 24) (lv' := [.ref 6, .int x1, .int x2, .int x3, .retAddr 0, .retAddr 0, .retAddr 0]) (st' := []) (h' := zHp s t) rfl ?_
    refine zX_ite hF (fun c0 hF => ?_) (fun c0 hF => ?_)
    · refine zX_go (c := 1) (pc' := 39) (lv' := [.ref 6, .int x1, .int x2, .int x3, .retAddr 0, .retAddr 0, .retAddr 0]) (st' := [.int (-2)]) (h' := zHp s t) rfl ?_
      obtain rfl := Option.some.inj hF
      exact zX_reti rfl
    · refine zX_go (c := 3) (pc' := if x3 = (-1) then 40 else 29) (lv' := [.ref 6, .int x1, .int x2, .int x3, .retAddr 0, .retAddr 0, .retAddr 0]) (st' := []) (h' := zHp s t) rfl ?_
      refine zX_ite hF (fun c0 hF => ?_) (fun c0 hF => ?_)
      · refine zX_go (c := 4) (pc' := 46) (lv' := [.ref 6, .int x1, .int x2, .int x3, .retAddr 0, .retAddr 0, .retAddr 0]) (st' := [.int x1, .ref 47, .ref 6]) (h' := zHp s t) rfl ?_
        refine zX_ial (n := 100) rfl rfl hF (fun hF => ?_)
        refine zX_go (c := 1) (pc' := 48) (lv' := [.ref 6, .int x1, .int x2, .int x3, .retAddr 0, .retAddr 0, .retAddr 0]) (st' := [.int x2, .int (t 17 x1.toNatClampNeg), .ref 6]) (h' := zHp s t) rfl ?_
        obtain ⟨q3, hq, hF⟩ := zbd_ok hF
        refine zX_inv (av := [.ref 6, .int (t 17 x1.toNatClampNeg), .int x2]) (st := []) (h' := zHp s t) rfl rfl rfl rfl rfl rfl (zcall_le (t_X6_elementOf M _ _ _ _ _ hq) (by decide)) ?_
        refine zX_go (c := 10) (pc' := 65) (lv' := [.ref 6, .int x1, .int x2, .int x3, .int q3, .retAddr 0, .retAddr 0]) (st' := [.int x1, .ref 47, .int (nI 5), .int (((nI 5) * x1) + q3)]) (h' := zHp s t) rfl ?_
        refine zX_ial (n := 100) rfl rfl hF (fun hF => ?_)
        refine zX_go (c := 6) (pc' := 75) (lv' := [.ref 6, .int x1, .int x2, .int x3, .int q3, .int ((((nI 5) * x1) + q3) - ((nI 5) * (t 17 x1.toNatClampNeg))), .retAddr 0]) (st' := [.int x1, .ref 49]) (h' := zHp s t) rfl ?_
        refine zX_bal (n := 100) rfl rfl hF (fun hF => ?_)
        refine zX_go (c := 1) (pc' := if (t 19 x1.toNatClampNeg) = 0 then 79 else 109) (lv' := [.ref 6, .int x1, .int x2, .int x3, .int q3, .int ((((nI 5) * x1) + q3) - ((nI 5) * (t 17 x1.toNatClampNeg))), .retAddr 0]) (st' := []) (h' := zHp s t) rfl ?_
        refine zX_ite hF (fun c0 hF => ?_) (fun c0 hF => ?_)
        · refine zX_go (c := 3) (pc' := 85) (lv' := [.ref 6, .int x1, .int x2, .int x3, .int q3, .int ((((nI 5) * x1) + q3) - ((nI 5) * (t 17 x1.toNatClampNeg))), .retAddr 0]) (st' := [.int ((((nI 5) * x1) + q3) - ((nI 5) * (t 17 x1.toNatClampNeg))), .ref 50]) (h' := zHp s t) rfl ?_
          refine zX_ial (n := 500) rfl rfl hF (fun hF => ?_)
          refine zX_go (c := 2) (pc' := if (t 20 ((((nI 5) * x1) + q3) - ((nI 5) * (t 17 x1.toNatClampNeg))).toNatClampNeg) = (-1) then 90 else 109) (lv' := [.ref 6, .int x1, .int x2, .int x3, .int q3, .int ((((nI 5) * x1) + q3) - ((nI 5) * (t 17 x1.toNatClampNeg))), .retAddr 0]) (st' := []) (h' := zHp s t) rfl ?_
          refine zX_ite hF (fun c0 hF => ?_) (fun c0 hF => ?_)
          · refine zX_go (c := 3) (pc' := if x3 = x1 then 109 else 95) (lv' := [.ref 6, .int x1, .int x2, .int x3, .int q3, .int ((((nI 5) * x1) + q3) - ((nI 5) * (t 17 x1.toNatClampNeg))), .retAddr 0]) (st' := []) (h' := zHp s t) rfl ?_
            refine zX_ite hF (fun c0 hF => ?_) (fun c0 hF => ?_)
            · refine zX_go (c := 1) (pc' := 111) (lv' := [.ref 6, .int x1, .int x2, .int x3, .int q3, .int ((((nI 5) * x1) + q3) - ((nI 5) * (t 17 x1.toNatClampNeg))), .retAddr 0]) (st' := [.int (-4)]) (h' := zHp s t) rfl ?_
              obtain rfl := Option.some.inj hF
              exact zX_reti rfl
            · refine zX_go (c := 3) (pc' := if x3 = (-1) then 112 else 100) (lv' := [.ref 6, .int x1, .int x2, .int x3, .int q3, .int ((((nI 5) * x1) + q3) - ((nI 5) * (t 17 x1.toNatClampNeg))), .retAddr 0]) (st' := []) (h' := zHp s t) rfl ?_
              refine zX_ite hF (fun c0 hF => ?_) (fun c0 hF => ?_)
              · refine zX_go (c := 3) (pc' := 116) (lv' := [.ref 6, .int x1, .int x2, .int x3, .int q3, .int ((((nI 5) * x1) + q3) - ((nI 5) * (t 17 x1.toNatClampNeg))), .retAddr 0]) (st' := [.int x3, .int q3, .ref 6]) (h' := zHp s t) rfl ?_
                obtain ⟨q4, hq, hF⟩ := zbd_ok hF
                refine zX_inv (av := [.ref 6, .int q3, .int x3]) (st := []) (h' := zHp s q4.2) rfl rfl rfl rfl rfl rfl (zcall_le (t_X6_given M _ _ _ _ _ hq) (by decide)) ?_
                refine zX_go (c := 3) (pc' := if q4.1 < 0 then 126 else 129) (lv' := [.ref 6, .int x1, .int x2, .int x3, .int q3, .int ((((nI 5) * x1) + q3) - ((nI 5) * (t 17 x1.toNatClampNeg))), .int q4.1]) (st' := []) (h' := zHp s q4.2) rfl ?_
                refine zX_ite hF (fun c0 hF => ?_) (fun c0 hF => ?_)
                · refine zX_go (c := 1) (pc' := 128) (lv' := [.ref 6, .int x1, .int x2, .int x3, .int q3, .int ((((nI 5) * x1) + q3) - ((nI 5) * (t 17 x1.toNatClampNeg))), .int q4.1]) (st' := [.int q4.1]) (h' := zHp s q4.2) rfl ?_
                  obtain rfl := Option.some.inj hF
                  exact zX_reti rfl
                · refine zX_go (c := 4) (pc' := 137) (lv' := [.ref 6, .int x1, .int x2, .int x3, .int q3, .int ((((nI 5) * x1) + q3) - ((nI 5) * (t 17 x1.toNatClampNeg))), .int q4.1]) (st' := [.int q4.1, .int ((((nI 5) * x1) + q3) - ((nI 5) * (t 17 x1.toNatClampNeg))), .ref 50]) (h' := zHp s q4.2) rfl ?_
                  refine zX_ias (n := 500) (h' := zHp s (zup q4.2 20 ((((nI 5) * x1) + q3) - ((nI 5) * (t 17 x1.toNatClampNeg))).toNatClampNeg q4.1)) rfl rfl (zst_50 _ _ _ _) hF (fun hF => ?_)
                  refine zX_go (c := 4) (pc' := 144) (lv' := [.ref 6, .int x1, .int x2, .int x3, .int q3, .int ((((nI 5) * x1) + q3) - ((nI 5) * (t 17 x1.toNatClampNeg))), .int q4.1]) (st' := [.int x1, .ref 48, .int x1, .ref 48]) (h' := zHp s (zup q4.2 20 ((((nI 5) * x1) + q3) - ((nI 5) * (t 17 x1.toNatClampNeg))).toNatClampNeg q4.1)) rfl ?_
                  refine zX_ial (n := 100) rfl rfl hF (fun hF => ?_)
                  refine zX_go (c := 2) (pc' := 147) (lv' := [.ref 6, .int x1, .int x2, .int x3, .int q3, .int ((((nI 5) * x1) + q3) - ((nI 5) * (t 17 x1.toNatClampNeg))), .int q4.1]) (st' := [.int ((q4.2 18 x1.toNatClampNeg) + (nI 1)), .int x1, .ref 48]) (h' := zHp s (zup q4.2 20 ((((nI 5) * x1) + q3) - ((nI 5) * (t 17 x1.toNatClampNeg))).toNatClampNeg q4.1)) rfl ?_
                  refine zX_ias (n := 100) (h' := zHp s (zup (zup q4.2 20 ((((nI 5) * x1) + q3) - ((nI 5) * (t 17 x1.toNatClampNeg))).toNatClampNeg q4.1) 18 x1.toNatClampNeg ((q4.2 18 x1.toNatClampNeg) + (nI 1)))) rfl rfl (zst_48 _ _ _ _) hF (fun hF => ?_)
                  refine zX_go (c := 1) (pc' := 149) (lv' := [.ref 6, .int x1, .int x2, .int x3, .int q3, .int ((((nI 5) * x1) + q3) - ((nI 5) * (t 17 x1.toNatClampNeg))), .int q4.1]) (st' := [.int (nI 1)]) (h' := zHp s (zup (zup q4.2 20 ((((nI 5) * x1) + q3) - ((nI 5) * (t 17 x1.toNatClampNeg))).toNatClampNeg q4.1) 18 x1.toNatClampNeg ((q4.2 18 x1.toNatClampNeg) + (nI 1)))) rfl ?_
                  obtain rfl := Option.some.inj hF
                  exact zX_reti rfl
              · refine zX_go (c := 3) (pc' := 105) (lv' := [.ref 6, .int x1, .int x2, .int x3, .int q3, .int ((((nI 5) * x1) + q3) - ((nI 5) * (t 17 x1.toNatClampNeg))), .retAddr 0]) (st' := [.int x3, .ref 49]) (h' := zHp s t) rfl ?_
                refine zX_bal (n := 100) rfl rfl hF (fun hF => ?_)
                refine zX_go (c := 1) (pc' := if (t 19 x3.toNatClampNeg) = 0 then 112 else 109) (lv' := [.ref 6, .int x1, .int x2, .int x3, .int q3, .int ((((nI 5) * x1) + q3) - ((nI 5) * (t 17 x1.toNatClampNeg))), .retAddr 0]) (st' := []) (h' := zHp s t) rfl ?_
                refine zX_ite hF (fun c0 hF => ?_) (fun c0 hF => ?_)
                · refine zX_go (c := 3) (pc' := 116) (lv' := [.ref 6, .int x1, .int x2, .int x3, .int q3, .int ((((nI 5) * x1) + q3) - ((nI 5) * (t 17 x1.toNatClampNeg))), .retAddr 0]) (st' := [.int x3, .int q3, .ref 6]) (h' := zHp s t) rfl ?_
                  obtain ⟨q5, hq, hF⟩ := zbd_ok hF
                  refine zX_inv (av := [.ref 6, .int q3, .int x3]) (st := []) (h' := zHp s q5.2) rfl rfl rfl rfl rfl rfl (zcall_le (t_X6_given M _ _ _ _ _ hq) (by decide)) ?_
                  refine zX_go (c := 3) (pc' := if q5.1 < 0 then 126 else 129) (lv' := [.ref 6, .int x1, .int x2, .int x3, .int q3, .int ((((nI 5) * x1) + q3) - ((nI 5) * (t 17 x1.toNatClampNeg))), .int q5.1]) (st' := []) (h' := zHp s q5.2) rfl ?_
                  refine zX_ite hF (fun c0 hF => ?_) (fun c0 hF => ?_)
                  · refine zX_go (c := 1) (pc' := 128) (lv' := [.ref 6, .int x1, .int x2, .int x3, .int q3, .int ((((nI 5) * x1) + q3) - ((nI 5) * (t 17 x1.toNatClampNeg))), .int q5.1]) (st' := [.int q5.1]) (h' := zHp s q5.2) rfl ?_
                    obtain rfl := Option.some.inj hF
                    exact zX_reti rfl
                  · refine zX_go (c := 4) (pc' := 137) (lv' := [.ref 6, .int x1, .int x2, .int x3, .int q3, .int ((((nI 5) * x1) + q3) - ((nI 5) * (t 17 x1.toNatClampNeg))), .int q5.1]) (st' := [.int q5.1, .int ((((nI 5) * x1) + q3) - ((nI 5) * (t 17 x1.toNatClampNeg))), .ref 50]) (h' := zHp s q5.2) rfl ?_
                    refine zX_ias (n := 500) (h' := zHp s (zup q5.2 20 ((((nI 5) * x1) + q3) - ((nI 5) * (t 17 x1.toNatClampNeg))).toNatClampNeg q5.1)) rfl rfl (zst_50 _ _ _ _) hF (fun hF => ?_)
                    refine zX_go (c := 4) (pc' := 144) (lv' := [.ref 6, .int x1, .int x2, .int x3, .int q3, .int ((((nI 5) * x1) + q3) - ((nI 5) * (t 17 x1.toNatClampNeg))), .int q5.1]) (st' := [.int x1, .ref 48, .int x1, .ref 48]) (h' := zHp s (zup q5.2 20 ((((nI 5) * x1) + q3) - ((nI 5) * (t 17 x1.toNatClampNeg))).toNatClampNeg q5.1)) rfl ?_
                    refine zX_ial (n := 100) rfl rfl hF (fun hF => ?_)
                    refine zX_go (c := 2) (pc' := 147) (lv' := [.ref 6, .int x1, .int x2, .int x3, .int q3, .int ((((nI 5) * x1) + q3) - ((nI 5) * (t 17 x1.toNatClampNeg))), .int q5.1]) (st' := [.int ((q5.2 18 x1.toNatClampNeg) + (nI 1)), .int x1, .ref 48]) (h' := zHp s (zup q5.2 20 ((((nI 5) * x1) + q3) - ((nI 5) * (t 17 x1.toNatClampNeg))).toNatClampNeg q5.1)) rfl ?_
                    refine zX_ias (n := 100) (h' := zHp s (zup (zup q5.2 20 ((((nI 5) * x1) + q3) - ((nI 5) * (t 17 x1.toNatClampNeg))).toNatClampNeg q5.1) 18 x1.toNatClampNeg ((q5.2 18 x1.toNatClampNeg) + (nI 1)))) rfl rfl (zst_48 _ _ _ _) hF (fun hF => ?_)
                    refine zX_go (c := 1) (pc' := 149) (lv' := [.ref 6, .int x1, .int x2, .int x3, .int q3, .int ((((nI 5) * x1) + q3) - ((nI 5) * (t 17 x1.toNatClampNeg))), .int q5.1]) (st' := [.int (nI 1)]) (h' := zHp s (zup (zup q5.2 20 ((((nI 5) * x1) + q3) - ((nI 5) * (t 17 x1.toNatClampNeg))).toNatClampNeg q5.1) 18 x1.toNatClampNeg ((q5.2 18 x1.toNatClampNeg) + (nI 1)))) rfl ?_
                    obtain rfl := Option.some.inj hF
                    exact zX_reti rfl
                · refine zX_go (c := 1) (pc' := 111) (lv' := [.ref 6, .int x1, .int x2, .int x3, .int q3, .int ((((nI 5) * x1) + q3) - ((nI 5) * (t 17 x1.toNatClampNeg))), .retAddr 0]) (st' := [.int (-4)]) (h' := zHp s t) rfl ?_
                  obtain rfl := Option.some.inj hF
                  exact zX_reti rfl
          · refine zX_go (c := 1) (pc' := 111) (lv' := [.ref 6, .int x1, .int x2, .int x3, .int q3, .int ((((nI 5) * x1) + q3) - ((nI 5) * (t 17 x1.toNatClampNeg))), .retAddr 0]) (st' := [.int (-4)]) (h' := zHp s t) rfl ?_
            obtain rfl := Option.some.inj hF
            exact zX_reti rfl
        · refine zX_go (c := 1) (pc' := 111) (lv' := [.ref 6, .int x1, .int x2, .int x3, .int q3, .int ((((nI 5) * x1) + q3) - ((nI 5) * (t 17 x1.toNatClampNeg))), .retAddr 0]) (st' := [.int (-4)]) (h' := zHp s t) rfl ?_
          obtain rfl := Option.some.inj hF
          exact zX_reti rfl
      · refine zX_go (c := 2) (pc' := 31) (lv' := [.ref 6, .int x1, .int x2, .int x3, .retAddr 0, .retAddr 0, .retAddr 0]) (st' := [.int x3, .ref 6]) (h' := zHp s t) rfl ?_
        obtain ⟨q6, hq, hF⟩ := zbd_ok hF
        refine zX_inv (av := [.ref 6, .int x3]) (st := []) (h' := zHp s t) rfl rfl rfl rfl rfl rfl (zcall_le (t_X6_isValue M _ _ _ _ hq) (by decide)) ?_
        refine zX_go (c := 1) (pc' := if q6 = 0 then 37 else 40) (lv' := [.ref 6, .int x1, .int x2, .int x3, .retAddr 0, .retAddr 0, .retAddr 0]) (st' := []) (h' := zHp s t) rfl ?_
        refine zX_ite hF (fun c0 hF => ?_) (fun c0 hF => ?_)
        · refine zX_go (c := 1) (pc' := 39) (lv' := [.ref 6, .int x1, .int x2, .int x3, .retAddr 0, .retAddr 0, .retAddr 0]) (st' := [.int (-2)]) (h' := zHp s t) rfl ?_
          obtain rfl := Option.some.inj hF
          exact zX_reti rfl
        · refine zX_go (c := 4) (pc' := 46) (lv' := [.ref 6, .int x1, .int x2, .int x3, .retAddr 0, .retAddr 0, .retAddr 0]) (st' := [.int x1, .ref 47, .ref 6]) (h' := zHp s t) rfl ?_
          refine zX_ial (n := 100) rfl rfl hF (fun hF => ?_)
          refine zX_go (c := 1) (pc' := 48) (lv' := [.ref 6, .int x1, .int x2, .int x3, .retAddr 0, .retAddr 0, .retAddr 0]) (st' := [.int x2, .int (t 17 x1.toNatClampNeg), .ref 6]) (h' := zHp s t) rfl ?_
          obtain ⟨q7, hq, hF⟩ := zbd_ok hF
          refine zX_inv (av := [.ref 6, .int (t 17 x1.toNatClampNeg), .int x2]) (st := []) (h' := zHp s t) rfl rfl rfl rfl rfl rfl (zcall_le (t_X6_elementOf M _ _ _ _ _ hq) (by decide)) ?_
          refine zX_go (c := 10) (pc' := 65) (lv' := [.ref 6, .int x1, .int x2, .int x3, .int q7, .retAddr 0, .retAddr 0]) (st' := [.int x1, .ref 47, .int (nI 5), .int (((nI 5) * x1) + q7)]) (h' := zHp s t) rfl ?_
          refine zX_ial (n := 100) rfl rfl hF (fun hF => ?_)
          refine zX_go (c := 6) (pc' := 75) (lv' := [.ref 6, .int x1, .int x2, .int x3, .int q7, .int ((((nI 5) * x1) + q7) - ((nI 5) * (t 17 x1.toNatClampNeg))), .retAddr 0]) (st' := [.int x1, .ref 49]) (h' := zHp s t) rfl ?_
          refine zX_bal (n := 100) rfl rfl hF (fun hF => ?_)
          refine zX_go (c := 1) (pc' := if (t 19 x1.toNatClampNeg) = 0 then 79 else 109) (lv' := [.ref 6, .int x1, .int x2, .int x3, .int q7, .int ((((nI 5) * x1) + q7) - ((nI 5) * (t 17 x1.toNatClampNeg))), .retAddr 0]) (st' := []) (h' := zHp s t) rfl ?_
          refine zX_ite hF (fun c0 hF => ?_) (fun c0 hF => ?_)
          · refine zX_go (c := 3) (pc' := 85) (lv' := [.ref 6, .int x1, .int x2, .int x3, .int q7, .int ((((nI 5) * x1) + q7) - ((nI 5) * (t 17 x1.toNatClampNeg))), .retAddr 0]) (st' := [.int ((((nI 5) * x1) + q7) - ((nI 5) * (t 17 x1.toNatClampNeg))), .ref 50]) (h' := zHp s t) rfl ?_
            refine zX_ial (n := 500) rfl rfl hF (fun hF => ?_)
            refine zX_go (c := 2) (pc' := if (t 20 ((((nI 5) * x1) + q7) - ((nI 5) * (t 17 x1.toNatClampNeg))).toNatClampNeg) = (-1) then 90 else 109) (lv' := [.ref 6, .int x1, .int x2, .int x3, .int q7, .int ((((nI 5) * x1) + q7) - ((nI 5) * (t 17 x1.toNatClampNeg))), .retAddr 0]) (st' := []) (h' := zHp s t) rfl ?_
            refine zX_ite hF (fun c0 hF => ?_) (fun c0 hF => ?_)
            · refine zX_go (c := 3) (pc' := if x3 = x1 then 109 else 95) (lv' := [.ref 6, .int x1, .int x2, .int x3, .int q7, .int ((((nI 5) * x1) + q7) - ((nI 5) * (t 17 x1.toNatClampNeg))), .retAddr 0]) (st' := []) (h' := zHp s t) rfl ?_
              refine zX_ite hF (fun c0 hF => ?_) (fun c0 hF => ?_)
              · refine zX_go (c := 1) (pc' := 111) (lv' := [.ref 6, .int x1, .int x2, .int x3, .int q7, .int ((((nI 5) * x1) + q7) - ((nI 5) * (t 17 x1.toNatClampNeg))), .retAddr 0]) (st' := [.int (-4)]) (h' := zHp s t) rfl ?_
                obtain rfl := Option.some.inj hF
                exact zX_reti rfl
              · refine zX_go (c := 3) (pc' := if x3 = (-1) then 112 else 100) (lv' := [.ref 6, .int x1, .int x2, .int x3, .int q7, .int ((((nI 5) * x1) + q7) - ((nI 5) * (t 17 x1.toNatClampNeg))), .retAddr 0]) (st' := []) (h' := zHp s t) rfl ?_
                refine zX_ite hF (fun c0 hF => ?_) (fun c0 hF => ?_)
                · refine zX_go (c := 3) (pc' := 116) (lv' := [.ref 6, .int x1, .int x2, .int x3, .int q7, .int ((((nI 5) * x1) + q7) - ((nI 5) * (t 17 x1.toNatClampNeg))), .retAddr 0]) (st' := [.int x3, .int q7, .ref 6]) (h' := zHp s t) rfl ?_
                  obtain ⟨q8, hq, hF⟩ := zbd_ok hF
                  refine zX_inv (av := [.ref 6, .int q7, .int x3]) (st := []) (h' := zHp s q8.2) rfl rfl rfl rfl rfl rfl (zcall_le (t_X6_given M _ _ _ _ _ hq) (by decide)) ?_
                  refine zX_go (c := 3) (pc' := if q8.1 < 0 then 126 else 129) (lv' := [.ref 6, .int x1, .int x2, .int x3, .int q7, .int ((((nI 5) * x1) + q7) - ((nI 5) * (t 17 x1.toNatClampNeg))), .int q8.1]) (st' := []) (h' := zHp s q8.2) rfl ?_
                  refine zX_ite hF (fun c0 hF => ?_) (fun c0 hF => ?_)
                  · refine zX_go (c := 1) (pc' := 128) (lv' := [.ref 6, .int x1, .int x2, .int x3, .int q7, .int ((((nI 5) * x1) + q7) - ((nI 5) * (t 17 x1.toNatClampNeg))), .int q8.1]) (st' := [.int q8.1]) (h' := zHp s q8.2) rfl ?_
                    obtain rfl := Option.some.inj hF
                    exact zX_reti rfl
                  · refine zX_go (c := 4) (pc' := 137) (lv' := [.ref 6, .int x1, .int x2, .int x3, .int q7, .int ((((nI 5) * x1) + q7) - ((nI 5) * (t 17 x1.toNatClampNeg))), .int q8.1]) (st' := [.int q8.1, .int ((((nI 5) * x1) + q7) - ((nI 5) * (t 17 x1.toNatClampNeg))), .ref 50]) (h' := zHp s q8.2) rfl ?_
                    refine zX_ias (n := 500) (h' := zHp s (zup q8.2 20 ((((nI 5) * x1) + q7) - ((nI 5) * (t 17 x1.toNatClampNeg))).toNatClampNeg q8.1)) rfl rfl (zst_50 _ _ _ _) hF (fun hF => ?_)
                    refine zX_go (c := 4) (pc' := 144) (lv' := [.ref 6, .int x1, .int x2, .int x3, .int q7, .int ((((nI 5) * x1) + q7) - ((nI 5) * (t 17 x1.toNatClampNeg))), .int q8.1]) (st' := [.int x1, .ref 48, .int x1, .ref 48]) (h' := zHp s (zup q8.2 20 ((((nI 5) * x1) + q7) - ((nI 5) * (t 17 x1.toNatClampNeg))).toNatClampNeg q8.1)) rfl ?_
                    refine zX_ial (n := 100) rfl rfl hF (fun hF => ?_)
                    refine zX_go (c := 2) (pc' := 147) (lv' := [.ref 6, .int x1, .int x2, .int x3, .int q7, .int ((((nI 5) * x1) + q7) - ((nI 5) * (t 17 x1.toNatClampNeg))), .int q8.1]) (st' := [.int ((q8.2 18 x1.toNatClampNeg) + (nI 1)), .int x1, .ref 48]) (h' := zHp s (zup q8.2 20 ((((nI 5) * x1) + q7) - ((nI 5) * (t 17 x1.toNatClampNeg))).toNatClampNeg q8.1)) rfl ?_
                    refine zX_ias (n := 100) (h' := zHp s (zup (zup q8.2 20 ((((nI 5) * x1) + q7) - ((nI 5) * (t 17 x1.toNatClampNeg))).toNatClampNeg q8.1) 18 x1.toNatClampNeg ((q8.2 18 x1.toNatClampNeg) + (nI 1)))) rfl rfl (zst_48 _ _ _ _) hF (fun hF => ?_)
                    refine zX_go (c := 1) (pc' := 149) (lv' := [.ref 6, .int x1, .int x2, .int x3, .int q7, .int ((((nI 5) * x1) + q7) - ((nI 5) * (t 17 x1.toNatClampNeg))), .int q8.1]) (st' := [.int (nI 1)]) (h' := zHp s (zup (zup q8.2 20 ((((nI 5) * x1) + q7) - ((nI 5) * (t 17 x1.toNatClampNeg))).toNatClampNeg q8.1) 18 x1.toNatClampNeg ((q8.2 18 x1.toNatClampNeg) + (nI 1)))) rfl ?_
                    obtain rfl := Option.some.inj hF
                    exact zX_reti rfl
                · refine zX_go (c := 3) (pc' := 105) (lv' := [.ref 6, .int x1, .int x2, .int x3, .int q7, .int ((((nI 5) * x1) + q7) - ((nI 5) * (t 17 x1.toNatClampNeg))), .retAddr 0]) (st' := [.int x3, .ref 49]) (h' := zHp s t) rfl ?_
                  refine zX_bal (n := 100) rfl rfl hF (fun hF => ?_)
                  refine zX_go (c := 1) (pc' := if (t 19 x3.toNatClampNeg) = 0 then 112 else 109) (lv' := [.ref 6, .int x1, .int x2, .int x3, .int q7, .int ((((nI 5) * x1) + q7) - ((nI 5) * (t 17 x1.toNatClampNeg))), .retAddr 0]) (st' := []) (h' := zHp s t) rfl ?_
                  refine zX_ite hF (fun c0 hF => ?_) (fun c0 hF => ?_)
                  · refine zX_go (c := 3) (pc' := 116) (lv' := [.ref 6, .int x1, .int x2, .int x3, .int q7, .int ((((nI 5) * x1) + q7) - ((nI 5) * (t 17 x1.toNatClampNeg))), .retAddr 0]) (st' := [.int x3, .int q7, .ref 6]) (h' := zHp s t) rfl ?_
                    obtain ⟨q9, hq, hF⟩ := zbd_ok hF
                    refine zX_inv (av := [.ref 6, .int q7, .int x3]) (st := []) (h' := zHp s q9.2) rfl rfl rfl rfl rfl rfl (zcall_le (t_X6_given M _ _ _ _ _ hq) (by decide)) ?_
                    refine zX_go (c := 3) (pc' := if q9.1 < 0 then 126 else 129) (lv' := [.ref 6, .int x1, .int x2, .int x3, .int q7, .int ((((nI 5) * x1) + q7) - ((nI 5) * (t 17 x1.toNatClampNeg))), .int q9.1]) (st' := []) (h' := zHp s q9.2) rfl ?_
                    refine zX_ite hF (fun c0 hF => ?_) (fun c0 hF => ?_)
                    · refine zX_go (c := 1) (pc' := 128) (lv' := [.ref 6, .int x1, .int x2, .int x3, .int q7, .int ((((nI 5) * x1) + q7) - ((nI 5) * (t 17 x1.toNatClampNeg))), .int q9.1]) (st' := [.int q9.1]) (h' := zHp s q9.2) rfl ?_
                      obtain rfl := Option.some.inj hF
                      exact zX_reti rfl
                    · refine zX_go (c := 4) (pc' := 137) (lv' := [.ref 6, .int x1, .int x2, .int x3, .int q7, .int ((((nI 5) * x1) + q7) - ((nI 5) * (t 17 x1.toNatClampNeg))), .int q9.1]) (st' := [.int q9.1, .int ((((nI 5) * x1) + q7) - ((nI 5) * (t 17 x1.toNatClampNeg))), .ref 50]) (h' := zHp s q9.2) rfl ?_
                      refine zX_ias (n := 500) (h' := zHp s (zup q9.2 20 ((((nI 5) * x1) + q7) - ((nI 5) * (t 17 x1.toNatClampNeg))).toNatClampNeg q9.1)) rfl rfl (zst_50 _ _ _ _) hF (fun hF => ?_)
                      refine zX_go (c := 4) (pc' := 144) (lv' := [.ref 6, .int x1, .int x2, .int x3, .int q7, .int ((((nI 5) * x1) + q7) - ((nI 5) * (t 17 x1.toNatClampNeg))), .int q9.1]) (st' := [.int x1, .ref 48, .int x1, .ref 48]) (h' := zHp s (zup q9.2 20 ((((nI 5) * x1) + q7) - ((nI 5) * (t 17 x1.toNatClampNeg))).toNatClampNeg q9.1)) rfl ?_
                      refine zX_ial (n := 100) rfl rfl hF (fun hF => ?_)
                      refine zX_go (c := 2) (pc' := 147) (lv' := [.ref 6, .int x1, .int x2, .int x3, .int q7, .int ((((nI 5) * x1) + q7) - ((nI 5) * (t 17 x1.toNatClampNeg))), .int q9.1]) (st' := [.int ((q9.2 18 x1.toNatClampNeg) + (nI 1)), .int x1, .ref 48]) (h' := zHp s (zup q9.2 20 ((((nI 5) * x1) + q7) - ((nI 5) * (t 17 x1.toNatClampNeg))).toNatClampNeg q9.1)) rfl ?_
                      refine zX_ias (n := 100) (h' := zHp s (zup (zup q9.2 20 ((((nI 5) * x1) + q7) - ((nI 5) * (t 17 x1.toNatClampNeg))).toNatClampNeg q9.1) 18 x1.toNatClampNeg ((q9.2 18 x1.toNatClampNeg) + (nI 1)))) rfl rfl (zst_48 _ _ _ _) hF (fun hF => ?_)
                      refine zX_go (c := 1) (pc' := 149) (lv' := [.ref 6, .int x1, .int x2, .int x3, .int q7, .int ((((nI 5) * x1) + q7) - ((nI 5) * (t 17 x1.toNatClampNeg))), .int q9.1]) (st' := [.int (nI 1)]) (h' := zHp s (zup (zup q9.2 20 ((((nI 5) * x1) + q7) - ((nI 5) * (t 17 x1.toNatClampNeg))).toNatClampNeg q9.1) 18 x1.toNatClampNeg ((q9.2 18 x1.toNatClampNeg) + (nI 1)))) rfl ?_
                      obtain rfl := Option.some.inj hF
                      exact zX_reti rfl
                  · refine zX_go (c := 1) (pc' := 111) (lv' := [.ref 6, .int x1, .int x2, .int x3, .int q7, .int ((((nI 5) * x1) + q7) - ((nI 5) * (t 17 x1.toNatClampNeg))), .retAddr 0]) (st' := [.int (-4)]) (h' := zHp s t) rfl ?_
                    obtain rfl := Option.some.inj hF
                    exact zX_reti rfl
            · refine zX_go (c := 1) (pc' := 111) (lv' := [.ref 6, .int x1, .int x2, .int x3, .int q7, .int ((((nI 5) * x1) + q7) - ((nI 5) * (t 17 x1.toNatClampNeg))), .retAddr 0]) (st' := [.int (-4)]) (h' := zHp s t) rfl ?_
              obtain rfl := Option.some.inj hF
              exact zX_reti rfl
          · refine zX_go (c := 1) (pc' := 111) (lv' := [.ref 6, .int x1, .int x2, .int x3, .int q7, .int ((((nI 5) * x1) + q7) - ((nI 5) * (t 17 x1.toNatClampNeg))), .retAddr 0]) (st' := [.int (-4)]) (h' := zHp s t) rfl ?_
            obtain rfl := Option.some.inj hF
            exact zX_reti rfl
def f_X6_isLike (M : Nat) (t : zS) (x1 x2 : Int32) : Option (Int32) :=
  zq (zin x1 100) <|
  zq (zin x2 100) <|
  if (t 16 x1.toNatClampNeg) = (t 16 x2.toNatClampNeg) then
   zq (zin x1 100) <|
   zq (zin x2 100) <|
   if (t 17 x1.toNatClampNeg) = (t 17 x2.toNatClampNeg) then
    zq (zin x1 100) <|
    if (t 16 x1.toNatClampNeg) = (nI 2) then
     some (nI 1)
    else
     zq (zin x1 100) <|
     zq (zin x2 100) <|
     if (t 18 x1.toNatClampNeg) = (t 18 x2.toNatClampNeg) then
      some (nI 1)
     else
      some (nI 0)
   else
    some (nI 0)
  else
   some (nI 0)
set_option maxRecDepth 100000 in
set_option maxHeartbeats 4000000 in
theorem t_X6_isLike {L : Nat} {xs : Nat → Int32} (M : Nat) (s t : zS) (x1 x2 : Int32) (R : Int32) (hF : f_X6_isLike M t x1 x2 = some R) : zcall (ztb L xs) 1 121 [.ref 6, .int x1, .int x2] (zHp s t) = some (some (.int R), zHp s t) := by
  unfold f_X6_isLike at hF
  refine zcall_X (d := 0) (e := zm_X6_isLike) rfl rfl ?_
  show zX (ztb L xs) (zcall (ztb L xs) 0) 6 2 zk_X6_isLike 0 [.ref 6, .int x1, .int x2] [] (zHp s t) _
  refine zX_go (c := 3) (pc' := 5) (lv' := [.ref 6, .int x1, .int x2]) (st' := [.int x1, .ref 46]) (h' := zHp s t) rfl ?_
  refine zX_ial (n := 100) rfl rfl hF (fun hF => ?_)
  refine zX_go (c := 3) (pc' := 11) (lv' := [.ref 6, .int x1, .int x2]) (st' := [.int x2, .ref 46, .int (t 16 x1.toNatClampNeg)]) (h' := zHp s t) rfl ?_
  refine zX_ial (n := 100) rfl rfl hF (fun hF => ?_)
  refine zX_go (c := 1) (pc' := if (t 16 x1.toNatClampNeg) = (t 16 x2.toNatClampNeg) then 15 else 59) (lv' := [.ref 6, .int x1, .int x2]) (st' := []) (h' := zHp s t) rfl ?_
  refine zX_ite hF (fun c0 hF => ?_) (fun c0 hF => ?_)
  · refine zX_go (c := 3) (pc' := 20) (lv' := [.ref 6, .int x1, .int x2]) (st' := [.int x1, .ref 47]) (h' := zHp s t) rfl ?_
    refine zX_ial (n := 100) rfl rfl hF (fun hF => ?_)
    refine zX_go (c := 3) (pc' := 26) (lv' := [.ref 6, .int x1, .int x2]) (st' := [.int x2, .ref 47, .int (t 17 x1.toNatClampNeg)]) (h' := zHp s t) rfl ?_
    refine zX_ial (n := 100) rfl rfl hF (fun hF => ?_)
    refine zX_go (c := 1) (pc' := if (t 17 x1.toNatClampNeg) = (t 17 x2.toNatClampNeg) then 30 else 59) (lv' := [.ref 6, .int x1, .int x2]) (st' := []) (h' := zHp s t) rfl ?_
    refine zX_ite hF (fun c0 hF => ?_) (fun c0 hF => ?_)
    · refine zX_go (c := 3) (pc' := 35) (lv' := [.ref 6, .int x1, .int x2]) (st' := [.int x1, .ref 46]) (h' := zHp s t) rfl ?_
      refine zX_ial (n := 100) rfl rfl hF (fun hF => ?_)
      refine zX_go (c := 2) (pc' := if (t 16 x1.toNatClampNeg) = (nI 2) then 55 else 40) (lv' := [.ref 6, .int x1, .int x2]) (st' := []) (h' := zHp s t) rfl ?_
      refine zX_ite hF (fun c0 hF => ?_) (fun c0 hF => ?_)
      · refine zX_go (c := 2) (pc' := 60) (lv' := [.ref 6, .int x1, .int x2]) (st' := [.int (nI 1)]) (h' := zHp s t) rfl ?_
        obtain rfl := Option.some.inj hF
        exact zX_retz rfl (by decide)
      · refine zX_go (c := 3) (pc' := 45) (lv' := [.ref 6, .int x1, .int x2]) (st' := [.int x1, .ref 48]) (h' := zHp s t) rfl ?_
        refine zX_ial (n := 100) rfl rfl hF (fun hF => ?_)
        refine zX_go (c := 3) (pc' := 51) (lv' := [.ref 6, .int x1, .int x2]) (st' := [.int x2, .ref 48, .int (t 18 x1.toNatClampNeg)]) (h' := zHp s t) rfl ?_
        refine zX_ial (n := 100) rfl rfl hF (fun hF => ?_)
        refine zX_go (c := 1) (pc' := if (t 18 x1.toNatClampNeg) = (t 18 x2.toNatClampNeg) then 55 else 59) (lv' := [.ref 6, .int x1, .int x2]) (st' := []) (h' := zHp s t) rfl ?_
        refine zX_ite hF (fun c0 hF => ?_) (fun c0 hF => ?_)
        · refine zX_go (c := 2) (pc' := 60) (lv' := [.ref 6, .int x1, .int x2]) (st' := [.int (nI 1)]) (h' := zHp s t) rfl ?_
          obtain rfl := Option.some.inj hF
          exact zX_retz rfl (by decide)
        · refine zX_go (c := 1) (pc' := 60) (lv' := [.ref 6, .int x1, .int x2]) (st' := [.int (nI 0)]) (h' := zHp s t) rfl ?_
          obtain rfl := Option.some.inj hF
          exact zX_retz rfl (by decide)
    · refine zX_go (c := 1) (pc' := 60) (lv' := [.ref 6, .int x1, .int x2]) (st' := [.int (nI 0)]) (h' := zHp s t) rfl ?_
      obtain rfl := Option.some.inj hF
      exact zX_retz rfl (by decide)
  · refine zX_go (c := 1) (pc' := 60) (lv' := [.ref 6, .int x1, .int x2]) (st' := [.int (nI 0)]) (h' := zHp s t) rfl ?_
    obtain rfl := Option.some.inj hF
    exact zX_retz rfl (by decide)
def l_X6_areEqual (M : Nat) : Nat → zS → Int32 → Option (Int32 × zS)
  | 0, _, _ => none
  | N + 1, t, y3 =>
    if y3 = 0 then
     zq (y3 &&& 1 == y3) <|
     some (y3, t)
    else
     if 0 < (t 23 0) then
      zq (zin ((t 23 0) - (nI 1)) 64) <|
      zq (zin ((t 23 0) - (nI 1)) 64) <|
      zbd (f_X6_within M t (t 24 ((t 23 0) - (nI 1)).toNatClampNeg)) (fun q1 =>
       if (t 26 ((t 23 0) - (nI 1)).toNatClampNeg) = q1 then
        l_X6_areEqual M N (zup t 23 0 ((t 23 0) - (nI 1))) y3
       else
        zq (zin ((t 23 0) - (nI 1)) 64) <|
        zq (zin ((t 23 0) - (nI 1)) 64) <|
        zbd (f_X6_inner M t (t 24 ((t 23 0) - (nI 1)).toNatClampNeg) (t 26 ((t 23 0) - (nI 1)).toNatClampNeg)) (fun q2 =>
         zq (zin ((t 23 0) - (nI 1)) 64) <|
         zq (zin ((t 23 0) - (nI 1)) 64) <|
         zbd (f_X6_inner M t (t 25 ((t 23 0) - (nI 1)).toNatClampNeg) (t 26 ((t 23 0) - (nI 1)).toNatClampNeg)) (fun q3 =>
          zq (zin ((t 23 0) - (nI 1)) 64) <|
          zq (zin ((t 23 0) - (nI 1)) 64) <|
          if q2 = q3 then
           if q2 = q3 then
            l_X6_areEqual M N (zup t 26 ((t 23 0) - (nI 1)).toNatClampNeg ((t 26 ((t 23 0) - (nI 1)).toNatClampNeg) + (nI 1))) (nI 1)
           else
            zbd (f_X6_pile M (zup t 26 ((t 23 0) - (nI 1)).toNatClampNeg ((t 26 ((t 23 0) - (nI 1)).toNatClampNeg) + (nI 1))) q2 q3) (fun q4 =>
             l_X6_areEqual M N q4 (nI 1))
          else
           if q2 = (-1) then
            l_X6_areEqual M N (zup t 26 ((t 23 0) - (nI 1)).toNatClampNeg ((t 26 ((t 23 0) - (nI 1)).toNatClampNeg) + (nI 1))) (nI 0)
           else
            if q3 = (-1) then
             l_X6_areEqual M N (zup t 26 ((t 23 0) - (nI 1)).toNatClampNeg ((t 26 ((t 23 0) - (nI 1)).toNatClampNeg) + (nI 1))) (nI 0)
            else
             zbd (f_X6_isLike M (zup t 26 ((t 23 0) - (nI 1)).toNatClampNeg ((t 26 ((t 23 0) - (nI 1)).toNatClampNeg) + (nI 1))) q2 q3) (fun q5 =>
              if q5 = 0 then
               l_X6_areEqual M N (zup t 26 ((t 23 0) - (nI 1)).toNatClampNeg ((t 26 ((t 23 0) - (nI 1)).toNatClampNeg) + (nI 1))) (nI 0)
              else
               if q2 = q3 then
                l_X6_areEqual M N (zup t 26 ((t 23 0) - (nI 1)).toNatClampNeg ((t 26 ((t 23 0) - (nI 1)).toNatClampNeg) + (nI 1))) (nI 1)
               else
                zbd (f_X6_pile M (zup t 26 ((t 23 0) - (nI 1)).toNatClampNeg ((t 26 ((t 23 0) - (nI 1)).toNatClampNeg) + (nI 1))) q2 q3) (fun q6 =>
                 l_X6_areEqual M N q6 (nI 1))))))
     else
      zq (y3 &&& 1 == y3) <|
      some (y3, t)
set_option maxRecDepth 100000 in
set_option maxHeartbeats 4000000 in
theorem tl_X6_areEqual {L : Nat} {xs : Nat → Int32} (M : Nat) (s : zS) : ∀ (N : Nat) (t : zS) (y3 : Int32) (R : Int32 × zS) (u1 : Int32) (u2 : Int32) (u4 : Value) (u5 : Value) (u6 : Value) (hF : l_X6_areEqual M N t y3 = some R), zX (ztb L xs) (zcall (ztb L xs) 1) 6 2 zk_X6_areEqual 18 [.ref 6, .int u1, .int u2, .int y3, u4, u5, u6] [] (zHp s t) (some (.int R.1), zHp s R.2) := by
  intro N
  induction N with
  | zero => intro t y3 R u1 u2 u4 u5 u6 hF; cases hF
  | succ N ih =>
    intro t y3 R u1 u2 u4 u5 u6 hF
    unfold l_X6_areEqual at hF
    refine zX_go (c := 2) (pc' := if y3 = 0 then 180 else 22) (lv' := [.ref 6, .int u1, .int u2, .int y3, u4, u5, u6]) (st' := []) (h' := zHp s t) rfl ?_
    refine zX_ite hF (fun c0 hF => ?_) (fun c0 hF => ?_)
    · refine zX_go (c := 1) (pc' := 181) (lv' := [.ref 6, .int u1, .int u2, .int y3, u4, u5, u6]) (st' := [.int y3]) (h' := zHp s t) rfl ?_
      obtain ⟨hb, hF⟩ := zq_ok hF
      obtain rfl := Option.some.inj hF
      exact zX_retz rfl (by simpa using hb)
    · refine zX_go (c := 3) (pc' := if 0 < (t 23 0) then 29 else 180) (lv' := [.ref 6, .int u1, .int u2, .int y3, u4, u5, u6]) (st' := []) (h' := zHp s t) rfl ?_
      refine zX_ite hF (fun c0 hF => ?_) (fun c0 hF => ?_)
      · refine zX_go (c := 8) (pc' := 43) (lv' := [.ref 6, .int u1, .int u2, .int y3, .int ((t 23 0) - (nI 1)), u5, u6]) (st' := [.int ((t 23 0) - (nI 1)), .ref 54]) (h' := zHp s t) rfl ?_
        refine zX_ial (n := 64) rfl rfl hF (fun hF => ?_)
        refine zX_go (c := 4) (pc' := 51) (lv' := [.ref 6, .int u1, .int u2, .int y3, .int ((t 23 0) - (nI 1)), u5, u6]) (st' := [.int ((t 23 0) - (nI 1)), .ref 52, .ref 6, .int (t 26 ((t 23 0) - (nI 1)).toNatClampNeg)]) (h' := zHp s t) rfl ?_
        refine zX_ial (n := 64) rfl rfl hF (fun hF => ?_)
        obtain ⟨q1, hq, hF⟩ := zbd_ok hF
        refine zX_inv (av := [.ref 6, .int (t 24 ((t 23 0) - (nI 1)).toNatClampNeg)]) (st := [.int (t 26 ((t 23 0) - (nI 1)).toNatClampNeg)]) (h' := zHp s t) rfl rfl rfl rfl rfl rfl (zcall_le (t_X6_within M _ _ _ _ hq) (by decide)) ?_
        refine zX_go (c := 1) (pc' := if (t 26 ((t 23 0) - (nI 1)).toNatClampNeg) = q1 then 58 else 71) (lv' := [.ref 6, .int u1, .int u2, .int y3, .int ((t 23 0) - (nI 1)), u5, u6]) (st' := []) (h' := zHp s t) rfl ?_
        refine zX_ite hF (fun c0 hF => ?_) (fun c0 hF => ?_)
        · refine zX_go (c := 5) (pc' := 65) (lv' := [.ref 6, .int u1, .int u2, .int y3, .int ((t 23 0) - (nI 1)), u5, u6]) (st' := [.int ((t 23 0) - (nI 1)), .ref 6]) (h' := zHp s t) rfl ?_
          refine zX_pfi (h' := zHp s (zup t 23 0 ((t 23 0) - (nI 1)))) rfl rfl rfl rfl (zst_6_23 _ _ _) ?_
          refine zX_go (c := 2) (pc' := 18) (lv' := [.ref 6, .int u1, .int u2, .int y3, .int ((t 23 0) - (nI 1)), u5, u6]) (st' := []) (h' := zHp s (zup t 23 0 ((t 23 0) - (nI 1)))) rfl ?_
          exact ih (zup t 23 0 ((t 23 0) - (nI 1))) y3 _ u1 u2 (.int ((t 23 0) - (nI 1))) u5 u6 hF
        · refine zX_go (c := 4) (pc' := 78) (lv' := [.ref 6, .int u1, .int u2, .int y3, .int ((t 23 0) - (nI 1)), u5, u6]) (st' := [.int ((t 23 0) - (nI 1)), .ref 52, .ref 6]) (h' := zHp s t) rfl ?_
          refine zX_ial (n := 64) rfl rfl hF (fun hF => ?_)
          refine zX_go (c := 3) (pc' := 85) (lv' := [.ref 6, .int u1, .int u2, .int y3, .int ((t 23 0) - (nI 1)), u5, u6]) (st' := [.int ((t 23 0) - (nI 1)), .ref 54, .int (t 24 ((t 23 0) - (nI 1)).toNatClampNeg), .ref 6]) (h' := zHp s t) rfl ?_
          refine zX_ial (n := 64) rfl rfl hF (fun hF => ?_)
          obtain ⟨q2, hq, hF⟩ := zbd_ok hF
          refine zX_inv (av := [.ref 6, .int (t 24 ((t 23 0) - (nI 1)).toNatClampNeg), .int (t 26 ((t 23 0) - (nI 1)).toNatClampNeg)]) (st := []) (h' := zHp s t) rfl rfl rfl rfl rfl rfl (zcall_le (t_X6_inner M _ _ _ _ _ hq) (by decide)) ?_
          refine zX_go (c := 5) (pc' := 98) (lv' := [.ref 6, .int u1, .int u2, .int y3, .int ((t 23 0) - (nI 1)), .int q2, u6]) (st' := [.int ((t 23 0) - (nI 1)), .ref 53, .ref 6]) (h' := zHp s t) rfl ?_
          refine zX_ial (n := 64) rfl rfl hF (fun hF => ?_)
          refine zX_go (c := 3) (pc' := 105) (lv' := [.ref 6, .int u1, .int u2, .int y3, .int ((t 23 0) - (nI 1)), .int q2, u6]) (st' := [.int ((t 23 0) - (nI 1)), .ref 54, .int (t 25 ((t 23 0) - (nI 1)).toNatClampNeg), .ref 6]) (h' := zHp s t) rfl ?_
          refine zX_ial (n := 64) rfl rfl hF (fun hF => ?_)
          obtain ⟨q3, hq, hF⟩ := zbd_ok hF
          refine zX_inv (av := [.ref 6, .int (t 25 ((t 23 0) - (nI 1)).toNatClampNeg), .int (t 26 ((t 23 0) - (nI 1)).toNatClampNeg)]) (st := []) (h' := zHp s t) rfl rfl rfl rfl rfl rfl (zcall_le (t_X6_inner M _ _ _ _ _ hq) (by decide)) ?_
          refine zX_go (c := 5) (pc' := 118) (lv' := [.ref 6, .int u1, .int u2, .int y3, .int ((t 23 0) - (nI 1)), .int q2, .int q3]) (st' := [.int ((t 23 0) - (nI 1)), .ref 54, .int ((t 23 0) - (nI 1)), .ref 54]) (h' := zHp s t) rfl ?_
          refine zX_ial (n := 64) rfl rfl hF (fun hF => ?_)
          refine zX_go (c := 2) (pc' := 121) (lv' := [.ref 6, .int u1, .int u2, .int y3, .int ((t 23 0) - (nI 1)), .int q2, .int q3]) (st' := [.int ((t 26 ((t 23 0) - (nI 1)).toNatClampNeg) + (nI 1)), .int ((t 23 0) - (nI 1)), .ref 54]) (h' := zHp s t) rfl ?_
          refine zX_ias (n := 64) (h' := zHp s (zup t 26 ((t 23 0) - (nI 1)).toNatClampNeg ((t 26 ((t 23 0) - (nI 1)).toNatClampNeg) + (nI 1)))) rfl rfl (zst_54 _ _ _ _) hF (fun hF => ?_)
          refine zX_go (c := 3) (pc' := if q2 = q3 then 152 else 129) (lv' := [.ref 6, .int u1, .int u2, .int y3, .int ((t 23 0) - (nI 1)), .int q2, .int q3]) (st' := []) (h' := zHp s (zup t 26 ((t 23 0) - (nI 1)).toNatClampNeg ((t 26 ((t 23 0) - (nI 1)).toNatClampNeg) + (nI 1)))) rfl ?_
          refine zX_ite hF (fun c0 hF => ?_) (fun c0 hF => ?_)
          · refine zX_go (c := 5) (pc' := if (nI 1) = 0 then 177 else 162) (lv' := [.ref 6, .int u1, .int u2, .int (nI 1), .int ((t 23 0) - (nI 1)), .int q2, .int q3]) (st' := []) (h' := zHp s (zup t 26 ((t 23 0) - (nI 1)).toNatClampNeg ((t 26 ((t 23 0) - (nI 1)).toNatClampNeg) + (nI 1)))) rfl ?_
            rw [if_neg (show ¬ ((nI 1) = 0) by decide)]
            refine zX_go (c := 3) (pc' := if q2 = q3 then 177 else 169) (lv' := [.ref 6, .int u1, .int u2, .int (nI 1), .int ((t 23 0) - (nI 1)), .int q2, .int q3]) (st' := []) (h' := zHp s (zup t 26 ((t 23 0) - (nI 1)).toNatClampNeg ((t 26 ((t 23 0) - (nI 1)).toNatClampNeg) + (nI 1)))) rfl ?_
            refine zX_ite hF (fun c0 hF => ?_) (fun c0 hF => ?_)
            · refine zX_go (c := 1) (pc' := 18) (lv' := [.ref 6, .int u1, .int u2, .int (nI 1), .int ((t 23 0) - (nI 1)), .int q2, .int q3]) (st' := []) (h' := zHp s (zup t 26 ((t 23 0) - (nI 1)).toNatClampNeg ((t 26 ((t 23 0) - (nI 1)).toNatClampNeg) + (nI 1)))) rfl ?_
              exact ih (zup t 26 ((t 23 0) - (nI 1)).toNatClampNeg ((t 26 ((t 23 0) - (nI 1)).toNatClampNeg) + (nI 1))) (nI 1) _ u1 u2 (.int ((t 23 0) - (nI 1))) (.int q2) (.int q3) hF
            · refine zX_go (c := 3) (pc' := 174) (lv' := [.ref 6, .int u1, .int u2, .int (nI 1), .int ((t 23 0) - (nI 1)), .int q2, .int q3]) (st' := [.int q3, .int q2, .ref 6]) (h' := zHp s (zup t 26 ((t 23 0) - (nI 1)).toNatClampNeg ((t 26 ((t 23 0) - (nI 1)).toNatClampNeg) + (nI 1)))) rfl ?_
              obtain ⟨q4, hq, hF⟩ := zbd_ok hF
              refine zX_inv (av := [.ref 6, .int q2, .int q3]) (st := []) (h' := zHp s q4) rfl rfl rfl rfl rfl rfl (zcall_le (t_X6_pile M _ _ _ _ _ hq) (by decide)) ?_
              refine zX_go (c := 1) (pc' := 18) (lv' := [.ref 6, .int u1, .int u2, .int (nI 1), .int ((t 23 0) - (nI 1)), .int q2, .int q3]) (st' := []) (h' := zHp s q4) rfl ?_
              exact ih q4 (nI 1) _ u1 u2 (.int ((t 23 0) - (nI 1))) (.int q2) (.int q3) hF
          · refine zX_go (c := 3) (pc' := if q2 = (-1) then 156 else 135) (lv' := [.ref 6, .int u1, .int u2, .int y3, .int ((t 23 0) - (nI 1)), .int q2, .int q3]) (st' := []) (h' := zHp s (zup t 26 ((t 23 0) - (nI 1)).toNatClampNeg ((t 26 ((t 23 0) - (nI 1)).toNatClampNeg) + (nI 1)))) rfl ?_
            refine zX_ite hF (fun c0 hF => ?_) (fun c0 hF => ?_)
            · refine zX_go (c := 4) (pc' := if (nI 0) = 0 then 177 else 162) (lv' := [.ref 6, .int u1, .int u2, .int (nI 0), .int ((t 23 0) - (nI 1)), .int q2, .int q3]) (st' := []) (h' := zHp s (zup t 26 ((t 23 0) - (nI 1)).toNatClampNeg ((t 26 ((t 23 0) - (nI 1)).toNatClampNeg) + (nI 1)))) rfl ?_
              rw [if_pos (show (nI 0) = 0 by decide)]
              refine zX_go (c := 1) (pc' := 18) (lv' := [.ref 6, .int u1, .int u2, .int (nI 0), .int ((t 23 0) - (nI 1)), .int q2, .int q3]) (st' := []) (h' := zHp s (zup t 26 ((t 23 0) - (nI 1)).toNatClampNeg ((t 26 ((t 23 0) - (nI 1)).toNatClampNeg) + (nI 1)))) rfl ?_
              exact ih (zup t 26 ((t 23 0) - (nI 1)).toNatClampNeg ((t 26 ((t 23 0) - (nI 1)).toNatClampNeg) + (nI 1))) (nI 0) _ u1 u2 (.int ((t 23 0) - (nI 1))) (.int q2) (.int q3) hF
            · refine zX_go (c := 3) (pc' := if q3 = (-1) then 156 else 141) (lv' := [.ref 6, .int u1, .int u2, .int y3, .int ((t 23 0) - (nI 1)), .int q2, .int q3]) (st' := []) (h' := zHp s (zup t 26 ((t 23 0) - (nI 1)).toNatClampNeg ((t 26 ((t 23 0) - (nI 1)).toNatClampNeg) + (nI 1)))) rfl ?_
              refine zX_ite hF (fun c0 hF => ?_) (fun c0 hF => ?_)
              · refine zX_go (c := 4) (pc' := if (nI 0) = 0 then 177 else 162) (lv' := [.ref 6, .int u1, .int u2, .int (nI 0), .int ((t 23 0) - (nI 1)), .int q2, .int q3]) (st' := []) (h' := zHp s (zup t 26 ((t 23 0) - (nI 1)).toNatClampNeg ((t 26 ((t 23 0) - (nI 1)).toNatClampNeg) + (nI 1)))) rfl ?_
                rw [if_pos (show (nI 0) = 0 by decide)]
                refine zX_go (c := 1) (pc' := 18) (lv' := [.ref 6, .int u1, .int u2, .int (nI 0), .int ((t 23 0) - (nI 1)), .int q2, .int q3]) (st' := []) (h' := zHp s (zup t 26 ((t 23 0) - (nI 1)).toNatClampNeg ((t 26 ((t 23 0) - (nI 1)).toNatClampNeg) + (nI 1)))) rfl ?_
                exact ih (zup t 26 ((t 23 0) - (nI 1)).toNatClampNeg ((t 26 ((t 23 0) - (nI 1)).toNatClampNeg) + (nI 1))) (nI 0) _ u1 u2 (.int ((t 23 0) - (nI 1))) (.int q2) (.int q3) hF
              · refine zX_go (c := 3) (pc' := 146) (lv' := [.ref 6, .int u1, .int u2, .int y3, .int ((t 23 0) - (nI 1)), .int q2, .int q3]) (st' := [.int q3, .int q2, .ref 6]) (h' := zHp s (zup t 26 ((t 23 0) - (nI 1)).toNatClampNeg ((t 26 ((t 23 0) - (nI 1)).toNatClampNeg) + (nI 1)))) rfl ?_
                obtain ⟨q5, hq, hF⟩ := zbd_ok hF
                refine zX_inv (av := [.ref 6, .int q2, .int q3]) (st := []) (h' := zHp s (zup t 26 ((t 23 0) - (nI 1)).toNatClampNeg ((t 26 ((t 23 0) - (nI 1)).toNatClampNeg) + (nI 1)))) rfl rfl rfl rfl rfl rfl (zcall_le (t_X6_isLike M _ _ _ _ _ hq) (by decide)) ?_
                refine zX_go (c := 1) (pc' := if q5 = 0 then 156 else 152) (lv' := [.ref 6, .int u1, .int u2, .int y3, .int ((t 23 0) - (nI 1)), .int q2, .int q3]) (st' := []) (h' := zHp s (zup t 26 ((t 23 0) - (nI 1)).toNatClampNeg ((t 26 ((t 23 0) - (nI 1)).toNatClampNeg) + (nI 1)))) rfl ?_
                refine zX_ite hF (fun c0 hF => ?_) (fun c0 hF => ?_)
                · refine zX_go (c := 4) (pc' := if (nI 0) = 0 then 177 else 162) (lv' := [.ref 6, .int u1, .int u2, .int (nI 0), .int ((t 23 0) - (nI 1)), .int q2, .int q3]) (st' := []) (h' := zHp s (zup t 26 ((t 23 0) - (nI 1)).toNatClampNeg ((t 26 ((t 23 0) - (nI 1)).toNatClampNeg) + (nI 1)))) rfl ?_
                  rw [if_pos (show (nI 0) = 0 by decide)]
                  refine zX_go (c := 1) (pc' := 18) (lv' := [.ref 6, .int u1, .int u2, .int (nI 0), .int ((t 23 0) - (nI 1)), .int q2, .int q3]) (st' := []) (h' := zHp s (zup t 26 ((t 23 0) - (nI 1)).toNatClampNeg ((t 26 ((t 23 0) - (nI 1)).toNatClampNeg) + (nI 1)))) rfl ?_
                  exact ih (zup t 26 ((t 23 0) - (nI 1)).toNatClampNeg ((t 26 ((t 23 0) - (nI 1)).toNatClampNeg) + (nI 1))) (nI 0) _ u1 u2 (.int ((t 23 0) - (nI 1))) (.int q2) (.int q3) hF
                · refine zX_go (c := 5) (pc' := if (nI 1) = 0 then 177 else 162) (lv' := [.ref 6, .int u1, .int u2, .int (nI 1), .int ((t 23 0) - (nI 1)), .int q2, .int q3]) (st' := []) (h' := zHp s (zup t 26 ((t 23 0) - (nI 1)).toNatClampNeg ((t 26 ((t 23 0) - (nI 1)).toNatClampNeg) + (nI 1)))) rfl ?_
                  rw [if_neg (show ¬ ((nI 1) = 0) by decide)]
                  refine zX_go (c := 3) (pc' := if q2 = q3 then 177 else 169) (lv' := [.ref 6, .int u1, .int u2, .int (nI 1), .int ((t 23 0) - (nI 1)), .int q2, .int q3]) (st' := []) (h' := zHp s (zup t 26 ((t 23 0) - (nI 1)).toNatClampNeg ((t 26 ((t 23 0) - (nI 1)).toNatClampNeg) + (nI 1)))) rfl ?_
                  refine zX_ite hF (fun c0 hF => ?_) (fun c0 hF => ?_)
                  · refine zX_go (c := 1) (pc' := 18) (lv' := [.ref 6, .int u1, .int u2, .int (nI 1), .int ((t 23 0) - (nI 1)), .int q2, .int q3]) (st' := []) (h' := zHp s (zup t 26 ((t 23 0) - (nI 1)).toNatClampNeg ((t 26 ((t 23 0) - (nI 1)).toNatClampNeg) + (nI 1)))) rfl ?_
                    exact ih (zup t 26 ((t 23 0) - (nI 1)).toNatClampNeg ((t 26 ((t 23 0) - (nI 1)).toNatClampNeg) + (nI 1))) (nI 1) _ u1 u2 (.int ((t 23 0) - (nI 1))) (.int q2) (.int q3) hF
                  · refine zX_go (c := 3) (pc' := 174) (lv' := [.ref 6, .int u1, .int u2, .int (nI 1), .int ((t 23 0) - (nI 1)), .int q2, .int q3]) (st' := [.int q3, .int q2, .ref 6]) (h' := zHp s (zup t 26 ((t 23 0) - (nI 1)).toNatClampNeg ((t 26 ((t 23 0) - (nI 1)).toNatClampNeg) + (nI 1)))) rfl ?_
                    obtain ⟨q6, hq, hF⟩ := zbd_ok hF
                    refine zX_inv (av := [.ref 6, .int q2, .int q3]) (st := []) (h' := zHp s q6) rfl rfl rfl rfl rfl rfl (zcall_le (t_X6_pile M _ _ _ _ _ hq) (by decide)) ?_
                    refine zX_go (c := 1) (pc' := 18) (lv' := [.ref 6, .int u1, .int u2, .int (nI 1), .int ((t 23 0) - (nI 1)), .int q2, .int q3]) (st' := []) (h' := zHp s q6) rfl ?_
                    exact ih q6 (nI 1) _ u1 u2 (.int ((t 23 0) - (nI 1))) (.int q2) (.int q3) hF
      · refine zX_go (c := 1) (pc' := 181) (lv' := [.ref 6, .int u1, .int u2, .int y3, u4, u5, u6]) (st' := [.int y3]) (h' := zHp s t) rfl ?_
        obtain ⟨hb, hF⟩ := zq_ok hF
        obtain rfl := Option.some.inj hF
        exact zX_retz rfl (by simpa using hb)
def f_X6_areEqual (M : Nat) (t : zS) (x1 x2 : Int32) : Option (Int32 × zS) :=
  zbd (f_X6_isLike M t x1 x2) (fun q1 =>
   zbd (f_X6_pile M (zup t 23 0 (nI 0)) x1 x2) (fun q2 =>
    l_X6_areEqual M M q2 q1))
set_option maxRecDepth 100000 in
set_option maxHeartbeats 4000000 in
theorem t_X6_areEqual {L : Nat} {xs : Nat → Int32} (M : Nat) (s t : zS) (x1 x2 : Int32) (R : Int32 × zS) (hF : f_X6_areEqual M t x1 x2 = some R) : zcall (ztb L xs) 2 122 [.ref 6, .int x1, .int x2] (zHp s t) = some (some (.int R.1), zHp s R.2) := by
  unfold f_X6_areEqual at hF
  refine zcall_X (d := 1) (e := zm_X6_areEqual) rfl rfl ?_
  show zX (ztb L xs) (zcall (ztb L xs) 1) 6 2 zk_X6_areEqual 0 [.ref 6, .int x1, .int x2, .retAddr 0, .retAddr 0, .retAddr 0, .retAddr 0] [] (zHp s t) _
  refine zX_go (c := 3) (pc' := 3) (lv' := [.ref 6, .int x1, .int x2, .retAddr 0, .retAddr 0, .retAddr 0, .retAddr 0]) (st' := [.int x2, .int x1, .ref 6]) (h' := zHp s t) rfl ?_
  obtain ⟨q1, hq, hF⟩ := zbd_ok hF
  refine zX_inv (av := [.ref 6, .int x1, .int x2]) (st := []) (h' := zHp s t) rfl rfl rfl rfl rfl rfl (zcall_le (t_X6_isLike M _ _ _ _ _ hq) (by decide)) ?_
  refine zX_go (c := 3) (pc' := 9) (lv' := [.ref 6, .int x1, .int x2, .int q1, .retAddr 0, .retAddr 0, .retAddr 0]) (st' := [.int (nI 0), .ref 6]) (h' := zHp s t) rfl ?_
  refine zX_pfi (h' := zHp s (zup t 23 0 (nI 0))) rfl rfl rfl rfl (zst_6_23 _ _ _) ?_
  refine zX_go (c := 3) (pc' := 15) (lv' := [.ref 6, .int x1, .int x2, .int q1, .retAddr 0, .retAddr 0, .retAddr 0]) (st' := [.int x2, .int x1, .ref 6]) (h' := zHp s (zup t 23 0 (nI 0))) rfl ?_
  obtain ⟨q2, hq, hF⟩ := zbd_ok hF
  refine zX_inv (av := [.ref 6, .int x1, .int x2]) (st := []) (h' := zHp s q2) rfl rfl rfl rfl rfl rfl (zcall_le (t_X6_pile M _ _ _ _ _ hq) (by decide)) ?_
  exact tl_X6_areEqual M s M q2 q1 _ x1 x2 (.retAddr 0) (.retAddr 0) (.retAddr 0) hF
def f_X6_equal (M : Nat) (t : zS) (x1 x2 : Int32) : Option (Int32 × zS) :=
  zbd (f_X6_isValue M t x1) (fun q1 =>
   if q1 = 0 then
    some ((-2), t)
   else
    zbd (f_X6_isValue M t x2) (fun q2 =>
     if q2 = 0 then
      some ((-2), t)
     else
      zbd (f_X6_areEqual M t x1 x2) (fun q3 =>
       if q3.1 = 0 then
        some (nI 0, q3.2)
       else
        some (nI 1, q3.2))))
set_option maxRecDepth 100000 in
set_option maxHeartbeats 4000000 in
theorem t_X6_equal {L : Nat} {xs : Nat → Int32} (M : Nat) (s t : zS) (x1 x2 : Int32) (R : Int32 × zS) (hF : f_X6_equal M t x1 x2 = some R) : zcall (ztb L xs) 3 123 [.ref 6, .int x1, .int x2] (zHp s t) = some (some (.int R.1), zHp s R.2) := by
  unfold f_X6_equal at hF
  refine zcall_X (d := 2) (e := zm_X6_equal) rfl rfl ?_
  show zX (ztb L xs) (zcall (ztb L xs) 2) 6 1 zk_X6_equal 0 [.ref 6, .int x1, .int x2] [] (zHp s t) _
  refine zX_go (c := 2) (pc' := 2) (lv' := [.ref 6, .int x1, .int x2]) (st' := [.int x1, .ref 6]) (h' := zHp s t) rfl ?_
  obtain ⟨q1, hq, hF⟩ := zbd_ok hF
  refine zX_inv (av := [.ref 6, .int x1]) (st := []) (h' := zHp s t) rfl rfl rfl rfl rfl rfl (zcall_le (t_X6_isValue M _ _ _ _ hq) (by decide)) ?_
  refine zX_go (c := 1) (pc' := if q1 = 0 then 16 else 8) (lv' := [.ref 6, .int x1, .int x2]) (st' := []) (h' := zHp s t) rfl ?_
  refine zX_ite hF (fun c0 hF => ?_) (fun c0 hF => ?_)
  · refine zX_go (c := 2) (pc' := 35) (lv' := [.ref 6, .int x1, .int x2]) (st' := [.int (-2)]) (h' := zHp s t) rfl ?_
    obtain rfl := Option.some.inj hF
    exact zX_reti rfl
  · refine zX_go (c := 2) (pc' := 10) (lv' := [.ref 6, .int x1, .int x2]) (st' := [.int x2, .ref 6]) (h' := zHp s t) rfl ?_
    obtain ⟨q2, hq, hF⟩ := zbd_ok hF
    refine zX_inv (av := [.ref 6, .int x2]) (st := []) (h' := zHp s t) rfl rfl rfl rfl rfl rfl (zcall_le (t_X6_isValue M _ _ _ _ hq) (by decide)) ?_
    refine zX_go (c := 1) (pc' := if q2 = 0 then 16 else 21) (lv' := [.ref 6, .int x1, .int x2]) (st' := []) (h' := zHp s t) rfl ?_
    refine zX_ite hF (fun c0 hF => ?_) (fun c0 hF => ?_)
    · refine zX_go (c := 2) (pc' := 35) (lv' := [.ref 6, .int x1, .int x2]) (st' := [.int (-2)]) (h' := zHp s t) rfl ?_
      obtain rfl := Option.some.inj hF
      exact zX_reti rfl
    · refine zX_go (c := 3) (pc' := 24) (lv' := [.ref 6, .int x1, .int x2]) (st' := [.int x2, .int x1, .ref 6]) (h' := zHp s t) rfl ?_
      obtain ⟨q3, hq, hF⟩ := zbd_ok hF
      refine zX_inv (av := [.ref 6, .int x1, .int x2]) (st := []) (h' := zHp s q3.2) rfl rfl rfl rfl rfl rfl (zcall_le (t_X6_areEqual M _ _ _ _ _ hq) (by decide)) ?_
      refine zX_go (c := 1) (pc' := if q3.1 = 0 then 34 else 30) (lv' := [.ref 6, .int x1, .int x2]) (st' := []) (h' := zHp s q3.2) rfl ?_
      refine zX_ite hF (fun c0 hF => ?_) (fun c0 hF => ?_)
      · refine zX_go (c := 1) (pc' := 35) (lv' := [.ref 6, .int x1, .int x2]) (st' := [.int (nI 0)]) (h' := zHp s q3.2) rfl ?_
        obtain rfl := Option.some.inj hF
        exact zX_reti rfl
      · refine zX_go (c := 2) (pc' := 35) (lv' := [.ref 6, .int x1, .int x2]) (st' := [.int (nI 1)]) (h' := zHp s q3.2) rfl ?_
        obtain rfl := Option.some.inj hF
        exact zX_reti rfl
def f_X6_told (M : Nat) (t : zS) (x1 x2 : Int32) : Option (Int32 × zS) :=
  zbd (f_X6_isValue M t x1) (fun q1 =>
   if q1 = 0 then
    some ((-2), t)
   else
    if x2 = (nI 0) then
     zq (zin x1 100) <|
     some (t 16 x1.toNatClampNeg, t)
    else
     if x2 = (nI 1) then
      zq (zin x1 100) <|
      if (t 16 x1.toNatClampNeg) = (nI 2) then
       zq (zin x1 100) <|
       some ((nI 10) + (t 17 x1.toNatClampNeg), t)
      else
       zq (zin x1 100) <|
       some (t 17 x1.toNatClampNeg, t)
     else
      if x2 = (nI 2) then
       zq (zin x1 100) <|
       some (t 18 x1.toNatClampNeg, t)
      else
       if x2 = (nI 3) then
        zq (zin x1 100) <|
        if (t 19 x1.toNatClampNeg) = 0 then
         some (nI 0, t)
        else
         some (nI 1, t)
       else
        if x2 = (nI 4) then
         zbd (f_X6_isWhole M t x1) (fun q2 =>
          if q2.1 = 0 then
           some (nI 0, q2.2)
          else
           some (nI 1, q2.2))
        else
         some ((-2), t))
set_option maxRecDepth 100000 in
set_option maxHeartbeats 4000000 in
theorem t_X6_told {L : Nat} {xs : Nat → Int32} (M : Nat) (s t : zS) (x1 x2 : Int32) (R : Int32 × zS) (hF : f_X6_told M t x1 x2 = some R) : zcall (ztb L xs) 3 124 [.ref 6, .int x1, .int x2] (zHp s t) = some (some (.int R.1), zHp s R.2) := by
  unfold f_X6_told at hF
  refine zcall_X (d := 2) (e := zm_X6_told) rfl rfl ?_
  show zX (ztb L xs) (zcall (ztb L xs) 2) 6 1 zk_X6_told 0 [.ref 6, .int x1, .int x2] [] (zHp s t) _
  refine zX_go (c := 2) (pc' := 2) (lv' := [.ref 6, .int x1, .int x2]) (st' := [.int x1, .ref 6]) (h' := zHp s t) rfl ?_
  obtain ⟨q1, hq, hF⟩ := zbd_ok hF
  refine zX_inv (av := [.ref 6, .int x1]) (st := []) (h' := zHp s t) rfl rfl rfl rfl rfl rfl (zcall_le (t_X6_isValue M _ _ _ _ hq) (by decide)) ?_
  refine zX_go (c := 1) (pc' := if q1 = 0 then 8 else 11) (lv' := [.ref 6, .int x1, .int x2]) (st' := []) (h' := zHp s t) rfl ?_
  refine zX_ite hF (fun c0 hF => ?_) (fun c0 hF => ?_)
  · refine zX_go (c := 1) (pc' := 10) (lv' := [.ref 6, .int x1, .int x2]) (st' := [.int (-2)]) (h' := zHp s t) rfl ?_
    obtain rfl := Option.some.inj hF
    exact zX_reti rfl
  · refine zX_go (c := 2) (pc' := if x2 = (nI 0) then 48 else if x2 = (nI 1) then 55 else if x2 = (nI 2) then 84 else if x2 = (nI 3) then 91 else if x2 = (nI 4) then 106 else 120) (lv' := [.ref 6, .int x1, .int x2]) (st' := []) (h' := zHp s t) rfl ?_
    refine zX_ite hF (fun c0 hF => ?_) (fun c0 hF => ?_)
    · refine zX_go (c := 3) (pc' := 53) (lv' := [.ref 6, .int x1, .int x2]) (st' := [.int x1, .ref 46]) (h' := zHp s t) rfl ?_
      refine zX_ial (n := 100) rfl rfl hF (fun hF => ?_)
      obtain rfl := Option.some.inj hF
      exact zX_reti rfl
    · refine zX_ite hF (fun c0 hF => ?_) (fun c0 hF => ?_)
      · refine zX_go (c := 3) (pc' := 60) (lv' := [.ref 6, .int x1, .int x2]) (st' := [.int x1, .ref 46]) (h' := zHp s t) rfl ?_
        refine zX_ial (n := 100) rfl rfl hF (fun hF => ?_)
        refine zX_go (c := 2) (pc' := if (t 16 x1.toNatClampNeg) = (nI 2) then 65 else 77) (lv' := [.ref 6, .int x1, .int x2]) (st' := []) (h' := zHp s t) rfl ?_
        refine zX_ite hF (fun c0 hF => ?_) (fun c0 hF => ?_)
        · refine zX_go (c := 4) (pc' := 72) (lv' := [.ref 6, .int x1, .int x2]) (st' := [.int x1, .ref 47, .int (nI 10)]) (h' := zHp s t) rfl ?_
          refine zX_ial (n := 100) rfl rfl hF (fun hF => ?_)
          refine zX_go (c := 2) (pc' := 83) (lv' := [.ref 6, .int x1, .int x2]) (st' := [.int ((nI 10) + (t 17 x1.toNatClampNeg))]) (h' := zHp s t) rfl ?_
          obtain rfl := Option.some.inj hF
          exact zX_reti rfl
        · refine zX_go (c := 3) (pc' := 82) (lv' := [.ref 6, .int x1, .int x2]) (st' := [.int x1, .ref 47]) (h' := zHp s t) rfl ?_
          refine zX_ial (n := 100) rfl rfl hF (fun hF => ?_)
          obtain rfl := Option.some.inj hF
          exact zX_reti rfl
      · refine zX_ite hF (fun c0 hF => ?_) (fun c0 hF => ?_)
        · refine zX_go (c := 3) (pc' := 89) (lv' := [.ref 6, .int x1, .int x2]) (st' := [.int x1, .ref 48]) (h' := zHp s t) rfl ?_
          refine zX_ial (n := 100) rfl rfl hF (fun hF => ?_)
          obtain rfl := Option.some.inj hF
          exact zX_reti rfl
        · refine zX_ite hF (fun c0 hF => ?_) (fun c0 hF => ?_)
          · refine zX_go (c := 3) (pc' := 96) (lv' := [.ref 6, .int x1, .int x2]) (st' := [.int x1, .ref 49]) (h' := zHp s t) rfl ?_
            refine zX_bal (n := 100) rfl rfl hF (fun hF => ?_)
            refine zX_go (c := 1) (pc' := if (t 19 x1.toNatClampNeg) = 0 then 104 else 100) (lv' := [.ref 6, .int x1, .int x2]) (st' := []) (h' := zHp s t) rfl ?_
            refine zX_ite hF (fun c0 hF => ?_) (fun c0 hF => ?_)
            · refine zX_go (c := 1) (pc' := 105) (lv' := [.ref 6, .int x1, .int x2]) (st' := [.int (nI 0)]) (h' := zHp s t) rfl ?_
              obtain rfl := Option.some.inj hF
              exact zX_reti rfl
            · refine zX_go (c := 2) (pc' := 105) (lv' := [.ref 6, .int x1, .int x2]) (st' := [.int (nI 1)]) (h' := zHp s t) rfl ?_
              obtain rfl := Option.some.inj hF
              exact zX_reti rfl
          · refine zX_ite hF (fun c0 hF => ?_) (fun c0 hF => ?_)
            · refine zX_go (c := 2) (pc' := 108) (lv' := [.ref 6, .int x1, .int x2]) (st' := [.int x1, .ref 6]) (h' := zHp s t) rfl ?_
              obtain ⟨q2, hq, hF⟩ := zbd_ok hF
              refine zX_inv (av := [.ref 6, .int x1]) (st := []) (h' := zHp s q2.2) rfl rfl rfl rfl rfl rfl (zcall_le (t_X6_isWhole M _ _ _ _ hq) (by decide)) ?_
              refine zX_go (c := 1) (pc' := if q2.1 = 0 then 118 else 114) (lv' := [.ref 6, .int x1, .int x2]) (st' := []) (h' := zHp s q2.2) rfl ?_
              refine zX_ite hF (fun c0 hF => ?_) (fun c0 hF => ?_)
              · refine zX_go (c := 1) (pc' := 119) (lv' := [.ref 6, .int x1, .int x2]) (st' := [.int (nI 0)]) (h' := zHp s q2.2) rfl ?_
                obtain rfl := Option.some.inj hF
                exact zX_reti rfl
              · refine zX_go (c := 2) (pc' := 119) (lv' := [.ref 6, .int x1, .int x2]) (st' := [.int (nI 1)]) (h' := zHp s q2.2) rfl ?_
                obtain rfl := Option.some.inj hF
                exact zX_reti rfl
            · refine zX_go (c := 1) (pc' := 122) (lv' := [.ref 6, .int x1, .int x2]) (st' := [.int (-2)]) (h' := zHp s t) rfl ?_
              obtain rfl := Option.some.inj hF
              exact zX_reti rfl
def f_X6_part (M : Nat) (t : zS) (x1 x2 : Int32) : Option (Int32) :=
  zbd (f_X6_isValue M t x1) (fun q1 =>
   if q1 = 0 then
    some (-2)
   else
    zq (zin x1 100) <|
    if (t 16 x1.toNatClampNeg) = 0 then
     some (-2)
    else
     zq (zin x1 100) <|
     if (t 16 x1.toNatClampNeg) = (nI 1) then
      if x2 < 0 then
       some (-1)
      else
       zq (zin x1 100) <|
       if x2 < (t 18 x1.toNatClampNeg) then
        zq (zin (((nI 5) * x1) + x2) 500) <|
        some (t 20 (((nI 5) * x1) + x2).toNatClampNeg)
       else
        some (-1)
     else
      zq (zin x1 100) <|
      zbd (f_X6_elementOf M t (t 17 x1.toNatClampNeg) x2) (fun q2 =>
       if q2 = (-1) then
        some (-1)
       else
        zq (zin x1 100) <|
        zbd (f_X6_inner M t x1 (q2 - ((nI 5) * (t 17 x1.toNatClampNeg)))) (fun q3 =>
         some q3)))
set_option maxRecDepth 100000 in
set_option maxHeartbeats 4000000 in
theorem t_X6_part {L : Nat} {xs : Nat → Int32} (M : Nat) (s t : zS) (x1 x2 : Int32) (R : Int32) (hF : f_X6_part M t x1 x2 = some R) : zcall (ztb L xs) 2 125 [.ref 6, .int x1, .int x2] (zHp s t) = some (some (.int R), zHp s t) := by
  unfold f_X6_part at hF
  refine zcall_X (d := 1) (e := zm_X6_part) rfl rfl ?_
  show zX (ztb L xs) (zcall (ztb L xs) 1) 6 1 zk_X6_part 0 [.ref 6, .int x1, .int x2, .retAddr 0] [] (zHp s t) _
  refine zX_go (c := 2) (pc' := 2) (lv' := [.ref 6, .int x1, .int x2, .retAddr 0]) (st' := [.int x1, .ref 6]) (h' := zHp s t) rfl ?_
  obtain ⟨q1, hq, hF⟩ := zbd_ok hF
  refine zX_inv (av := [.ref 6, .int x1]) (st := []) (h' := zHp s t) rfl rfl rfl rfl rfl rfl (zcall_le (t_X6_isValue M _ _ _ _ hq) (by decide)) ?_
  refine zX_go (c := 1) (pc' := if q1 = 0 then 17 else 8) (lv' := [.ref 6, .int x1, .int x2, .retAddr 0]) (st' := []) (h' := zHp s t) rfl ?_
  refine zX_ite hF (fun c0 hF => ?_) (fun c0 hF => ?_)
  · refine zX_go (c := 1) (pc' := 19) (lv' := [.ref 6, .int x1, .int x2, .retAddr 0]) (st' := [.int (-2)]) (h' := zHp s t) rfl ?_
    obtain rfl := Option.some.inj hF
    exact zX_reti rfl
  · refine zX_go (c := 3) (pc' := 13) (lv' := [.ref 6, .int x1, .int x2, .retAddr 0]) (st' := [.int x1, .ref 46]) (h' := zHp s t) rfl ?_
    refine zX_ial (n := 100) rfl rfl hF (fun hF => ?_)
    refine zX_go (c := 1) (pc' := if (t 16 x1.toNatClampNeg) = 0 then 17 else 20) (lv' := [.ref 6, .int x1, .int x2, .retAddr 0]) (st' := []) (h' := zHp s t) rfl ?_
    refine zX_ite hF (fun c0 hF => ?_) (fun c0 hF => ?_)
    · refine zX_go (c := 1) (pc' := 19) (lv' := [.ref 6, .int x1, .int x2, .retAddr 0]) (st' := [.int (-2)]) (h' := zHp s t) rfl ?_
      obtain rfl := Option.some.inj hF
      exact zX_reti rfl
    · refine zX_go (c := 3) (pc' := 25) (lv' := [.ref 6, .int x1, .int x2, .retAddr 0]) (st' := [.int x1, .ref 46]) (h' := zHp s t) rfl ?_
      refine zX_ial (n := 100) rfl rfl hF (fun hF => ?_)
      refine zX_go (c := 2) (pc' := if (t 16 x1.toNatClampNeg) = (nI 1) then 30 else 59) (lv' := [.ref 6, .int x1, .int x2, .retAddr 0]) (st' := []) (h' := zHp s t) rfl ?_
      refine zX_ite hF (fun c0 hF => ?_) (fun c0 hF => ?_)
      · refine zX_go (c := 2) (pc' := if x2 < 0 then 57 else 34) (lv' := [.ref 6, .int x1, .int x2, .retAddr 0]) (st' := []) (h' := zHp s t) rfl ?_
        refine zX_ite hF (fun c0 hF => ?_) (fun c0 hF => ?_)
        · refine zX_go (c := 1) (pc' := 58) (lv' := [.ref 6, .int x1, .int x2, .retAddr 0]) (st' := [.int (-1)]) (h' := zHp s t) rfl ?_
          obtain rfl := Option.some.inj hF
          exact zX_reti rfl
        · refine zX_go (c := 4) (pc' := 40) (lv' := [.ref 6, .int x1, .int x2, .retAddr 0]) (st' := [.int x1, .ref 48, .int x2]) (h' := zHp s t) rfl ?_
          refine zX_ial (n := 100) rfl rfl hF (fun hF => ?_)
          refine zX_go (c := 1) (pc' := if x2 < (t 18 x1.toNatClampNeg) then 44 else 57) (lv' := [.ref 6, .int x1, .int x2, .retAddr 0]) (st' := []) (h' := zHp s t) rfl ?_
          refine zX_ite hF (fun c0 hF => ?_) (fun c0 hF => ?_)
          · refine zX_go (c := 7) (pc' := 53) (lv' := [.ref 6, .int x1, .int x2, .retAddr 0]) (st' := [.int (((nI 5) * x1) + x2), .ref 50]) (h' := zHp s t) rfl ?_
            refine zX_ial (n := 500) rfl rfl hF (fun hF => ?_)
            refine zX_go (c := 1) (pc' := 58) (lv' := [.ref 6, .int x1, .int x2, .retAddr 0]) (st' := [.int (t 20 (((nI 5) * x1) + x2).toNatClampNeg)]) (h' := zHp s t) rfl ?_
            obtain rfl := Option.some.inj hF
            exact zX_reti rfl
          · refine zX_go (c := 1) (pc' := 58) (lv' := [.ref 6, .int x1, .int x2, .retAddr 0]) (st' := [.int (-1)]) (h' := zHp s t) rfl ?_
            obtain rfl := Option.some.inj hF
            exact zX_reti rfl
      · refine zX_go (c := 4) (pc' := 65) (lv' := [.ref 6, .int x1, .int x2, .retAddr 0]) (st' := [.int x1, .ref 47, .ref 6]) (h' := zHp s t) rfl ?_
        refine zX_ial (n := 100) rfl rfl hF (fun hF => ?_)
        refine zX_go (c := 1) (pc' := 67) (lv' := [.ref 6, .int x1, .int x2, .retAddr 0]) (st' := [.int x2, .int (t 17 x1.toNatClampNeg), .ref 6]) (h' := zHp s t) rfl ?_
        obtain ⟨q2, hq, hF⟩ := zbd_ok hF
        refine zX_inv (av := [.ref 6, .int (t 17 x1.toNatClampNeg), .int x2]) (st := []) (h' := zHp s t) rfl rfl rfl rfl rfl rfl (zcall_le (t_X6_elementOf M _ _ _ _ _ hq) (by decide)) ?_
        refine zX_go (c := 4) (pc' := if q2 = (-1) then 76 else 80) (lv' := [.ref 6, .int x1, .int x2, .int q2]) (st' := []) (h' := zHp s t) rfl ?_
        refine zX_ite hF (fun c0 hF => ?_) (fun c0 hF => ?_)
        · refine zX_go (c := 2) (pc' := 95) (lv' := [.ref 6, .int x1, .int x2, .int q2]) (st' := [.int (-1)]) (h' := zHp s t) rfl ?_
          obtain rfl := Option.some.inj hF
          exact zX_reti rfl
        · refine zX_go (c := 7) (pc' := 89) (lv' := [.ref 6, .int x1, .int x2, .int q2]) (st' := [.int x1, .ref 47, .int (nI 5), .int q2, .int x1, .ref 6]) (h' := zHp s t) rfl ?_
          refine zX_ial (n := 100) rfl rfl hF (fun hF => ?_)
          refine zX_go (c := 2) (pc' := 92) (lv' := [.ref 6, .int x1, .int x2, .int q2]) (st' := [.int (q2 - ((nI 5) * (t 17 x1.toNatClampNeg))), .int x1, .ref 6]) (h' := zHp s t) rfl ?_
          obtain ⟨q3, hq, hF⟩ := zbd_ok hF
          refine zX_inv (av := [.ref 6, .int x1, .int (q2 - ((nI 5) * (t 17 x1.toNatClampNeg)))]) (st := []) (h' := zHp s t) rfl rfl rfl rfl rfl rfl (zcall_le (t_X6_inner M _ _ _ _ _ hq) (by decide)) ?_
          obtain rfl := Option.some.inj hF
          exact zX_reti rfl
def f_X6_write (M : Nat) (t : zS) (x1 : Int32) : Option (zS) :=
  if (t 29 0) < (nI 2000) then
   zq (zin (t 29 0) 2000) <|
   some (zup (zup t 30 (t 29 0).toNatClampNeg x1) 29 0 ((t 29 0) + (nI 1)))
  else
   some (zup t 29 0 ((t 29 0) + (nI 1)))
set_option maxRecDepth 100000 in
set_option maxHeartbeats 4000000 in
theorem t_X6_write {L : Nat} {xs : Nat → Int32} (M : Nat) (s t : zS) (x1 : Int32) (R : zS) (hF : f_X6_write M t x1 = some R) : zcall (ztb L xs) 1 126 [.ref 6, .int x1] (zHp s t) = some (none, zHp s R) := by
  unfold f_X6_write at hF
  refine zcall_X (d := 0) (e := zm_X6_write) rfl rfl ?_
  show zX (ztb L xs) (zcall (ztb L xs) 0) 6 0 zk_X6_write 0 [.ref 6, .int x1] [] (zHp s t) _
  refine zX_go (c := 4) (pc' := if (t 29 0) < (nI 2000) then 10 else 20) (lv' := [.ref 6, .int x1]) (st' := []) (h' := zHp s t) rfl ?_
  refine zX_ite hF (fun c0 hF => ?_) (fun c0 hF => ?_)
  · refine zX_go (c := 5) (pc' := 19) (lv' := [.ref 6, .int x1]) (st' := [.int x1, .int (t 29 0), .ref 56]) (h' := zHp s t) rfl ?_
    refine zX_ias (n := 2000) (h' := zHp s (zup t 30 (t 29 0).toNatClampNeg x1)) rfl rfl (zst_56 _ _ _ _) hF (fun hF => ?_)
    refine zX_go (c := 5) (pc' := 27) (lv' := [.ref 6, .int x1]) (st' := [.int ((t 29 0) + (nI 1)), .ref 6]) (h' := zHp s (zup t 30 (t 29 0).toNatClampNeg x1)) rfl ?_
    refine zX_pfi (h' := zHp s (zup (zup t 30 (t 29 0).toNatClampNeg x1) 29 0 ((t 29 0) + (nI 1)))) rfl rfl rfl rfl (zst_6_29 _ _ _) ?_
    obtain rfl := Option.some.inj hF
    exact zX_retv rfl
  · refine zX_go (c := 5) (pc' := 27) (lv' := [.ref 6, .int x1]) (st' := [.int ((t 29 0) + (nI 1)), .ref 6]) (h' := zHp s t) rfl ?_
    refine zX_pfi (h' := zHp s (zup t 29 0 ((t 29 0) + (nI 1)))) rfl rfl rfl rfl (zst_6_29 _ _ _) ?_
    obtain rfl := Option.some.inj hF
    exact zX_retv rfl
def l_X6_writeNumber (M : Nat) : Nat → Nat → zS → Int64 → Int32 → Int32 → Option (zS)
  | 0, _, _, _, _, _ => none
  | N + 1, hd, t, y2, y4, y5 => match hd with
    | 0 =>
      zq (!((10 : Int64) == 0)) <|
      zq (zin y4 10) <|
      zq (!((10 : Int64) == 0)) <|
      if 0 < (lg_cmp (y2 / (10 : Int64)) (Int64.ofNat ((0 : Fin 2) : Nat))) then
       l_X6_writeNumber M N 0 (zup t 31 y4.toNatClampNeg ((y2 - y2 / (10 : Int64) * (10 : Int64)).toInt32)) (y2 / (10 : Int64)) (y4 + (nI 1)) 0
      else
       l_X6_writeNumber M N 1 (zup t 31 y4.toNatClampNeg ((y2 - y2 / (10 : Int64) * (10 : Int64)).toInt32)) 0 0 ((y4 + (nI 1)) - (nI 1))
    | 1 =>
      if y5 < 0 then
       some t
      else
       zq (zin y5 10) <|
       zbd (f_X6_write M t ((nI 48) + (t 31 y5.toNatClampNeg))) (fun q1 =>
        l_X6_writeNumber M N 1 q1 0 0 (y5 + (-1)))
    | _ => none
set_option maxRecDepth 100000 in
set_option maxHeartbeats 4000000 in
theorem tl_X6_writeNumber {L : Nat} {xs : Nat → Int32} (M : Nat) (s : zS) : ∀ (N : Nat) (t : zS) (y2 : Int64) (y4 : Int32) (y5 : Int32) (R : zS), (∀ (u1 : Int32) (u3 : Value) (u5 : Value), l_X6_writeNumber M N 0 t y2 y4 y5 = some R → zX (ztb L xs) (zcall (ztb L xs) 1) 6 0 zk_X6_writeNumber 26 [.ref 6, .int u1, .long y2, u3, .int y4, u5] [] (zHp s t) (none, zHp s R)) ∧ (∀ (u1 : Int32) (u2 : Int64) (u3 : Value) (u4 : Int32), l_X6_writeNumber M N 1 t y2 y4 y5 = some R → zX (ztb L xs) (zcall (ztb L xs) 1) 6 0 zk_X6_writeNumber 60 [.ref 6, .int u1, .long u2, u3, .int u4, .int y5] [] (zHp s t) (none, zHp s R)) := by
  intro N
  induction N with
  | zero =>
    intro t y2 y4 y5 R
    exact ⟨(by intros; rename_i hF; cases hF), (by intros; rename_i hF; cases hF)⟩
  | succ N ih =>
    intro t y2 y4 y5 R
    refine ⟨?_, ?_⟩
    · intro u1 u3 u5 hF
      unfold l_X6_writeNumber at hF
      (try dsimp only at hF)
      refine zX_go (c := 5) (pc' := 36) (lv' := [.ref 6, .int u1, .long y2, u3, .int y4, u5]) (st' := [.long (10 : Int64), .long y2, .int y4, .ref 57]) (h' := zHp s t) rfl ?_
      refine zX_lre rfl hF (fun hF => ?_)
      refine zX_go (c := 1) (pc' := 38) (lv' := [.ref 6, .int u1, .long y2, u3, .int y4, u5]) (st' := [.int ((y2 - y2 / (10 : Int64) * (10 : Int64)).toInt32), .int y4, .ref 57]) (h' := zHp s t) rfl ?_
      refine zX_ias (n := 10) (h' := zHp s (zup t 31 y4.toNatClampNeg ((y2 - y2 / (10 : Int64) * (10 : Int64)).toInt32))) rfl rfl (zst_57 _ _ _ _) hF (fun hF => ?_)
      refine zX_go (c := 2) (pc' := 43) (lv' := [.ref 6, .int u1, .long y2, u3, .int y4, u5]) (st' := [.long (10 : Int64), .long y2]) (h' := zHp s (zup t 31 y4.toNatClampNeg ((y2 - y2 / (10 : Int64) * (10 : Int64)).toInt32))) rfl ?_
      refine zX_ldi rfl hF (fun hF => ?_)
      refine zX_go (c := 6) (pc' := if 0 < (lg_cmp (y2 / (10 : Int64)) (Int64.ofNat ((0 : Fin 2) : Nat))) then 26 else 54) (lv' := [.ref 6, .int u1, .long (y2 / (10 : Int64)), .retAddr 0, .int (y4 + (nI 1)), u5]) (st' := []) (h' := zHp s (zup t 31 y4.toNatClampNeg ((y2 - y2 / (10 : Int64) * (10 : Int64)).toInt32))) rfl ?_
      refine zX_ite hF (fun c0 hF => ?_) (fun c0 hF => ?_)
      · exact (ih (zup t 31 y4.toNatClampNeg ((y2 - y2 / (10 : Int64) * (10 : Int64)).toInt32)) (y2 / (10 : Int64)) (y4 + (nI 1)) 0 _).1 u1 (.retAddr 0) u5 hF
      · refine zX_go (c := 4) (pc' := 60) (lv' := [.ref 6, .int u1, .long (y2 / (10 : Int64)), .retAddr 0, .int (y4 + (nI 1)), .int ((y4 + (nI 1)) - (nI 1))]) (st' := []) (h' := zHp s (zup t 31 y4.toNatClampNeg ((y2 - y2 / (10 : Int64) * (10 : Int64)).toInt32))) rfl ?_
        exact (ih (zup t 31 y4.toNatClampNeg ((y2 - y2 / (10 : Int64) * (10 : Int64)).toInt32)) 0 0 ((y4 + (nI 1)) - (nI 1)) _).2 u1 (y2 / (10 : Int64)) (.retAddr 0) (y4 + (nI 1)) hF
    · intro u1 u2 u3 u4 hF
      unfold l_X6_writeNumber at hF
      (try dsimp only at hF)
      refine zX_go (c := 2) (pc' := if y5 < 0 then 85 else 65) (lv' := [.ref 6, .int u1, .long u2, u3, .int u4, .int y5]) (st' := []) (h' := zHp s t) rfl ?_
      refine zX_ite hF (fun c0 hF => ?_) (fun c0 hF => ?_)
      · obtain rfl := Option.some.inj hF
        exact zX_retv rfl
      · refine zX_go (c := 5) (pc' := 74) (lv' := [.ref 6, .int u1, .long u2, u3, .int u4, .int y5]) (st' := [.int y5, .ref 57, .int (nI 48), .ref 6]) (h' := zHp s t) rfl ?_
        refine zX_ial (n := 10) rfl rfl hF (fun hF => ?_)
        refine zX_go (c := 1) (pc' := 76) (lv' := [.ref 6, .int u1, .long u2, u3, .int u4, .int y5]) (st' := [.int ((nI 48) + (t 31 y5.toNatClampNeg)), .ref 6]) (h' := zHp s t) rfl ?_
        obtain ⟨q1, hq, hF⟩ := zbd_ok hF
        refine zX_inv (av := [.ref 6, .int ((nI 48) + (t 31 y5.toNatClampNeg))]) (st := []) (h' := zHp s q1) rfl rfl rfl rfl rfl rfl (zcall_le (t_X6_write M _ _ _ _ hq) (by decide)) ?_
        refine zX_go (c := 2) (pc' := 60) (lv' := [.ref 6, .int u1, .long u2, u3, .int u4, .int (y5 + (-1))]) (st' := []) (h' := zHp s q1) rfl ?_
        exact (ih q1 0 0 (y5 + (-1)) _).2 u1 u2 u3 u4 hF
def f_X6_writeNumber (M : Nat) (t : zS) (x1 : Int32) : Option (zS) :=
  if x1 < 0 then
   zbd (f_X6_write M t (nI 45)) (fun q1 =>
    if x1 < 0 then
     l_X6_writeNumber M M 0 q1 (-x1.toInt64) (nI 0) 0
    else
     l_X6_writeNumber M M 0 q1 x1.toInt64 (nI 0) 0)
  else
   if x1 < 0 then
    l_X6_writeNumber M M 0 t (-x1.toInt64) (nI 0) 0
   else
    l_X6_writeNumber M M 0 t x1.toInt64 (nI 0) 0
set_option maxRecDepth 100000 in
set_option maxHeartbeats 4000000 in
theorem t_X6_writeNumber {L : Nat} {xs : Nat → Int32} (M : Nat) (s t : zS) (x1 : Int32) (R : zS) (hF : f_X6_writeNumber M t x1 = some R) : zcall (ztb L xs) 2 127 [.ref 6, .int x1] (zHp s t) = some (none, zHp s R) := by
  unfold f_X6_writeNumber at hF
  refine zcall_X (d := 1) (e := zm_X6_writeNumber) rfl rfl ?_
  show zX (ztb L xs) (zcall (ztb L xs) 1) 6 0 zk_X6_writeNumber 0 [.ref 6, .int x1, .retAddr 0, .retAddr 0, .retAddr 0, .retAddr 0] [] (zHp s t) _
  refine zX_go (c := 2) (pc' := if x1 < 0 then 4 else 10) (lv' := [.ref 6, .int x1, .retAddr 0, .retAddr 0, .retAddr 0, .retAddr 0]) (st' := []) (h' := zHp s t) rfl ?_
  refine zX_ite hF (fun c0 hF => ?_) (fun c0 hF => ?_)
  · refine zX_go (c := 2) (pc' := 7) (lv' := [.ref 6, .int x1, .retAddr 0, .retAddr 0, .retAddr 0, .retAddr 0]) (st' := [.int (nI 45), .ref 6]) (h' := zHp s t) rfl ?_
    obtain ⟨q1, hq, hF⟩ := zbd_ok hF
    refine zX_inv (av := [.ref 6, .int (nI 45)]) (st := []) (h' := zHp s q1) rfl rfl rfl rfl rfl rfl (zcall_le (t_X6_write M _ _ _ _ hq) (by decide)) ?_
    refine zX_go (c := 2) (pc' := if x1 < 0 then 14 else 20) (lv' := [.ref 6, .int x1, .retAddr 0, .retAddr 0, .retAddr 0, .retAddr 0]) (st' := []) (h' := zHp s q1) rfl ?_
    refine zX_ite hF (fun c0 hF => ?_) (fun c0 hF => ?_)
    · refine zX_go (c := 7) (pc' := 26) (lv' := [.ref 6, .int x1, .long (-x1.toInt64), .retAddr 0, .int (nI 0), .retAddr 0]) (st' := []) (h' := zHp s q1) rfl ?_
      exact (tl_X6_writeNumber M s M q1 (-x1.toInt64) (nI 0) 0 _).1 x1 (.retAddr 0) (.retAddr 0) hF
    · refine zX_go (c := 5) (pc' := 26) (lv' := [.ref 6, .int x1, .long x1.toInt64, .retAddr 0, .int (nI 0), .retAddr 0]) (st' := []) (h' := zHp s q1) rfl ?_
      exact (tl_X6_writeNumber M s M q1 x1.toInt64 (nI 0) 0 _).1 x1 (.retAddr 0) (.retAddr 0) hF
  · refine zX_go (c := 2) (pc' := if x1 < 0 then 14 else 20) (lv' := [.ref 6, .int x1, .retAddr 0, .retAddr 0, .retAddr 0, .retAddr 0]) (st' := []) (h' := zHp s t) rfl ?_
    refine zX_ite hF (fun c0 hF => ?_) (fun c0 hF => ?_)
    · refine zX_go (c := 7) (pc' := 26) (lv' := [.ref 6, .int x1, .long (-x1.toInt64), .retAddr 0, .int (nI 0), .retAddr 0]) (st' := []) (h' := zHp s t) rfl ?_
      exact (tl_X6_writeNumber M s M t (-x1.toInt64) (nI 0) 0 _).1 x1 (.retAddr 0) (.retAddr 0) hF
    · refine zX_go (c := 5) (pc' := 26) (lv' := [.ref 6, .int x1, .long x1.toInt64, .retAddr 0, .int (nI 0), .retAddr 0]) (st' := []) (h' := zHp s t) rfl ?_
      exact (tl_X6_writeNumber M s M t x1.toInt64 (nI 0) 0 _).1 x1 (.retAddr 0) (.retAddr 0) hF
def f_X6_begin (M : Nat) (t : zS) (x1 : Int32) : Option (zS) :=
  zq (zin x1 100) <|
  if (t 16 x1.toNatClampNeg) = (nI 1) then
   zbd (f_X6_write M t (nI 123)) (fun q1 =>
    some q1)
  else
   zq (zin x1 100) <|
   if (t 16 x1.toNatClampNeg) = (nI 2) then
    zbd (f_X6_write M t (nI 64)) (fun q2 =>
     zq (zin x1 100) <|
     zbd (f_X6_writeNumber M q2 (q2 17 x1.toNatClampNeg)) (fun q3 =>
      zbd (f_X6_write M q3 (nI 40)) (fun q4 =>
       some q4)))
   else
    zq (zin x1 100) <|
    if 0 < (t 17 x1.toNatClampNeg) then
     zq (zin x1 100) <|
     if (t 17 x1.toNatClampNeg) = (nI 1) then
      zbd (f_X6_write M t (nI 119)) (fun q5 =>
       zq (zin x1 100) <|
       zbd (f_X6_writeNumber M q5 (q5 18 x1.toNatClampNeg)) (fun q6 =>
        some q6))
     else
      zq (zin x1 100) <|
      if (t 17 x1.toNatClampNeg) = (nI 2) then
       zbd (f_X6_write M t (nI 99)) (fun q7 =>
        zq (zin x1 100) <|
        zbd (f_X6_writeNumber M q7 (q7 18 x1.toNatClampNeg)) (fun q8 =>
         some q8))
      else
       zbd (f_X6_write M t (nI 116)) (fun q9 =>
        zq (zin x1 100) <|
        zbd (f_X6_writeNumber M q9 (q9 18 x1.toNatClampNeg)) (fun q10 =>
         some q10))
    else
     zq (zin x1 100) <|
     zbd (f_X6_writeNumber M t (t 18 x1.toNatClampNeg)) (fun q11 =>
      some q11)
set_option maxRecDepth 100000 in
set_option maxHeartbeats 4000000 in
theorem t_X6_begin {L : Nat} {xs : Nat → Int32} (M : Nat) (s t : zS) (x1 : Int32) (R : zS) (hF : f_X6_begin M t x1 = some R) : zcall (ztb L xs) 3 128 [.ref 6, .int x1] (zHp s t) = some (none, zHp s R) := by
  unfold f_X6_begin at hF
  refine zcall_X (d := 2) (e := zm_X6_begin) rfl rfl ?_
  show zX (ztb L xs) (zcall (ztb L xs) 2) 6 0 zk_X6_begin 0 [.ref 6, .int x1] [] (zHp s t) _
  refine zX_go (c := 3) (pc' := 5) (lv' := [.ref 6, .int x1]) (st' := [.int x1, .ref 46]) (h' := zHp s t) rfl ?_
  refine zX_ial (n := 100) rfl rfl hF (fun hF => ?_)
  refine zX_go (c := 2) (pc' := if (t 16 x1.toNatClampNeg) = (nI 1) then 10 else 19) (lv' := [.ref 6, .int x1]) (st' := []) (h' := zHp s t) rfl ?_
  refine zX_ite hF (fun c0 hF => ?_) (fun c0 hF => ?_)
  · refine zX_go (c := 2) (pc' := 13) (lv' := [.ref 6, .int x1]) (st' := [.int (nI 123), .ref 6]) (h' := zHp s t) rfl ?_
    obtain ⟨q1, hq, hF⟩ := zbd_ok hF
    refine zX_inv (av := [.ref 6, .int (nI 123)]) (st := []) (h' := zHp s q1) rfl rfl rfl rfl rfl rfl (zcall_le (t_X6_write M _ _ _ _ hq) (by decide)) ?_
    refine zX_go (c := 1) (pc' := 109) (lv' := [.ref 6, .int x1]) (st' := []) (h' := zHp s q1) rfl ?_
    obtain rfl := Option.some.inj hF
    exact zX_retv rfl
  · refine zX_go (c := 3) (pc' := 24) (lv' := [.ref 6, .int x1]) (st' := [.int x1, .ref 46]) (h' := zHp s t) rfl ?_
    refine zX_ial (n := 100) rfl rfl hF (fun hF => ?_)
    refine zX_go (c := 2) (pc' := if (t 16 x1.toNatClampNeg) = (nI 2) then 29 else 54) (lv' := [.ref 6, .int x1]) (st' := []) (h' := zHp s t) rfl ?_
    refine zX_ite hF (fun c0 hF => ?_) (fun c0 hF => ?_)
    · refine zX_go (c := 2) (pc' := 32) (lv' := [.ref 6, .int x1]) (st' := [.int (nI 64), .ref 6]) (h' := zHp s t) rfl ?_
      obtain ⟨q2, hq, hF⟩ := zbd_ok hF
      refine zX_inv (av := [.ref 6, .int (nI 64)]) (st := []) (h' := zHp s q2) rfl rfl rfl rfl rfl rfl (zcall_le (t_X6_write M _ _ _ _ hq) (by decide)) ?_
      refine zX_go (c := 4) (pc' := 41) (lv' := [.ref 6, .int x1]) (st' := [.int x1, .ref 47, .ref 6]) (h' := zHp s q2) rfl ?_
      refine zX_ial (n := 100) rfl rfl hF (fun hF => ?_)
      obtain ⟨q3, hq, hF⟩ := zbd_ok hF
      refine zX_inv (av := [.ref 6, .int (q2 17 x1.toNatClampNeg)]) (st := []) (h' := zHp s q3) rfl rfl rfl rfl rfl rfl (zcall_le (t_X6_writeNumber M _ _ _ _ hq) (by decide)) ?_
      refine zX_go (c := 2) (pc' := 48) (lv' := [.ref 6, .int x1]) (st' := [.int (nI 40), .ref 6]) (h' := zHp s q3) rfl ?_
      obtain ⟨q4, hq, hF⟩ := zbd_ok hF
      refine zX_inv (av := [.ref 6, .int (nI 40)]) (st := []) (h' := zHp s q4) rfl rfl rfl rfl rfl rfl (zcall_le (t_X6_write M _ _ _ _ hq) (by decide)) ?_
      refine zX_go (c := 1) (pc' := 109) (lv' := [.ref 6, .int x1]) (st' := []) (h' := zHp s q4) rfl ?_
      obtain rfl := Option.some.inj hF
      exact zX_retv rfl
    · refine zX_go (c := 3) (pc' := 59) (lv' := [.ref 6, .int x1]) (st' := [.int x1, .ref 47]) (h' := zHp s t) rfl ?_
      refine zX_ial (n := 100) rfl rfl hF (fun hF => ?_)
      refine zX_go (c := 1) (pc' := if 0 < (t 17 x1.toNatClampNeg) then 63 else 99) (lv' := [.ref 6, .int x1]) (st' := []) (h' := zHp s t) rfl ?_
      refine zX_ite hF (fun c0 hF => ?_) (fun c0 hF => ?_)
      · refine zX_go (c := 4) (pc' := 69) (lv' := [.ref 6, .int x1]) (st' := [.int x1, .ref 47, .ref 6]) (h' := zHp s t) rfl ?_
        refine zX_ial (n := 100) rfl rfl hF (fun hF => ?_)
        refine zX_go (c := 2) (pc' := if (t 17 x1.toNatClampNeg) = (nI 1) then 74 else 79) (lv' := [.ref 6, .int x1]) (st' := [.ref 6]) (h' := zHp s t) rfl ?_
        refine zX_ite hF (fun c0 hF => ?_) (fun c0 hF => ?_)
        · refine zX_go (c := 2) (pc' := 96) (lv' := [.ref 6, .int x1]) (st' := [.int (nI 119), .ref 6]) (h' := zHp s t) rfl ?_
          obtain ⟨q5, hq, hF⟩ := zbd_ok hF
          refine zX_inv (av := [.ref 6, .int (nI 119)]) (st := []) (h' := zHp s q5) rfl rfl rfl rfl rfl rfl (zcall_le (t_X6_write M _ _ _ _ hq) (by decide)) ?_
          refine zX_go (c := 4) (pc' := 105) (lv' := [.ref 6, .int x1]) (st' := [.int x1, .ref 48, .ref 6]) (h' := zHp s q5) rfl ?_
          refine zX_ial (n := 100) rfl rfl hF (fun hF => ?_)
          obtain ⟨q6, hq, hF⟩ := zbd_ok hF
          refine zX_inv (av := [.ref 6, .int (q5 18 x1.toNatClampNeg)]) (st := []) (h' := zHp s q6) rfl rfl rfl rfl rfl rfl (zcall_le (t_X6_writeNumber M _ _ _ _ hq) (by decide)) ?_
          obtain rfl := Option.some.inj hF
          exact zX_retv rfl
        · refine zX_go (c := 3) (pc' := 84) (lv' := [.ref 6, .int x1]) (st' := [.int x1, .ref 47, .ref 6]) (h' := zHp s t) rfl ?_
          refine zX_ial (n := 100) rfl rfl hF (fun hF => ?_)
          refine zX_go (c := 2) (pc' := if (t 17 x1.toNatClampNeg) = (nI 2) then 89 else 94) (lv' := [.ref 6, .int x1]) (st' := [.ref 6]) (h' := zHp s t) rfl ?_
          refine zX_ite hF (fun c0 hF => ?_) (fun c0 hF => ?_)
          · refine zX_go (c := 2) (pc' := 96) (lv' := [.ref 6, .int x1]) (st' := [.int (nI 99), .ref 6]) (h' := zHp s t) rfl ?_
            obtain ⟨q7, hq, hF⟩ := zbd_ok hF
            refine zX_inv (av := [.ref 6, .int (nI 99)]) (st := []) (h' := zHp s q7) rfl rfl rfl rfl rfl rfl (zcall_le (t_X6_write M _ _ _ _ hq) (by decide)) ?_
            refine zX_go (c := 4) (pc' := 105) (lv' := [.ref 6, .int x1]) (st' := [.int x1, .ref 48, .ref 6]) (h' := zHp s q7) rfl ?_
            refine zX_ial (n := 100) rfl rfl hF (fun hF => ?_)
            obtain ⟨q8, hq, hF⟩ := zbd_ok hF
            refine zX_inv (av := [.ref 6, .int (q7 18 x1.toNatClampNeg)]) (st := []) (h' := zHp s q8) rfl rfl rfl rfl rfl rfl (zcall_le (t_X6_writeNumber M _ _ _ _ hq) (by decide)) ?_
            obtain rfl := Option.some.inj hF
            exact zX_retv rfl
          · refine zX_go (c := 1) (pc' := 96) (lv' := [.ref 6, .int x1]) (st' := [.int (nI 116), .ref 6]) (h' := zHp s t) rfl ?_
            obtain ⟨q9, hq, hF⟩ := zbd_ok hF
            refine zX_inv (av := [.ref 6, .int (nI 116)]) (st := []) (h' := zHp s q9) rfl rfl rfl rfl rfl rfl (zcall_le (t_X6_write M _ _ _ _ hq) (by decide)) ?_
            refine zX_go (c := 4) (pc' := 105) (lv' := [.ref 6, .int x1]) (st' := [.int x1, .ref 48, .ref 6]) (h' := zHp s q9) rfl ?_
            refine zX_ial (n := 100) rfl rfl hF (fun hF => ?_)
            obtain ⟨q10, hq, hF⟩ := zbd_ok hF
            refine zX_inv (av := [.ref 6, .int (q9 18 x1.toNatClampNeg)]) (st := []) (h' := zHp s q10) rfl rfl rfl rfl rfl rfl (zcall_le (t_X6_writeNumber M _ _ _ _ hq) (by decide)) ?_
            obtain rfl := Option.some.inj hF
            exact zX_retv rfl
      · refine zX_go (c := 4) (pc' := 105) (lv' := [.ref 6, .int x1]) (st' := [.int x1, .ref 48, .ref 6]) (h' := zHp s t) rfl ?_
        refine zX_ial (n := 100) rfl rfl hF (fun hF => ?_)
        obtain ⟨q11, hq, hF⟩ := zbd_ok hF
        refine zX_inv (av := [.ref 6, .int (t 18 x1.toNatClampNeg)]) (st := []) (h' := zHp s q11) rfl rfl rfl rfl rfl rfl (zcall_le (t_X6_writeNumber M _ _ _ _ hq) (by decide)) ?_
        obtain rfl := Option.some.inj hF
        exact zX_retv rfl
def l_X6_isBehind (M : Nat) : Nat → zS → Int32 → Int32 → Int32 → Int32 → Option (Int32)
  | 0, _, _, _, _, _ => none
  | N + 1, t, y1, y2, y3, y4 =>
    if y4 < y2 then
     if y3 = 0 then
      zbd (f_X6_inner M t y1 y4) (fun q1 =>
       if q1 = (-1) then
        l_X6_isBehind M N t y1 y2 (nI 0) (y4 + (nI 1))
       else
        l_X6_isBehind M N t y1 y2 (nI 1) (y4 + (nI 1)))
     else
      l_X6_isBehind M N t y1 y2 (nI 1) (y4 + (nI 1))
    else
     zq (y3 &&& 1 == y3) <|
     some y3
set_option maxRecDepth 100000 in
set_option maxHeartbeats 4000000 in
theorem tl_X6_isBehind {L : Nat} {xs : Nat → Int32} (M : Nat) (s : zS) : ∀ (N : Nat) (t : zS) (y1 : Int32) (y2 : Int32) (y3 : Int32) (y4 : Int32) (R : Int32) (hF : l_X6_isBehind M N t y1 y2 y3 y4 = some R), zX (ztb L xs) (zcall (ztb L xs) 1) 6 2 zk_X6_isBehind 5 [.ref 6, .int y1, .int y2, .int y3, .int y4] [] (zHp s t) (some (.int R), zHp s t) := by
  intro N
  induction N with
  | zero => intro t y1 y2 y3 y4 R hF; cases hF
  | succ N ih =>
    intro t y1 y2 y3 y4 R hF
    unfold l_X6_isBehind at hF
    refine zX_go (c := 3) (pc' := if y4 < y2 then 11 else 38) (lv' := [.ref 6, .int y1, .int y2, .int y3, .int y4]) (st' := []) (h' := zHp s t) rfl ?_
    refine zX_ite hF (fun c0 hF => ?_) (fun c0 hF => ?_)
    · refine zX_go (c := 2) (pc' := if y3 = 0 then 15 else 26) (lv' := [.ref 6, .int y1, .int y2, .int y3, .int y4]) (st' := []) (h' := zHp s t) rfl ?_
      refine zX_ite hF (fun c0 hF => ?_) (fun c0 hF => ?_)
      · refine zX_go (c := 3) (pc' := 19) (lv' := [.ref 6, .int y1, .int y2, .int y3, .int y4]) (st' := [.int y4, .int y1, .ref 6]) (h' := zHp s t) rfl ?_
        obtain ⟨q1, hq, hF⟩ := zbd_ok hF
        refine zX_inv (av := [.ref 6, .int y1, .int y4]) (st := []) (h' := zHp s t) rfl rfl rfl rfl rfl rfl (zcall_le (t_X6_inner M _ _ _ _ _ hq) (by decide)) ?_
        refine zX_go (c := 2) (pc' := if q1 = (-1) then 30 else 26) (lv' := [.ref 6, .int y1, .int y2, .int y3, .int y4]) (st' := []) (h' := zHp s t) rfl ?_
        refine zX_ite hF (fun c0 hF => ?_) (fun c0 hF => ?_)
        · refine zX_go (c := 4) (pc' := 5) (lv' := [.ref 6, .int y1, .int y2, .int (nI 0), .int (y4 + (nI 1))]) (st' := []) (h' := zHp s t) rfl ?_
          exact ih t y1 y2 (nI 0) (y4 + (nI 1)) _ hF
        · refine zX_go (c := 5) (pc' := 5) (lv' := [.ref 6, .int y1, .int y2, .int (nI 1), .int (y4 + (nI 1))]) (st' := []) (h' := zHp s t) rfl ?_
          exact ih t y1 y2 (nI 1) (y4 + (nI 1)) _ hF
      · refine zX_go (c := 5) (pc' := 5) (lv' := [.ref 6, .int y1, .int y2, .int (nI 1), .int (y4 + (nI 1))]) (st' := []) (h' := zHp s t) rfl ?_
        exact ih t y1 y2 (nI 1) (y4 + (nI 1)) _ hF
    · refine zX_go (c := 1) (pc' := 39) (lv' := [.ref 6, .int y1, .int y2, .int y3, .int y4]) (st' := [.int y3]) (h' := zHp s t) rfl ?_
      obtain ⟨hb, hF⟩ := zq_ok hF
      obtain rfl := Option.some.inj hF
      exact zX_retz rfl (by simpa using hb)
def f_X6_isBehind (M : Nat) (t : zS) (x1 x2 : Int32) : Option (Int32) :=
  l_X6_isBehind M M t x1 x2 (nI 0) (nI 0)
set_option maxRecDepth 100000 in
set_option maxHeartbeats 4000000 in
theorem t_X6_isBehind {L : Nat} {xs : Nat → Int32} (M : Nat) (s t : zS) (x1 x2 : Int32) (R : Int32) (hF : f_X6_isBehind M t x1 x2 = some R) : zcall (ztb L xs) 2 129 [.ref 6, .int x1, .int x2] (zHp s t) = some (some (.int R), zHp s t) := by
  unfold f_X6_isBehind at hF
  refine zcall_X (d := 1) (e := zm_X6_isBehind) rfl rfl ?_
  show zX (ztb L xs) (zcall (ztb L xs) 1) 6 2 zk_X6_isBehind 0 [.ref 6, .int x1, .int x2, .retAddr 0, .retAddr 0] [] (zHp s t) _
  refine zX_go (c := 4) (pc' := 5) (lv' := [.ref 6, .int x1, .int x2, .int (nI 0), .int (nI 0)]) (st' := []) (h' := zHp s t) rfl ?_
  exact tl_X6_isBehind M s M t x1 x2 (nI 0) (nI 0) _ hF
def l_X6_written (M : Nat) : Nat → Nat → zS → Int32 → Option (Int32 × zS)
  | 0, _, _, _ => none
  | N + 1, hd, t, y2 => match hd with
    | 0 =>
      if 0 < (t 23 0) then
       if (nI 2000) < (t 29 0) then
        if (nI 2000) < (t 29 0) then
         some ((-3), t)
        else
         l_X6_written M N 1 (zup t 27 0 (t 29 0)) (nI 0)
       else
        zq (zin ((t 23 0) - (nI 1)) 64) <|
        zq (zin ((t 23 0) - (nI 1)) 64) <|
        zbd (f_X6_within M t (t 24 ((t 23 0) - (nI 1)).toNatClampNeg)) (fun q1 =>
         if (t 26 ((t 23 0) - (nI 1)).toNatClampNeg) = q1 then
          zq (zin (t 24 ((t 23 0) - (nI 1)).toNatClampNeg) 100) <|
          if (t 16 (t 24 ((t 23 0) - (nI 1)).toNatClampNeg).toNatClampNeg) = (nI 1) then
           zbd (f_X6_write M t (nI 125)) (fun q2 =>
            l_X6_written M N 0 (zup q2 23 0 ((q2 23 0) - (nI 1))) 0)
          else
           zbd (f_X6_write M t (nI 41)) (fun q3 =>
            l_X6_written M N 0 (zup q3 23 0 ((q3 23 0) - (nI 1))) 0)
         else
          zbd (f_X6_inner M t (t 24 ((t 23 0) - (nI 1)).toNatClampNeg) (t 26 ((t 23 0) - (nI 1)).toNatClampNeg)) (fun q4 =>
           zq (zin ((t 23 0) - (nI 1)) 64) <|
           zq (zin ((t 23 0) - (nI 1)) 64) <|
           if q4 = (-1) then
            l_X6_written M N 0 (zup t 26 ((t 23 0) - (nI 1)).toNatClampNeg ((t 26 ((t 23 0) - (nI 1)).toNatClampNeg) + (nI 1))) 0
           else
            zbd (f_X6_isBehind M (zup t 26 ((t 23 0) - (nI 1)).toNatClampNeg ((t 26 ((t 23 0) - (nI 1)).toNatClampNeg) + (nI 1))) (t 24 ((t 23 0) - (nI 1)).toNatClampNeg) (t 26 ((t 23 0) - (nI 1)).toNatClampNeg)) (fun q5 =>
             if q5 = 0 then
              zq (zin (t 24 ((t 23 0) - (nI 1)).toNatClampNeg) 100) <|
              if (t 16 (t 24 ((t 23 0) - (nI 1)).toNatClampNeg).toNatClampNeg) = (nI 2) then
               zq (zin (t 24 ((t 23 0) - (nI 1)).toNatClampNeg) 100) <|
               zq (zin (((nI 5) * (t 17 (t 24 ((t 23 0) - (nI 1)).toNatClampNeg).toNatClampNeg)) + (t 26 ((t 23 0) - (nI 1)).toNatClampNeg)) 60) <|
               zbd (f_X6_write M (zup t 26 ((t 23 0) - (nI 1)).toNatClampNeg ((t 26 ((t 23 0) - (nI 1)).toNatClampNeg) + (nI 1))) ((nI 48) + (t 7 (((nI 5) * (t 17 (t 24 ((t 23 0) - (nI 1)).toNatClampNeg).toNatClampNeg)) + (t 26 ((t 23 0) - (nI 1)).toNatClampNeg)).toNatClampNeg))) (fun q6 =>
                zbd (f_X6_write M q6 (nI 61)) (fun q7 =>
                 zbd (f_X6_begin M q7 q4) (fun q8 =>
                  zq (zin q4 100) <|
                  if (q8 16 q4.toNatClampNeg) = 0 then
                   l_X6_written M N 0 q8 0
                  else
                   zbd (f_X6_pile M q8 q4 (-1)) (fun q9 =>
                    l_X6_written M N 0 q9 0))))
              else
               zbd (f_X6_begin M (zup t 26 ((t 23 0) - (nI 1)).toNatClampNeg ((t 26 ((t 23 0) - (nI 1)).toNatClampNeg) + (nI 1))) q4) (fun q10 =>
                zq (zin q4 100) <|
                if (q10 16 q4.toNatClampNeg) = 0 then
                 l_X6_written M N 0 q10 0
                else
                 zbd (f_X6_pile M q10 q4 (-1)) (fun q11 =>
                  l_X6_written M N 0 q11 0))
             else
              zbd (f_X6_write M (zup t 26 ((t 23 0) - (nI 1)).toNatClampNeg ((t 26 ((t 23 0) - (nI 1)).toNatClampNeg) + (nI 1))) (nI 44)) (fun q12 =>
               zq (zin (t 24 ((t 23 0) - (nI 1)).toNatClampNeg) 100) <|
               if (q12 16 (t 24 ((t 23 0) - (nI 1)).toNatClampNeg).toNatClampNeg) = (nI 2) then
                zq (zin (t 24 ((t 23 0) - (nI 1)).toNatClampNeg) 100) <|
                zq (zin (((nI 5) * (q12 17 (t 24 ((t 23 0) - (nI 1)).toNatClampNeg).toNatClampNeg)) + (t 26 ((t 23 0) - (nI 1)).toNatClampNeg)) 60) <|
                zbd (f_X6_write M q12 ((nI 48) + (q12 7 (((nI 5) * (q12 17 (t 24 ((t 23 0) - (nI 1)).toNatClampNeg).toNatClampNeg)) + (t 26 ((t 23 0) - (nI 1)).toNatClampNeg)).toNatClampNeg))) (fun q13 =>
                 zbd (f_X6_write M q13 (nI 61)) (fun q14 =>
                  zbd (f_X6_begin M q14 q4) (fun q15 =>
                   zq (zin q4 100) <|
                   if (q15 16 q4.toNatClampNeg) = 0 then
                    l_X6_written M N 0 q15 0
                   else
                    zbd (f_X6_pile M q15 q4 (-1)) (fun q16 =>
                     l_X6_written M N 0 q16 0))))
               else
                zbd (f_X6_begin M q12 q4) (fun q17 =>
                 zq (zin q4 100) <|
                 if (q17 16 q4.toNatClampNeg) = 0 then
                  l_X6_written M N 0 q17 0
                 else
                  zbd (f_X6_pile M q17 q4 (-1)) (fun q18 =>
                   l_X6_written M N 0 q18 0))))))
      else
       if (nI 2000) < (t 29 0) then
        some ((-3), t)
       else
        l_X6_written M N 1 (zup t 27 0 (t 29 0)) (nI 0)
    | 1 =>
      if y2 < (t 27 0) then
       zq (zin y2 2000) <|
       zq (zin y2 2000) <|
       l_X6_written M N 1 (zup t 28 y2.toNatClampNeg (t 30 y2.toNatClampNeg)) (y2 + (nI 1))
      else
       some (t 27 0, t)
    | _ => none
set_option maxRecDepth 100000 in
set_option maxHeartbeats 4000000 in
theorem tl_X6_written {L : Nat} {xs : Nat → Int32} (M : Nat) (s : zS) : ∀ (N : Nat) (t : zS) (y2 : Int32) (R : Int32 × zS), (∀ (u1 : Int32) (u2 : Value) (u3 : Value) (u4 : Value) (u5 : Value), l_X6_written M N 0 t y2 = some R → zX (ztb L xs) (zcall (ztb L xs) 3) 6 1 zk_X6_written 41 [.ref 6, .int u1, u2, u3, u4, u5] [] (zHp s t) (some (.int R.1), zHp s R.2)) ∧ (∀ (u1 : Int32) (u3 : Value) (u4 : Value) (u5 : Value), l_X6_written M N 1 t y2 = some R → zX (ztb L xs) (zcall (ztb L xs) 3) 6 1 zk_X6_written 253 [.ref 6, .int u1, .int y2, u3, u4, u5] [] (zHp s t) (some (.int R.1), zHp s R.2)) := by
  intro N
  induction N with
  | zero =>
    intro t y2 R
    exact ⟨(by intros; rename_i hF; cases hF), (by intros; rename_i hF; cases hF)⟩
  | succ N ih =>
    intro t y2 R
    refine ⟨?_, ?_⟩
    · intro u1 u2 u3 u4 u5 hF
      unfold l_X6_written at hF
      (try dsimp only at hF)
      refine zX_go (c := 3) (pc' := if 0 < (t 23 0) then 48 else 230) (lv' := [.ref 6, .int u1, u2, u3, u4, u5]) (st' := []) (h' := zHp s t) rfl ?_
      refine zX_ite hF (fun c0 hF => ?_) (fun c0 hF => ?_)
      · refine zX_go (c := 4) (pc' := if (nI 2000) < (t 29 0) then 230 else 58) (lv' := [.ref 6, .int u1, u2, u3, u4, u5]) (st' := []) (h' := zHp s t) rfl ?_
        refine zX_ite hF (fun c0 hF => ?_) (fun c0 hF => ?_)
        · refine zX_go (c := 4) (pc' := if (nI 2000) < (t 29 0) then 240 else 243) (lv' := [.ref 6, .int u1, u2, u3, u4, u5]) (st' := []) (h' := zHp s t) rfl ?_
          refine zX_ite hF (fun c0 hF => ?_) (fun c0 hF => ?_)
          · refine zX_go (c := 1) (pc' := 242) (lv' := [.ref 6, .int u1, u2, u3, u4, u5]) (st' := [.int (-3)]) (h' := zHp s t) rfl ?_
            obtain rfl := Option.some.inj hF
            exact zX_reti rfl
          · refine zX_go (c := 3) (pc' := 248) (lv' := [.ref 6, .int u1, u2, u3, u4, u5]) (st' := [.int (t 29 0), .ref 6]) (h' := zHp s t) rfl ?_
            refine zX_pfi (h' := zHp s (zup t 27 0 (t 29 0))) rfl rfl rfl rfl (zst_6_27 _ _ _) ?_
            refine zX_go (c := 2) (pc' := 253) (lv' := [.ref 6, .int u1, .int (nI 0), u3, u4, u5]) (st' := []) (h' := zHp s (zup t 27 0 (t 29 0))) rfl ?_
            exact (ih (zup t 27 0 (t 29 0)) (nI 0) _).2 u1 u3 u4 u5 hF
        · refine zX_go (c := 8) (pc' := 70) (lv' := [.ref 6, .int u1, .int ((t 23 0) - (nI 1)), u3, u4, u5]) (st' := [.int ((t 23 0) - (nI 1)), .ref 52]) (h' := zHp s t) rfl ?_
          refine zX_ial (n := 64) rfl rfl hF (fun hF => ?_)
          refine zX_go (c := 4) (pc' := 77) (lv' := [.ref 6, .int u1, .int ((t 23 0) - (nI 1)), .int (t 24 ((t 23 0) - (nI 1)).toNatClampNeg), u4, u5]) (st' := [.int ((t 23 0) - (nI 1)), .ref 54]) (h' := zHp s t) rfl ?_
          refine zX_ial (n := 64) rfl rfl hF (fun hF => ?_)
          refine zX_go (c := 4) (pc' := 84) (lv' := [.ref 6, .int u1, .int ((t 23 0) - (nI 1)), .int (t 24 ((t 23 0) - (nI 1)).toNatClampNeg), .int (t 26 ((t 23 0) - (nI 1)).toNatClampNeg), u5]) (st' := [.int (t 24 ((t 23 0) - (nI 1)).toNatClampNeg), .ref 6, .int (t 26 ((t 23 0) - (nI 1)).toNatClampNeg)]) (h' := zHp s t) rfl ?_
          obtain ⟨q1, hq, hF⟩ := zbd_ok hF
          refine zX_inv (av := [.ref 6, .int (t 24 ((t 23 0) - (nI 1)).toNatClampNeg)]) (st := [.int (t 26 ((t 23 0) - (nI 1)).toNatClampNeg)]) (h' := zHp s t) rfl rfl rfl rfl rfl rfl (zcall_le (t_X6_within M _ _ _ _ hq) (by decide)) ?_
          refine zX_go (c := 1) (pc' := if (t 26 ((t 23 0) - (nI 1)).toNatClampNeg) = q1 then 90 else 124) (lv' := [.ref 6, .int u1, .int ((t 23 0) - (nI 1)), .int (t 24 ((t 23 0) - (nI 1)).toNatClampNeg), .int (t 26 ((t 23 0) - (nI 1)).toNatClampNeg), u5]) (st' := []) (h' := zHp s t) rfl ?_
          refine zX_ite hF (fun c0 hF => ?_) (fun c0 hF => ?_)
          · refine zX_go (c := 4) (pc' := 96) (lv' := [.ref 6, .int u1, .int ((t 23 0) - (nI 1)), .int (t 24 ((t 23 0) - (nI 1)).toNatClampNeg), .int (t 26 ((t 23 0) - (nI 1)).toNatClampNeg), u5]) (st' := [.int (t 24 ((t 23 0) - (nI 1)).toNatClampNeg), .ref 46, .ref 6]) (h' := zHp s t) rfl ?_
            refine zX_ial (n := 100) rfl rfl hF (fun hF => ?_)
            refine zX_go (c := 2) (pc' := if (t 16 (t 24 ((t 23 0) - (nI 1)).toNatClampNeg).toNatClampNeg) = (nI 1) then 101 else 106) (lv' := [.ref 6, .int u1, .int ((t 23 0) - (nI 1)), .int (t 24 ((t 23 0) - (nI 1)).toNatClampNeg), .int (t 26 ((t 23 0) - (nI 1)).toNatClampNeg), u5]) (st' := [.ref 6]) (h' := zHp s t) rfl ?_
            refine zX_ite hF (fun c0 hF => ?_) (fun c0 hF => ?_)
            · refine zX_go (c := 2) (pc' := 108) (lv' := [.ref 6, .int u1, .int ((t 23 0) - (nI 1)), .int (t 24 ((t 23 0) - (nI 1)).toNatClampNeg), .int (t 26 ((t 23 0) - (nI 1)).toNatClampNeg), u5]) (st' := [.int (nI 125), .ref 6]) (h' := zHp s t) rfl ?_
              obtain ⟨q2, hq, hF⟩ := zbd_ok hF
              refine zX_inv (av := [.ref 6, .int (nI 125)]) (st := []) (h' := zHp s q2) rfl rfl rfl rfl rfl rfl (zcall_le (t_X6_write M _ _ _ _ hq) (by decide)) ?_
              refine zX_go (c := 5) (pc' := 118) (lv' := [.ref 6, .int u1, .int ((t 23 0) - (nI 1)), .int (t 24 ((t 23 0) - (nI 1)).toNatClampNeg), .int (t 26 ((t 23 0) - (nI 1)).toNatClampNeg), u5]) (st' := [.int ((q2 23 0) - (nI 1)), .ref 6]) (h' := zHp s q2) rfl ?_
              refine zX_pfi (h' := zHp s (zup q2 23 0 ((q2 23 0) - (nI 1)))) rfl rfl rfl rfl (zst_6_23 _ _ _) ?_
              refine zX_go (c := 2) (pc' := 41) (lv' := [.ref 6, .int u1, .int ((t 23 0) - (nI 1)), .int (t 24 ((t 23 0) - (nI 1)).toNatClampNeg), .int (t 26 ((t 23 0) - (nI 1)).toNatClampNeg), u5]) (st' := []) (h' := zHp s (zup q2 23 0 ((q2 23 0) - (nI 1)))) rfl ?_
              exact (ih (zup q2 23 0 ((q2 23 0) - (nI 1))) 0 _).1 u1 (.int ((t 23 0) - (nI 1))) (.int (t 24 ((t 23 0) - (nI 1)).toNatClampNeg)) (.int (t 26 ((t 23 0) - (nI 1)).toNatClampNeg)) u5 hF
            · refine zX_go (c := 1) (pc' := 108) (lv' := [.ref 6, .int u1, .int ((t 23 0) - (nI 1)), .int (t 24 ((t 23 0) - (nI 1)).toNatClampNeg), .int (t 26 ((t 23 0) - (nI 1)).toNatClampNeg), u5]) (st' := [.int (nI 41), .ref 6]) (h' := zHp s t) rfl ?_
              obtain ⟨q3, hq, hF⟩ := zbd_ok hF
              refine zX_inv (av := [.ref 6, .int (nI 41)]) (st := []) (h' := zHp s q3) rfl rfl rfl rfl rfl rfl (zcall_le (t_X6_write M _ _ _ _ hq) (by decide)) ?_
              refine zX_go (c := 5) (pc' := 118) (lv' := [.ref 6, .int u1, .int ((t 23 0) - (nI 1)), .int (t 24 ((t 23 0) - (nI 1)).toNatClampNeg), .int (t 26 ((t 23 0) - (nI 1)).toNatClampNeg), u5]) (st' := [.int ((q3 23 0) - (nI 1)), .ref 6]) (h' := zHp s q3) rfl ?_
              refine zX_pfi (h' := zHp s (zup q3 23 0 ((q3 23 0) - (nI 1)))) rfl rfl rfl rfl (zst_6_23 _ _ _) ?_
              refine zX_go (c := 2) (pc' := 41) (lv' := [.ref 6, .int u1, .int ((t 23 0) - (nI 1)), .int (t 24 ((t 23 0) - (nI 1)).toNatClampNeg), .int (t 26 ((t 23 0) - (nI 1)).toNatClampNeg), u5]) (st' := []) (h' := zHp s (zup q3 23 0 ((q3 23 0) - (nI 1)))) rfl ?_
              exact (ih (zup q3 23 0 ((q3 23 0) - (nI 1))) 0 _).1 u1 (.int ((t 23 0) - (nI 1))) (.int (t 24 ((t 23 0) - (nI 1)).toNatClampNeg)) (.int (t 26 ((t 23 0) - (nI 1)).toNatClampNeg)) u5 hF
          · refine zX_go (c := 3) (pc' := 128) (lv' := [.ref 6, .int u1, .int ((t 23 0) - (nI 1)), .int (t 24 ((t 23 0) - (nI 1)).toNatClampNeg), .int (t 26 ((t 23 0) - (nI 1)).toNatClampNeg), u5]) (st' := [.int (t 26 ((t 23 0) - (nI 1)).toNatClampNeg), .int (t 24 ((t 23 0) - (nI 1)).toNatClampNeg), .ref 6]) (h' := zHp s t) rfl ?_
            obtain ⟨q4, hq, hF⟩ := zbd_ok hF
            refine zX_inv (av := [.ref 6, .int (t 24 ((t 23 0) - (nI 1)).toNatClampNeg), .int (t 26 ((t 23 0) - (nI 1)).toNatClampNeg)]) (st := []) (h' := zHp s t) rfl rfl rfl rfl rfl rfl (zcall_le (t_X6_inner M _ _ _ _ _ hq) (by decide)) ?_
            refine zX_go (c := 5) (pc' := 139) (lv' := [.ref 6, .int u1, .int ((t 23 0) - (nI 1)), .int (t 24 ((t 23 0) - (nI 1)).toNatClampNeg), .int (t 26 ((t 23 0) - (nI 1)).toNatClampNeg), .int q4]) (st' := [.int ((t 23 0) - (nI 1)), .ref 54, .int ((t 23 0) - (nI 1)), .ref 54]) (h' := zHp s t) rfl ?_
            refine zX_ial (n := 64) rfl rfl hF (fun hF => ?_)
            refine zX_go (c := 2) (pc' := 142) (lv' := [.ref 6, .int u1, .int ((t 23 0) - (nI 1)), .int (t 24 ((t 23 0) - (nI 1)).toNatClampNeg), .int (t 26 ((t 23 0) - (nI 1)).toNatClampNeg), .int q4]) (st' := [.int ((t 26 ((t 23 0) - (nI 1)).toNatClampNeg) + (nI 1)), .int ((t 23 0) - (nI 1)), .ref 54]) (h' := zHp s t) rfl ?_
            refine zX_ias (n := 64) (h' := zHp s (zup t 26 ((t 23 0) - (nI 1)).toNatClampNeg ((t 26 ((t 23 0) - (nI 1)).toNatClampNeg) + (nI 1)))) rfl rfl (zst_54 _ _ _ _) hF (fun hF => ?_)
            refine zX_go (c := 3) (pc' := if q4 = (-1) then 227 else 149) (lv' := [.ref 6, .int u1, .int ((t 23 0) - (nI 1)), .int (t 24 ((t 23 0) - (nI 1)).toNatClampNeg), .int (t 26 ((t 23 0) - (nI 1)).toNatClampNeg), .int q4]) (st' := []) (h' := zHp s (zup t 26 ((t 23 0) - (nI 1)).toNatClampNeg ((t 26 ((t 23 0) - (nI 1)).toNatClampNeg) + (nI 1)))) rfl ?_
            refine zX_ite hF (fun c0 hF => ?_) (fun c0 hF => ?_)
            · refine zX_go (c := 1) (pc' := 41) (lv' := [.ref 6, .int u1, .int ((t 23 0) - (nI 1)), .int (t 24 ((t 23 0) - (nI 1)).toNatClampNeg), .int (t 26 ((t 23 0) - (nI 1)).toNatClampNeg), .int q4]) (st' := []) (h' := zHp s (zup t 26 ((t 23 0) - (nI 1)).toNatClampNeg ((t 26 ((t 23 0) - (nI 1)).toNatClampNeg) + (nI 1)))) rfl ?_
              exact (ih (zup t 26 ((t 23 0) - (nI 1)).toNatClampNeg ((t 26 ((t 23 0) - (nI 1)).toNatClampNeg) + (nI 1))) 0 _).1 u1 (.int ((t 23 0) - (nI 1))) (.int (t 24 ((t 23 0) - (nI 1)).toNatClampNeg)) (.int (t 26 ((t 23 0) - (nI 1)).toNatClampNeg)) (.int q4) hF
            · refine zX_go (c := 3) (pc' := 153) (lv' := [.ref 6, .int u1, .int ((t 23 0) - (nI 1)), .int (t 24 ((t 23 0) - (nI 1)).toNatClampNeg), .int (t 26 ((t 23 0) - (nI 1)).toNatClampNeg), .int q4]) (st' := [.int (t 26 ((t 23 0) - (nI 1)).toNatClampNeg), .int (t 24 ((t 23 0) - (nI 1)).toNatClampNeg), .ref 6]) (h' := zHp s (zup t 26 ((t 23 0) - (nI 1)).toNatClampNeg ((t 26 ((t 23 0) - (nI 1)).toNatClampNeg) + (nI 1)))) rfl ?_
              obtain ⟨q5, hq, hF⟩ := zbd_ok hF
              refine zX_inv (av := [.ref 6, .int (t 24 ((t 23 0) - (nI 1)).toNatClampNeg), .int (t 26 ((t 23 0) - (nI 1)).toNatClampNeg)]) (st := []) (h' := zHp s (zup t 26 ((t 23 0) - (nI 1)).toNatClampNeg ((t 26 ((t 23 0) - (nI 1)).toNatClampNeg) + (nI 1)))) rfl rfl rfl rfl rfl rfl (zcall_le (t_X6_isBehind M _ _ _ _ _ hq) (by decide)) ?_
              refine zX_go (c := 1) (pc' := if q5 = 0 then 165 else 159) (lv' := [.ref 6, .int u1, .int ((t 23 0) - (nI 1)), .int (t 24 ((t 23 0) - (nI 1)).toNatClampNeg), .int (t 26 ((t 23 0) - (nI 1)).toNatClampNeg), .int q4]) (st' := []) (h' := zHp s (zup t 26 ((t 23 0) - (nI 1)).toNatClampNeg ((t 26 ((t 23 0) - (nI 1)).toNatClampNeg) + (nI 1)))) rfl ?_
              refine zX_ite hF (fun c0 hF => ?_) (fun c0 hF => ?_)
              · refine zX_go (c := 3) (pc' := 170) (lv' := [.ref 6, .int u1, .int ((t 23 0) - (nI 1)), .int (t 24 ((t 23 0) - (nI 1)).toNatClampNeg), .int (t 26 ((t 23 0) - (nI 1)).toNatClampNeg), .int q4]) (st' := [.int (t 24 ((t 23 0) - (nI 1)).toNatClampNeg), .ref 46]) (h' := zHp s (zup t 26 ((t 23 0) - (nI 1)).toNatClampNeg ((t 26 ((t 23 0) - (nI 1)).toNatClampNeg) + (nI 1)))) rfl ?_
                refine zX_ial (n := 100) rfl rfl hF (fun hF => ?_)
                refine zX_go (c := 2) (pc' := if (t 16 (t 24 ((t 23 0) - (nI 1)).toNatClampNeg).toNatClampNeg) = (nI 2) then 175 else 204) (lv' := [.ref 6, .int u1, .int ((t 23 0) - (nI 1)), .int (t 24 ((t 23 0) - (nI 1)).toNatClampNeg), .int (t 26 ((t 23 0) - (nI 1)).toNatClampNeg), .int q4]) (st' := []) (h' := zHp s (zup t 26 ((t 23 0) - (nI 1)).toNatClampNeg ((t 26 ((t 23 0) - (nI 1)).toNatClampNeg) + (nI 1)))) rfl ?_
                refine zX_ite hF (fun c0 hF => ?_) (fun c0 hF => ?_)
                · refine zX_go (c := 8) (pc' := 188) (lv' := [.ref 6, .int u1, .int ((t 23 0) - (nI 1)), .int (t 24 ((t 23 0) - (nI 1)).toNatClampNeg), .int (t 26 ((t 23 0) - (nI 1)).toNatClampNeg), .int q4]) (st' := [.int (t 24 ((t 23 0) - (nI 1)).toNatClampNeg), .ref 47, .int (nI 5), .ref 39, .int (nI 48), .ref 6]) (h' := zHp s (zup t 26 ((t 23 0) - (nI 1)).toNatClampNeg ((t 26 ((t 23 0) - (nI 1)).toNatClampNeg) + (nI 1)))) rfl ?_
                  refine zX_ial (n := 100) rfl rfl hF (fun hF => ?_)
                  refine zX_go (c := 3) (pc' := 193) (lv' := [.ref 6, .int u1, .int ((t 23 0) - (nI 1)), .int (t 24 ((t 23 0) - (nI 1)).toNatClampNeg), .int (t 26 ((t 23 0) - (nI 1)).toNatClampNeg), .int q4]) (st' := [.int (((nI 5) * (t 17 (t 24 ((t 23 0) - (nI 1)).toNatClampNeg).toNatClampNeg)) + (t 26 ((t 23 0) - (nI 1)).toNatClampNeg)), .ref 39, .int (nI 48), .ref 6]) (h' := zHp s (zup t 26 ((t 23 0) - (nI 1)).toNatClampNeg ((t 26 ((t 23 0) - (nI 1)).toNatClampNeg) + (nI 1)))) rfl ?_
                  refine zX_ial (n := 60) rfl rfl hF (fun hF => ?_)
                  refine zX_go (c := 1) (pc' := 195) (lv' := [.ref 6, .int u1, .int ((t 23 0) - (nI 1)), .int (t 24 ((t 23 0) - (nI 1)).toNatClampNeg), .int (t 26 ((t 23 0) - (nI 1)).toNatClampNeg), .int q4]) (st' := [.int ((nI 48) + (t 7 (((nI 5) * (t 17 (t 24 ((t 23 0) - (nI 1)).toNatClampNeg).toNatClampNeg)) + (t 26 ((t 23 0) - (nI 1)).toNatClampNeg)).toNatClampNeg)), .ref 6]) (h' := zHp s (zup t 26 ((t 23 0) - (nI 1)).toNatClampNeg ((t 26 ((t 23 0) - (nI 1)).toNatClampNeg) + (nI 1)))) rfl ?_
                  obtain ⟨q6, hq, hF⟩ := zbd_ok hF
                  refine zX_inv (av := [.ref 6, .int ((nI 48) + (t 7 (((nI 5) * (t 17 (t 24 ((t 23 0) - (nI 1)).toNatClampNeg).toNatClampNeg)) + (t 26 ((t 23 0) - (nI 1)).toNatClampNeg)).toNatClampNeg))]) (st := []) (h' := zHp s q6) rfl rfl rfl rfl rfl rfl (zcall_le (t_X6_write M _ _ _ _ hq) (by decide)) ?_
                  refine zX_go (c := 2) (pc' := 201) (lv' := [.ref 6, .int u1, .int ((t 23 0) - (nI 1)), .int (t 24 ((t 23 0) - (nI 1)).toNatClampNeg), .int (t 26 ((t 23 0) - (nI 1)).toNatClampNeg), .int q4]) (st' := [.int (nI 61), .ref 6]) (h' := zHp s q6) rfl ?_
                  obtain ⟨q7, hq, hF⟩ := zbd_ok hF
                  refine zX_inv (av := [.ref 6, .int (nI 61)]) (st := []) (h' := zHp s q7) rfl rfl rfl rfl rfl rfl (zcall_le (t_X6_write M _ _ _ _ hq) (by decide)) ?_
                  refine zX_go (c := 2) (pc' := 207) (lv' := [.ref 6, .int u1, .int ((t 23 0) - (nI 1)), .int (t 24 ((t 23 0) - (nI 1)).toNatClampNeg), .int (t 26 ((t 23 0) - (nI 1)).toNatClampNeg), .int q4]) (st' := [.int q4, .ref 6]) (h' := zHp s q7) rfl ?_
                  obtain ⟨q8, hq, hF⟩ := zbd_ok hF
                  refine zX_inv (av := [.ref 6, .int q4]) (st := []) (h' := zHp s q8) rfl rfl rfl rfl rfl rfl (zcall_le (t_X6_begin M _ _ _ _ hq) (by decide)) ?_
                  refine zX_go (c := 3) (pc' := 216) (lv' := [.ref 6, .int u1, .int ((t 23 0) - (nI 1)), .int (t 24 ((t 23 0) - (nI 1)).toNatClampNeg), .int (t 26 ((t 23 0) - (nI 1)).toNatClampNeg), .int q4]) (st' := [.int q4, .ref 46]) (h' := zHp s q8) rfl ?_
                  refine zX_ial (n := 100) rfl rfl hF (fun hF => ?_)
                  refine zX_go (c := 1) (pc' := if (q8 16 q4.toNatClampNeg) = 0 then 227 else 220) (lv' := [.ref 6, .int u1, .int ((t 23 0) - (nI 1)), .int (t 24 ((t 23 0) - (nI 1)).toNatClampNeg), .int (t 26 ((t 23 0) - (nI 1)).toNatClampNeg), .int q4]) (st' := []) (h' := zHp s q8) rfl ?_
                  refine zX_ite hF (fun c0 hF => ?_) (fun c0 hF => ?_)
                  · refine zX_go (c := 1) (pc' := 41) (lv' := [.ref 6, .int u1, .int ((t 23 0) - (nI 1)), .int (t 24 ((t 23 0) - (nI 1)).toNatClampNeg), .int (t 26 ((t 23 0) - (nI 1)).toNatClampNeg), .int q4]) (st' := []) (h' := zHp s q8) rfl ?_
                    exact (ih q8 0 _).1 u1 (.int ((t 23 0) - (nI 1))) (.int (t 24 ((t 23 0) - (nI 1)).toNatClampNeg)) (.int (t 26 ((t 23 0) - (nI 1)).toNatClampNeg)) (.int q4) hF
                  · refine zX_go (c := 3) (pc' := 224) (lv' := [.ref 6, .int u1, .int ((t 23 0) - (nI 1)), .int (t 24 ((t 23 0) - (nI 1)).toNatClampNeg), .int (t 26 ((t 23 0) - (nI 1)).toNatClampNeg), .int q4]) (st' := [.int (-1), .int q4, .ref 6]) (h' := zHp s q8) rfl ?_
                    obtain ⟨q9, hq, hF⟩ := zbd_ok hF
                    refine zX_inv (av := [.ref 6, .int q4, .int (-1)]) (st := []) (h' := zHp s q9) rfl rfl rfl rfl rfl rfl (zcall_le (t_X6_pile M _ _ _ _ _ hq) (by decide)) ?_
                    refine zX_go (c := 1) (pc' := 41) (lv' := [.ref 6, .int u1, .int ((t 23 0) - (nI 1)), .int (t 24 ((t 23 0) - (nI 1)).toNatClampNeg), .int (t 26 ((t 23 0) - (nI 1)).toNatClampNeg), .int q4]) (st' := []) (h' := zHp s q9) rfl ?_
                    exact (ih q9 0 _).1 u1 (.int ((t 23 0) - (nI 1))) (.int (t 24 ((t 23 0) - (nI 1)).toNatClampNeg)) (.int (t 26 ((t 23 0) - (nI 1)).toNatClampNeg)) (.int q4) hF
                · refine zX_go (c := 2) (pc' := 207) (lv' := [.ref 6, .int u1, .int ((t 23 0) - (nI 1)), .int (t 24 ((t 23 0) - (nI 1)).toNatClampNeg), .int (t 26 ((t 23 0) - (nI 1)).toNatClampNeg), .int q4]) (st' := [.int q4, .ref 6]) (h' := zHp s (zup t 26 ((t 23 0) - (nI 1)).toNatClampNeg ((t 26 ((t 23 0) - (nI 1)).toNatClampNeg) + (nI 1)))) rfl ?_
                  obtain ⟨q10, hq, hF⟩ := zbd_ok hF
                  refine zX_inv (av := [.ref 6, .int q4]) (st := []) (h' := zHp s q10) rfl rfl rfl rfl rfl rfl (zcall_le (t_X6_begin M _ _ _ _ hq) (by decide)) ?_
                  refine zX_go (c := 3) (pc' := 216) (lv' := [.ref 6, .int u1, .int ((t 23 0) - (nI 1)), .int (t 24 ((t 23 0) - (nI 1)).toNatClampNeg), .int (t 26 ((t 23 0) - (nI 1)).toNatClampNeg), .int q4]) (st' := [.int q4, .ref 46]) (h' := zHp s q10) rfl ?_
                  refine zX_ial (n := 100) rfl rfl hF (fun hF => ?_)
                  refine zX_go (c := 1) (pc' := if (q10 16 q4.toNatClampNeg) = 0 then 227 else 220) (lv' := [.ref 6, .int u1, .int ((t 23 0) - (nI 1)), .int (t 24 ((t 23 0) - (nI 1)).toNatClampNeg), .int (t 26 ((t 23 0) - (nI 1)).toNatClampNeg), .int q4]) (st' := []) (h' := zHp s q10) rfl ?_
                  refine zX_ite hF (fun c0 hF => ?_) (fun c0 hF => ?_)
                  · refine zX_go (c := 1) (pc' := 41) (lv' := [.ref 6, .int u1, .int ((t 23 0) - (nI 1)), .int (t 24 ((t 23 0) - (nI 1)).toNatClampNeg), .int (t 26 ((t 23 0) - (nI 1)).toNatClampNeg), .int q4]) (st' := []) (h' := zHp s q10) rfl ?_
                    exact (ih q10 0 _).1 u1 (.int ((t 23 0) - (nI 1))) (.int (t 24 ((t 23 0) - (nI 1)).toNatClampNeg)) (.int (t 26 ((t 23 0) - (nI 1)).toNatClampNeg)) (.int q4) hF
                  · refine zX_go (c := 3) (pc' := 224) (lv' := [.ref 6, .int u1, .int ((t 23 0) - (nI 1)), .int (t 24 ((t 23 0) - (nI 1)).toNatClampNeg), .int (t 26 ((t 23 0) - (nI 1)).toNatClampNeg), .int q4]) (st' := [.int (-1), .int q4, .ref 6]) (h' := zHp s q10) rfl ?_
                    obtain ⟨q11, hq, hF⟩ := zbd_ok hF
                    refine zX_inv (av := [.ref 6, .int q4, .int (-1)]) (st := []) (h' := zHp s q11) rfl rfl rfl rfl rfl rfl (zcall_le (t_X6_pile M _ _ _ _ _ hq) (by decide)) ?_
                    refine zX_go (c := 1) (pc' := 41) (lv' := [.ref 6, .int u1, .int ((t 23 0) - (nI 1)), .int (t 24 ((t 23 0) - (nI 1)).toNatClampNeg), .int (t 26 ((t 23 0) - (nI 1)).toNatClampNeg), .int q4]) (st' := []) (h' := zHp s q11) rfl ?_
                    exact (ih q11 0 _).1 u1 (.int ((t 23 0) - (nI 1))) (.int (t 24 ((t 23 0) - (nI 1)).toNatClampNeg)) (.int (t 26 ((t 23 0) - (nI 1)).toNatClampNeg)) (.int q4) hF
              · refine zX_go (c := 2) (pc' := 162) (lv' := [.ref 6, .int u1, .int ((t 23 0) - (nI 1)), .int (t 24 ((t 23 0) - (nI 1)).toNatClampNeg), .int (t 26 ((t 23 0) - (nI 1)).toNatClampNeg), .int q4]) (st' := [.int (nI 44), .ref 6]) (h' := zHp s (zup t 26 ((t 23 0) - (nI 1)).toNatClampNeg ((t 26 ((t 23 0) - (nI 1)).toNatClampNeg) + (nI 1)))) rfl ?_
                obtain ⟨q12, hq, hF⟩ := zbd_ok hF
                refine zX_inv (av := [.ref 6, .int (nI 44)]) (st := []) (h' := zHp s q12) rfl rfl rfl rfl rfl rfl (zcall_le (t_X6_write M _ _ _ _ hq) (by decide)) ?_
                refine zX_go (c := 3) (pc' := 170) (lv' := [.ref 6, .int u1, .int ((t 23 0) - (nI 1)), .int (t 24 ((t 23 0) - (nI 1)).toNatClampNeg), .int (t 26 ((t 23 0) - (nI 1)).toNatClampNeg), .int q4]) (st' := [.int (t 24 ((t 23 0) - (nI 1)).toNatClampNeg), .ref 46]) (h' := zHp s q12) rfl ?_
                refine zX_ial (n := 100) rfl rfl hF (fun hF => ?_)
                refine zX_go (c := 2) (pc' := if (q12 16 (t 24 ((t 23 0) - (nI 1)).toNatClampNeg).toNatClampNeg) = (nI 2) then 175 else 204) (lv' := [.ref 6, .int u1, .int ((t 23 0) - (nI 1)), .int (t 24 ((t 23 0) - (nI 1)).toNatClampNeg), .int (t 26 ((t 23 0) - (nI 1)).toNatClampNeg), .int q4]) (st' := []) (h' := zHp s q12) rfl ?_
                refine zX_ite hF (fun c0 hF => ?_) (fun c0 hF => ?_)
                · refine zX_go (c := 8) (pc' := 188) (lv' := [.ref 6, .int u1, .int ((t 23 0) - (nI 1)), .int (t 24 ((t 23 0) - (nI 1)).toNatClampNeg), .int (t 26 ((t 23 0) - (nI 1)).toNatClampNeg), .int q4]) (st' := [.int (t 24 ((t 23 0) - (nI 1)).toNatClampNeg), .ref 47, .int (nI 5), .ref 39, .int (nI 48), .ref 6]) (h' := zHp s q12) rfl ?_
                  refine zX_ial (n := 100) rfl rfl hF (fun hF => ?_)
                  refine zX_go (c := 3) (pc' := 193) (lv' := [.ref 6, .int u1, .int ((t 23 0) - (nI 1)), .int (t 24 ((t 23 0) - (nI 1)).toNatClampNeg), .int (t 26 ((t 23 0) - (nI 1)).toNatClampNeg), .int q4]) (st' := [.int (((nI 5) * (q12 17 (t 24 ((t 23 0) - (nI 1)).toNatClampNeg).toNatClampNeg)) + (t 26 ((t 23 0) - (nI 1)).toNatClampNeg)), .ref 39, .int (nI 48), .ref 6]) (h' := zHp s q12) rfl ?_
                  refine zX_ial (n := 60) rfl rfl hF (fun hF => ?_)
                  refine zX_go (c := 1) (pc' := 195) (lv' := [.ref 6, .int u1, .int ((t 23 0) - (nI 1)), .int (t 24 ((t 23 0) - (nI 1)).toNatClampNeg), .int (t 26 ((t 23 0) - (nI 1)).toNatClampNeg), .int q4]) (st' := [.int ((nI 48) + (q12 7 (((nI 5) * (q12 17 (t 24 ((t 23 0) - (nI 1)).toNatClampNeg).toNatClampNeg)) + (t 26 ((t 23 0) - (nI 1)).toNatClampNeg)).toNatClampNeg)), .ref 6]) (h' := zHp s q12) rfl ?_
                  obtain ⟨q13, hq, hF⟩ := zbd_ok hF
                  refine zX_inv (av := [.ref 6, .int ((nI 48) + (q12 7 (((nI 5) * (q12 17 (t 24 ((t 23 0) - (nI 1)).toNatClampNeg).toNatClampNeg)) + (t 26 ((t 23 0) - (nI 1)).toNatClampNeg)).toNatClampNeg))]) (st := []) (h' := zHp s q13) rfl rfl rfl rfl rfl rfl (zcall_le (t_X6_write M _ _ _ _ hq) (by decide)) ?_
                  refine zX_go (c := 2) (pc' := 201) (lv' := [.ref 6, .int u1, .int ((t 23 0) - (nI 1)), .int (t 24 ((t 23 0) - (nI 1)).toNatClampNeg), .int (t 26 ((t 23 0) - (nI 1)).toNatClampNeg), .int q4]) (st' := [.int (nI 61), .ref 6]) (h' := zHp s q13) rfl ?_
                  obtain ⟨q14, hq, hF⟩ := zbd_ok hF
                  refine zX_inv (av := [.ref 6, .int (nI 61)]) (st := []) (h' := zHp s q14) rfl rfl rfl rfl rfl rfl (zcall_le (t_X6_write M _ _ _ _ hq) (by decide)) ?_
                  refine zX_go (c := 2) (pc' := 207) (lv' := [.ref 6, .int u1, .int ((t 23 0) - (nI 1)), .int (t 24 ((t 23 0) - (nI 1)).toNatClampNeg), .int (t 26 ((t 23 0) - (nI 1)).toNatClampNeg), .int q4]) (st' := [.int q4, .ref 6]) (h' := zHp s q14) rfl ?_
                  obtain ⟨q15, hq, hF⟩ := zbd_ok hF
                  refine zX_inv (av := [.ref 6, .int q4]) (st := []) (h' := zHp s q15) rfl rfl rfl rfl rfl rfl (zcall_le (t_X6_begin M _ _ _ _ hq) (by decide)) ?_
                  refine zX_go (c := 3) (pc' := 216) (lv' := [.ref 6, .int u1, .int ((t 23 0) - (nI 1)), .int (t 24 ((t 23 0) - (nI 1)).toNatClampNeg), .int (t 26 ((t 23 0) - (nI 1)).toNatClampNeg), .int q4]) (st' := [.int q4, .ref 46]) (h' := zHp s q15) rfl ?_
                  refine zX_ial (n := 100) rfl rfl hF (fun hF => ?_)
                  refine zX_go (c := 1) (pc' := if (q15 16 q4.toNatClampNeg) = 0 then 227 else 220) (lv' := [.ref 6, .int u1, .int ((t 23 0) - (nI 1)), .int (t 24 ((t 23 0) - (nI 1)).toNatClampNeg), .int (t 26 ((t 23 0) - (nI 1)).toNatClampNeg), .int q4]) (st' := []) (h' := zHp s q15) rfl ?_
                  refine zX_ite hF (fun c0 hF => ?_) (fun c0 hF => ?_)
                  · refine zX_go (c := 1) (pc' := 41) (lv' := [.ref 6, .int u1, .int ((t 23 0) - (nI 1)), .int (t 24 ((t 23 0) - (nI 1)).toNatClampNeg), .int (t 26 ((t 23 0) - (nI 1)).toNatClampNeg), .int q4]) (st' := []) (h' := zHp s q15) rfl ?_
                    exact (ih q15 0 _).1 u1 (.int ((t 23 0) - (nI 1))) (.int (t 24 ((t 23 0) - (nI 1)).toNatClampNeg)) (.int (t 26 ((t 23 0) - (nI 1)).toNatClampNeg)) (.int q4) hF
                  · refine zX_go (c := 3) (pc' := 224) (lv' := [.ref 6, .int u1, .int ((t 23 0) - (nI 1)), .int (t 24 ((t 23 0) - (nI 1)).toNatClampNeg), .int (t 26 ((t 23 0) - (nI 1)).toNatClampNeg), .int q4]) (st' := [.int (-1), .int q4, .ref 6]) (h' := zHp s q15) rfl ?_
                    obtain ⟨q16, hq, hF⟩ := zbd_ok hF
                    refine zX_inv (av := [.ref 6, .int q4, .int (-1)]) (st := []) (h' := zHp s q16) rfl rfl rfl rfl rfl rfl (zcall_le (t_X6_pile M _ _ _ _ _ hq) (by decide)) ?_
                    refine zX_go (c := 1) (pc' := 41) (lv' := [.ref 6, .int u1, .int ((t 23 0) - (nI 1)), .int (t 24 ((t 23 0) - (nI 1)).toNatClampNeg), .int (t 26 ((t 23 0) - (nI 1)).toNatClampNeg), .int q4]) (st' := []) (h' := zHp s q16) rfl ?_
                    exact (ih q16 0 _).1 u1 (.int ((t 23 0) - (nI 1))) (.int (t 24 ((t 23 0) - (nI 1)).toNatClampNeg)) (.int (t 26 ((t 23 0) - (nI 1)).toNatClampNeg)) (.int q4) hF
                · refine zX_go (c := 2) (pc' := 207) (lv' := [.ref 6, .int u1, .int ((t 23 0) - (nI 1)), .int (t 24 ((t 23 0) - (nI 1)).toNatClampNeg), .int (t 26 ((t 23 0) - (nI 1)).toNatClampNeg), .int q4]) (st' := [.int q4, .ref 6]) (h' := zHp s q12) rfl ?_
                  obtain ⟨q17, hq, hF⟩ := zbd_ok hF
                  refine zX_inv (av := [.ref 6, .int q4]) (st := []) (h' := zHp s q17) rfl rfl rfl rfl rfl rfl (zcall_le (t_X6_begin M _ _ _ _ hq) (by decide)) ?_
                  refine zX_go (c := 3) (pc' := 216) (lv' := [.ref 6, .int u1, .int ((t 23 0) - (nI 1)), .int (t 24 ((t 23 0) - (nI 1)).toNatClampNeg), .int (t 26 ((t 23 0) - (nI 1)).toNatClampNeg), .int q4]) (st' := [.int q4, .ref 46]) (h' := zHp s q17) rfl ?_
                  refine zX_ial (n := 100) rfl rfl hF (fun hF => ?_)
                  refine zX_go (c := 1) (pc' := if (q17 16 q4.toNatClampNeg) = 0 then 227 else 220) (lv' := [.ref 6, .int u1, .int ((t 23 0) - (nI 1)), .int (t 24 ((t 23 0) - (nI 1)).toNatClampNeg), .int (t 26 ((t 23 0) - (nI 1)).toNatClampNeg), .int q4]) (st' := []) (h' := zHp s q17) rfl ?_
                  refine zX_ite hF (fun c0 hF => ?_) (fun c0 hF => ?_)
                  · refine zX_go (c := 1) (pc' := 41) (lv' := [.ref 6, .int u1, .int ((t 23 0) - (nI 1)), .int (t 24 ((t 23 0) - (nI 1)).toNatClampNeg), .int (t 26 ((t 23 0) - (nI 1)).toNatClampNeg), .int q4]) (st' := []) (h' := zHp s q17) rfl ?_
                    exact (ih q17 0 _).1 u1 (.int ((t 23 0) - (nI 1))) (.int (t 24 ((t 23 0) - (nI 1)).toNatClampNeg)) (.int (t 26 ((t 23 0) - (nI 1)).toNatClampNeg)) (.int q4) hF
                  · refine zX_go (c := 3) (pc' := 224) (lv' := [.ref 6, .int u1, .int ((t 23 0) - (nI 1)), .int (t 24 ((t 23 0) - (nI 1)).toNatClampNeg), .int (t 26 ((t 23 0) - (nI 1)).toNatClampNeg), .int q4]) (st' := [.int (-1), .int q4, .ref 6]) (h' := zHp s q17) rfl ?_
                    obtain ⟨q18, hq, hF⟩ := zbd_ok hF
                    refine zX_inv (av := [.ref 6, .int q4, .int (-1)]) (st := []) (h' := zHp s q18) rfl rfl rfl rfl rfl rfl (zcall_le (t_X6_pile M _ _ _ _ _ hq) (by decide)) ?_
                    refine zX_go (c := 1) (pc' := 41) (lv' := [.ref 6, .int u1, .int ((t 23 0) - (nI 1)), .int (t 24 ((t 23 0) - (nI 1)).toNatClampNeg), .int (t 26 ((t 23 0) - (nI 1)).toNatClampNeg), .int q4]) (st' := []) (h' := zHp s q18) rfl ?_
                    exact (ih q18 0 _).1 u1 (.int ((t 23 0) - (nI 1))) (.int (t 24 ((t 23 0) - (nI 1)).toNatClampNeg)) (.int (t 26 ((t 23 0) - (nI 1)).toNatClampNeg)) (.int q4) hF
      · refine zX_go (c := 4) (pc' := if (nI 2000) < (t 29 0) then 240 else 243) (lv' := [.ref 6, .int u1, u2, u3, u4, u5]) (st' := []) (h' := zHp s t) rfl ?_
        refine zX_ite hF (fun c0 hF => ?_) (fun c0 hF => ?_)
        · refine zX_go (c := 1) (pc' := 242) (lv' := [.ref 6, .int u1, u2, u3, u4, u5]) (st' := [.int (-3)]) (h' := zHp s t) rfl ?_
          obtain rfl := Option.some.inj hF
          exact zX_reti rfl
        · refine zX_go (c := 3) (pc' := 248) (lv' := [.ref 6, .int u1, u2, u3, u4, u5]) (st' := [.int (t 29 0), .ref 6]) (h' := zHp s t) rfl ?_
          refine zX_pfi (h' := zHp s (zup t 27 0 (t 29 0))) rfl rfl rfl rfl (zst_6_27 _ _ _) ?_
          refine zX_go (c := 2) (pc' := 253) (lv' := [.ref 6, .int u1, .int (nI 0), u3, u4, u5]) (st' := []) (h' := zHp s (zup t 27 0 (t 29 0))) rfl ?_
          exact (ih (zup t 27 0 (t 29 0)) (nI 0) _).2 u1 u3 u4 u5 hF
    · intro u1 u3 u4 u5 hF
      unfold l_X6_written at hF
      (try dsimp only at hF)
      refine zX_go (c := 4) (pc' := if y2 < (t 27 0) then 261 else 279) (lv' := [.ref 6, .int u1, .int y2, u3, u4, u5]) (st' := []) (h' := zHp s t) rfl ?_
      refine zX_ite hF (fun c0 hF => ?_) (fun c0 hF => ?_)
      · refine zX_go (c := 6) (pc' := 271) (lv' := [.ref 6, .int u1, .int y2, u3, u4, u5]) (st' := [.int y2, .ref 56, .int y2, .ref 55]) (h' := zHp s t) rfl ?_
        refine zX_ial (n := 2000) rfl rfl hF (fun hF => ?_)
        refine zX_ias (n := 2000) (h' := zHp s (zup t 28 y2.toNatClampNeg (t 30 y2.toNatClampNeg))) rfl rfl (zst_55 _ _ _ _) hF (fun hF => ?_)
        refine zX_go (c := 2) (pc' := 253) (lv' := [.ref 6, .int u1, .int (y2 + (nI 1)), u3, u4, u5]) (st' := []) (h' := zHp s (zup t 28 y2.toNatClampNeg (t 30 y2.toNatClampNeg))) rfl ?_
        exact (ih (zup t 28 y2.toNatClampNeg (t 30 y2.toNatClampNeg)) (y2 + (nI 1)) _).2 u1 u3 u4 u5 hF
      · refine zX_go (c := 2) (pc' := 283) (lv' := [.ref 6, .int u1, .int y2, u3, u4, u5]) (st' := [.int (t 27 0)]) (h' := zHp s t) rfl ?_
        obtain rfl := Option.some.inj hF
        exact zX_reti rfl
def f_X6_written (M : Nat) (t : zS) (x1 : Int32) : Option (Int32 × zS) :=
  zbd (f_X6_isValue M t x1) (fun q1 =>
   if q1 = 0 then
    some ((-2), t)
   else
    zbd (f_X6_begin M (zup (zup t 29 0 (nI 0)) 23 0 (nI 0)) x1) (fun q2 =>
     zq (zin x1 100) <|
     if (q2 16 x1.toNatClampNeg) = 0 then
      l_X6_written M M 0 q2 0
     else
      zbd (f_X6_pile M q2 x1 (-1)) (fun q3 =>
       l_X6_written M M 0 q3 0)))
set_option maxRecDepth 100000 in
set_option maxHeartbeats 4000000 in
theorem t_X6_written {L : Nat} {xs : Nat → Int32} (M : Nat) (s t : zS) (x1 : Int32) (R : Int32 × zS) (hF : f_X6_written M t x1 = some R) : zcall (ztb L xs) 4 130 [.ref 6, .int x1] (zHp s t) = some (some (.int R.1), zHp s R.2) := by
  unfold f_X6_written at hF
  refine zcall_X (d := 3) (e := zm_X6_written) rfl rfl ?_
  show zX (ztb L xs) (zcall (ztb L xs) 3) 6 1 zk_X6_written 0 [.ref 6, .int x1, .retAddr 0, .retAddr 0, .retAddr 0, .retAddr 0] [] (zHp s t) _
  refine zX_go (c := 2) (pc' := 2) (lv' := [.ref 6, .int x1, .retAddr 0, .retAddr 0, .retAddr 0, .retAddr 0]) (st' := [.int x1, .ref 6]) (h' := zHp s t) rfl ?_
  obtain ⟨q1, hq, hF⟩ := zbd_ok hF
  refine zX_inv (av := [.ref 6, .int x1]) (st := []) (h' := zHp s t) rfl rfl rfl rfl rfl rfl (zcall_le (t_X6_isValue M _ _ _ _ hq) (by decide)) ?_
  refine zX_go (c := 1) (pc' := if q1 = 0 then 8 else 11) (lv' := [.ref 6, .int x1, .retAddr 0, .retAddr 0, .retAddr 0, .retAddr 0]) (st' := []) (h' := zHp s t) rfl ?_
  refine zX_ite hF (fun c0 hF => ?_) (fun c0 hF => ?_)
  · refine zX_go (c := 1) (pc' := 10) (lv' := [.ref 6, .int x1, .retAddr 0, .retAddr 0, .retAddr 0, .retAddr 0]) (st' := [.int (-2)]) (h' := zHp s t) rfl ?_
    obtain rfl := Option.some.inj hF
    exact zX_reti rfl
  · refine zX_go (c := 2) (pc' := 13) (lv' := [.ref 6, .int x1, .retAddr 0, .retAddr 0, .retAddr 0, .retAddr 0]) (st' := [.int (nI 0), .ref 6]) (h' := zHp s t) rfl ?_
    refine zX_pfi (h' := zHp s (zup t 29 0 (nI 0))) rfl rfl rfl rfl (zst_6_29 _ _ _) ?_
    refine zX_go (c := 2) (pc' := 18) (lv' := [.ref 6, .int x1, .retAddr 0, .retAddr 0, .retAddr 0, .retAddr 0]) (st' := [.int (nI 0), .ref 6]) (h' := zHp s (zup t 29 0 (nI 0))) rfl ?_
    refine zX_pfi (h' := zHp s (zup (zup t 29 0 (nI 0)) 23 0 (nI 0))) rfl rfl rfl rfl (zst_6_23 _ _ _) ?_
    refine zX_go (c := 2) (pc' := 23) (lv' := [.ref 6, .int x1, .retAddr 0, .retAddr 0, .retAddr 0, .retAddr 0]) (st' := [.int x1, .ref 6]) (h' := zHp s (zup (zup t 29 0 (nI 0)) 23 0 (nI 0))) rfl ?_
    obtain ⟨q2, hq, hF⟩ := zbd_ok hF
    refine zX_inv (av := [.ref 6, .int x1]) (st := []) (h' := zHp s q2) rfl rfl rfl rfl rfl rfl (zcall_le (t_X6_begin M _ _ _ _ hq) (by decide)) ?_
    refine zX_go (c := 3) (pc' := 31) (lv' := [.ref 6, .int x1, .retAddr 0, .retAddr 0, .retAddr 0, .retAddr 0]) (st' := [.int x1, .ref 46]) (h' := zHp s q2) rfl ?_
    refine zX_ial (n := 100) rfl rfl hF (fun hF => ?_)
    refine zX_go (c := 1) (pc' := if (q2 16 x1.toNatClampNeg) = 0 then 41 else 35) (lv' := [.ref 6, .int x1, .retAddr 0, .retAddr 0, .retAddr 0, .retAddr 0]) (st' := []) (h' := zHp s q2) rfl ?_
    refine zX_ite hF (fun c0 hF => ?_) (fun c0 hF => ?_)
    · exact (tl_X6_written M s M q2 0 _).1 x1 (.retAddr 0) (.retAddr 0) (.retAddr 0) (.retAddr 0) hF
    · refine zX_go (c := 3) (pc' := 38) (lv' := [.ref 6, .int x1, .retAddr 0, .retAddr 0, .retAddr 0, .retAddr 0]) (st' := [.int (-1), .int x1, .ref 6]) (h' := zHp s q2) rfl ?_
      obtain ⟨q3, hq, hF⟩ := zbd_ok hF
      refine zX_inv (av := [.ref 6, .int x1, .int (-1)]) (st := []) (h' := zHp s q3) rfl rfl rfl rfl rfl rfl (zcall_le (t_X6_pile M _ _ _ _ _ hq) (by decide)) ?_
      exact (tl_X6_written M s M q3 0 _).1 x1 (.retAddr 0) (.retAddr 0) (.retAddr 0) (.retAddr 0) hF
def f_X6_letter (M : Nat) (t : zS) (x1 : Int32) : Option (Int32) :=
  if x1 < 0 then
   some (-1)
  else
   if x1 < (t 27 0) then
    zq (zin x1 2000) <|
    some (t 28 x1.toNatClampNeg)
   else
    some (-1)
set_option maxRecDepth 100000 in
set_option maxHeartbeats 4000000 in
theorem t_X6_letter {L : Nat} {xs : Nat → Int32} (M : Nat) (s t : zS) (x1 : Int32) (R : Int32) (hF : f_X6_letter M t x1 = some R) : zcall (ztb L xs) 1 131 [.ref 6, .int x1] (zHp s t) = some (some (.int R), zHp s t) := by
  unfold f_X6_letter at hF
  refine zcall_X (d := 0) (e := zm_X6_letter) rfl rfl ?_
  show zX (ztb L xs) (zcall (ztb L xs) 0) 6 1 zk_X6_letter 0 [.ref 6, .int x1] [] (zHp s t) _
  refine zX_go (c := 2) (pc' := if x1 < 0 then 21 else 4) (lv' := [.ref 6, .int x1]) (st' := []) (h' := zHp s t) rfl ?_
  refine zX_ite hF (fun c0 hF => ?_) (fun c0 hF => ?_)
  · refine zX_go (c := 1) (pc' := 22) (lv' := [.ref 6, .int x1]) (st' := [.int (-1)]) (h' := zHp s t) rfl ?_
    obtain rfl := Option.some.inj hF
    exact zX_reti rfl
  · refine zX_go (c := 4) (pc' := if x1 < (t 27 0) then 12 else 21) (lv' := [.ref 6, .int x1]) (st' := []) (h' := zHp s t) rfl ?_
    refine zX_ite hF (fun c0 hF => ?_) (fun c0 hF => ?_)
    · refine zX_go (c := 3) (pc' := 17) (lv' := [.ref 6, .int x1]) (st' := [.int x1, .ref 55]) (h' := zHp s t) rfl ?_
      refine zX_ial (n := 2000) rfl rfl hF (fun hF => ?_)
      refine zX_go (c := 1) (pc' := 22) (lv' := [.ref 6, .int x1]) (st' := [.int (t 28 x1.toNatClampNeg)]) (h' := zHp s t) rfl ?_
      obtain rfl := Option.some.inj hF
      exact zX_reti rfl
    · refine zX_go (c := 1) (pc' := 22) (lv' := [.ref 6, .int x1]) (st' := [.int (-1)]) (h' := zHp s t) rfl ?_
      obtain rfl := Option.some.inj hF
      exact zX_reti rfl
def l_X6_standing (M : Nat) : Nat → zS → Int32 → Int32 → Int32 → Int32 → Option (Int32)
  | 0, _, _, _, _, _ => none
  | N + 1, t, y1, y2, y3, y4 =>
    if y4 < (t 32 0) then
     zq (zin y4 100) <|
     if (t 33 y4.toNatClampNeg) = y1 then
      zq (zin y4 100) <|
      zq (zin (t 34 y4.toNatClampNeg) 100) <|
      if (t 17 (t 34 y4.toNatClampNeg).toNatClampNeg) = y2 then
       l_X6_standing M N t y1 y2 (y3 + (nI 1)) (y4 + (nI 1))
      else
       l_X6_standing M N t y1 y2 (y3 + (nI 0)) (y4 + (nI 1))
     else
      l_X6_standing M N t y1 y2 (y3 + (nI 0)) (y4 + (nI 1))
    else
     some y3
set_option maxRecDepth 100000 in
set_option maxHeartbeats 4000000 in
theorem tl_X6_standing {L : Nat} {xs : Nat → Int32} (M : Nat) (s : zS) : ∀ (N : Nat) (t : zS) (y1 : Int32) (y2 : Int32) (y3 : Int32) (y4 : Int32) (R : Int32) (hF : l_X6_standing M N t y1 y2 y3 y4 = some R), zX (ztb L xs) (zcall (ztb L xs) 0) 6 1 zk_X6_standing 5 [.ref 6, .int y1, .int y2, .int y3, .int y4] [] (zHp s t) (some (.int R), zHp s t) := by
  intro N
  induction N with
  | zero => intro t y1 y2 y3 y4 R hF; cases hF
  | succ N ih =>
    intro t y1 y2 y3 y4 R hF
    unfold l_X6_standing at hF
    refine zX_go (c := 4) (pc' := if y4 < (t 32 0) then 14 else 55) (lv' := [.ref 6, .int y1, .int y2, .int y3, .int y4]) (st' := []) (h' := zHp s t) rfl ?_
    refine zX_ite hF (fun c0 hF => ?_) (fun c0 hF => ?_)
    · refine zX_go (c := 4) (pc' := 21) (lv' := [.ref 6, .int y1, .int y2, .int y3, .int y4]) (st' := [.int y4, .ref 58, .int y3]) (h' := zHp s t) rfl ?_
      refine zX_ial (n := 100) rfl rfl hF (fun hF => ?_)
      refine zX_go (c := 2) (pc' := if (t 33 y4.toNatClampNeg) = y1 then 26 else 46) (lv' := [.ref 6, .int y1, .int y2, .int y3, .int y4]) (st' := [.int y3]) (h' := zHp s t) rfl ?_
      refine zX_ite hF (fun c0 hF => ?_) (fun c0 hF => ?_)
      · refine zX_go (c := 5) (pc' := 36) (lv' := [.ref 6, .int y1, .int y2, .int y3, .int y4]) (st' := [.int y4, .ref 59, .ref 47, .int y3]) (h' := zHp s t) rfl ?_
        refine zX_ial (n := 100) rfl rfl hF (fun hF => ?_)
        refine zX_ial (n := 100) rfl rfl hF (fun hF => ?_)
        refine zX_go (c := 2) (pc' := if (t 17 (t 34 y4.toNatClampNeg).toNatClampNeg) = y2 then 42 else 46) (lv' := [.ref 6, .int y1, .int y2, .int y3, .int y4]) (st' := [.int y3]) (h' := zHp s t) rfl ?_
        refine zX_ite hF (fun c0 hF => ?_) (fun c0 hF => ?_)
        · refine zX_go (c := 6) (pc' := 5) (lv' := [.ref 6, .int y1, .int y2, .int (y3 + (nI 1)), .int (y4 + (nI 1))]) (st' := []) (h' := zHp s t) rfl ?_
          exact ih t y1 y2 (y3 + (nI 1)) (y4 + (nI 1)) _ hF
        · refine zX_go (c := 5) (pc' := 5) (lv' := [.ref 6, .int y1, .int y2, .int (y3 + (nI 0)), .int (y4 + (nI 1))]) (st' := []) (h' := zHp s t) rfl ?_
          exact ih t y1 y2 (y3 + (nI 0)) (y4 + (nI 1)) _ hF
      · refine zX_go (c := 5) (pc' := 5) (lv' := [.ref 6, .int y1, .int y2, .int (y3 + (nI 0)), .int (y4 + (nI 1))]) (st' := []) (h' := zHp s t) rfl ?_
        exact ih t y1 y2 (y3 + (nI 0)) (y4 + (nI 1)) _ hF
    · refine zX_go (c := 1) (pc' := 56) (lv' := [.ref 6, .int y1, .int y2, .int y3, .int y4]) (st' := [.int y3]) (h' := zHp s t) rfl ?_
      obtain rfl := Option.some.inj hF
      exact zX_reti rfl
def f_X6_standing (M : Nat) (t : zS) (x1 x2 : Int32) : Option (Int32) :=
  l_X6_standing M M t x1 x2 (nI 0) (nI 0)
set_option maxRecDepth 100000 in
set_option maxHeartbeats 4000000 in
theorem t_X6_standing {L : Nat} {xs : Nat → Int32} (M : Nat) (s t : zS) (x1 x2 : Int32) (R : Int32) (hF : f_X6_standing M t x1 x2 = some R) : zcall (ztb L xs) 1 132 [.ref 6, .int x1, .int x2] (zHp s t) = some (some (.int R), zHp s t) := by
  unfold f_X6_standing at hF
  refine zcall_X (d := 0) (e := zm_X6_standing) rfl rfl ?_
  show zX (ztb L xs) (zcall (ztb L xs) 0) 6 1 zk_X6_standing 0 [.ref 6, .int x1, .int x2, .retAddr 0, .retAddr 0] [] (zHp s t) _
  refine zX_go (c := 4) (pc' := 5) (lv' := [.ref 6, .int x1, .int x2, .int (nI 0), .int (nI 0)]) (st' := []) (h' := zHp s t) rfl ?_
  exact tl_X6_standing M s M t x1 x2 (nI 0) (nI 0) _ hF
def l_X6_stander (M : Nat) : Nat → zS → Int32 → Int32 → Int32 → Int32 → Int32 → Option (Int32)
  | 0, _, _, _, _, _, _ => none
  | N + 1, t, y1, y2, y3, y4, y5 =>
    if y5 < (t 32 0) then
     zq (zin y5 100) <|
     if (t 33 y5.toNatClampNeg) = y1 then
      zq (zin y5 100) <|
      zq (zin (t 34 y5.toNatClampNeg) 100) <|
      if (t 17 (t 34 y5.toNatClampNeg).toNatClampNeg) = y2 then
       if y4 = y3 then
        zq (zin y5 100) <|
        some (t 34 y5.toNatClampNeg)
       else
        l_X6_stander M N t y1 y2 y3 (y4 + (nI 1)) (y5 + (nI 1))
      else
       l_X6_stander M N t y1 y2 y3 y4 (y5 + (nI 1))
     else
      l_X6_stander M N t y1 y2 y3 y4 (y5 + (nI 1))
    else
     some (-1)
set_option maxRecDepth 100000 in
set_option maxHeartbeats 4000000 in
theorem tl_X6_stander {L : Nat} {xs : Nat → Int32} (M : Nat) (s : zS) : ∀ (N : Nat) (t : zS) (y1 : Int32) (y2 : Int32) (y3 : Int32) (y4 : Int32) (y5 : Int32) (R : Int32) (hF : l_X6_stander M N t y1 y2 y3 y4 y5 = some R), zX (ztb L xs) (zcall (ztb L xs) 0) 6 1 zk_X6_stander 6 [.ref 6, .int y1, .int y2, .int y3, .int y4, .int y5] [] (zHp s t) (some (.int R), zHp s t) := by
  intro N
  induction N with
  | zero => intro t y1 y2 y3 y4 y5 R hF; cases hF
  | succ N ih =>
    intro t y1 y2 y3 y4 y5 R hF
    unfold l_X6_stander at hF
    refine zX_go (c := 4) (pc' := if y5 < (t 32 0) then 15 else 65) (lv' := [.ref 6, .int y1, .int y2, .int y3, .int y4, .int y5]) (st' := []) (h' := zHp s t) rfl ?_
    refine zX_ite hF (fun c0 hF => ?_) (fun c0 hF => ?_)
    · refine zX_go (c := 3) (pc' := 21) (lv' := [.ref 6, .int y1, .int y2, .int y3, .int y4, .int y5]) (st' := [.int y5, .ref 58]) (h' := zHp s t) rfl ?_
      refine zX_ial (n := 100) rfl rfl hF (fun hF => ?_)
      refine zX_go (c := 2) (pc' := if (t 33 y5.toNatClampNeg) = y1 then 26 else 59) (lv' := [.ref 6, .int y1, .int y2, .int y3, .int y4, .int y5]) (st' := []) (h' := zHp s t) rfl ?_
      refine zX_ite hF (fun c0 hF => ?_) (fun c0 hF => ?_)
      · refine zX_go (c := 5) (pc' := 36) (lv' := [.ref 6, .int y1, .int y2, .int y3, .int y4, .int y5]) (st' := [.int y5, .ref 59, .ref 47]) (h' := zHp s t) rfl ?_
        refine zX_ial (n := 100) rfl rfl hF (fun hF => ?_)
        refine zX_ial (n := 100) rfl rfl hF (fun hF => ?_)
        refine zX_go (c := 2) (pc' := if (t 17 (t 34 y5.toNatClampNeg).toNatClampNeg) = y2 then 42 else 59) (lv' := [.ref 6, .int y1, .int y2, .int y3, .int y4, .int y5]) (st' := []) (h' := zHp s t) rfl ?_
        refine zX_ite hF (fun c0 hF => ?_) (fun c0 hF => ?_)
        · refine zX_go (c := 3) (pc' := if y4 = y3 then 48 else 56) (lv' := [.ref 6, .int y1, .int y2, .int y3, .int y4, .int y5]) (st' := []) (h' := zHp s t) rfl ?_
          refine zX_ite hF (fun c0 hF => ?_) (fun c0 hF => ?_)
          · refine zX_go (c := 3) (pc' := 54) (lv' := [.ref 6, .int y1, .int y2, .int y3, .int y4, .int y5]) (st' := [.int y5, .ref 59]) (h' := zHp s t) rfl ?_
            refine zX_ial (n := 100) rfl rfl hF (fun hF => ?_)
            obtain rfl := Option.some.inj hF
            exact zX_reti rfl
          · refine zX_go (c := 3) (pc' := 6) (lv' := [.ref 6, .int y1, .int y2, .int y3, .int (y4 + (nI 1)), .int (y5 + (nI 1))]) (st' := []) (h' := zHp s t) rfl ?_
            exact ih t y1 y2 y3 (y4 + (nI 1)) (y5 + (nI 1)) _ hF
        · refine zX_go (c := 2) (pc' := 6) (lv' := [.ref 6, .int y1, .int y2, .int y3, .int y4, .int (y5 + (nI 1))]) (st' := []) (h' := zHp s t) rfl ?_
          exact ih t y1 y2 y3 y4 (y5 + (nI 1)) _ hF
      · refine zX_go (c := 2) (pc' := 6) (lv' := [.ref 6, .int y1, .int y2, .int y3, .int y4, .int (y5 + (nI 1))]) (st' := []) (h' := zHp s t) rfl ?_
        exact ih t y1 y2 y3 y4 (y5 + (nI 1)) _ hF
    · refine zX_go (c := 1) (pc' := 66) (lv' := [.ref 6, .int y1, .int y2, .int y3, .int y4, .int y5]) (st' := [.int (-1)]) (h' := zHp s t) rfl ?_
      obtain rfl := Option.some.inj hF
      exact zX_reti rfl
def f_X6_stander (M : Nat) (t : zS) (x1 x2 x3 : Int32) : Option (Int32) :=
  l_X6_stander M M t x1 x2 x3 (nI 0) (nI 0)
set_option maxRecDepth 100000 in
set_option maxHeartbeats 4000000 in
theorem t_X6_stander {L : Nat} {xs : Nat → Int32} (M : Nat) (s t : zS) (x1 x2 x3 : Int32) (R : Int32) (hF : f_X6_stander M t x1 x2 x3 = some R) : zcall (ztb L xs) 1 133 [.ref 6, .int x1, .int x2, .int x3] (zHp s t) = some (some (.int R), zHp s t) := by
  unfold f_X6_stander at hF
  refine zcall_X (d := 0) (e := zm_X6_stander) rfl rfl ?_
  show zX (ztb L xs) (zcall (ztb L xs) 0) 6 1 zk_X6_stander 0 [.ref 6, .int x1, .int x2, .int x3, .retAddr 0, .retAddr 0] [] (zHp s t) _
  refine zX_go (c := 4) (pc' := 6) (lv' := [.ref 6, .int x1, .int x2, .int x3, .int (nI 0), .int (nI 0)]) (st' := []) (h' := zHp s t) rfl ?_
  exact tl_X6_stander M s M t x1 x2 x3 (nI 0) (nI 0) _ hF
def f_X6_mayStand (M : Nat) (t : zS) (x1 x2 : Int32) : Option (Int32) :=
  zq (zin x1 40) <|
  if (t 13 x1.toNatClampNeg) < (nI 2) then
   zq (zin x2 12) <|
   if ((t 1 x2.toNatClampNeg) &&& (nI 1)) = 0 then
    some (nI 0)
   else
    some (nI 1)
  else
   if (t 13 x1.toNatClampNeg) = (nI 2) then
    zq (zin x2 12) <|
    if ((t 1 x2.toNatClampNeg) &&& (nI 18)) = 0 then
     some (nI 0)
    else
     some (nI 1)
   else
    if (t 13 x1.toNatClampNeg) = (nI 3) then
     zq (zin x2 12) <|
     if ((t 1 x2.toNatClampNeg) &&& (nI 20)) = 0 then
      some (nI 0)
     else
      some (nI 1)
    else
     if (t 13 x1.toNatClampNeg) = (nI 4) then
      zq (zin x2 12) <|
      if ((t 1 x2.toNatClampNeg) &&& (nI 4)) = 0 then
       some (nI 0)
      else
       some (nI 1)
     else
      zq (zin x2 12) <|
      if ((t 1 x2.toNatClampNeg) &&& (nI 24)) = 0 then
       some (nI 0)
      else
       some (nI 1)
set_option maxRecDepth 100000 in
set_option maxHeartbeats 4000000 in
theorem t_X6_mayStand {L : Nat} {xs : Nat → Int32} (M : Nat) (s t : zS) (x1 x2 : Int32) (R : Int32) (hF : f_X6_mayStand M t x1 x2 = some R) : zcall (ztb L xs) 1 134 [.ref 6, .int x1, .int x2] (zHp s t) = some (some (.int R), zHp s t) := by
  unfold f_X6_mayStand at hF
  refine zcall_X (d := 0) (e := zm_X6_mayStand) rfl rfl ?_
  show zX (ztb L xs) (zcall (ztb L xs) 0) 6 2 zk_X6_mayStand 0 [.ref 6, .int x1, .int x2, .retAddr 0, .retAddr 0] [] (zHp s t) _
  refine zX_go (c := 3) (pc' := 5) (lv' := [.ref 6, .int x1, .int x2, .retAddr 0, .retAddr 0]) (st' := [.int x1, .ref 44]) (h' := zHp s t) rfl ?_
  refine zX_ial (n := 40) rfl rfl hF (fun hF => ?_)
  refine zX_go (c := 4) (pc' := if (t 13 x1.toNatClampNeg) < (nI 2) then 12 else 16) (lv' := [.ref 6, .int x1, .int x2, .int (t 13 x1.toNatClampNeg), .retAddr 0]) (st' := []) (h' := zHp s t) rfl ?_
  refine zX_ite hF (fun c0 hF => ?_) (fun c0 hF => ?_)
  · refine zX_go (c := 6) (pc' := 54) (lv' := [.ref 6, .int x1, .int x2, .int (t 13 x1.toNatClampNeg), .int (nI 1)]) (st' := [.int x2, .ref 33]) (h' := zHp s t) rfl ?_
    refine zX_ial (n := 12) rfl rfl hF (fun hF => ?_)
    refine zX_go (c := 3) (pc' := if ((t 1 x2.toNatClampNeg) &&& (nI 1)) = 0 then 65 else 61) (lv' := [.ref 6, .int x1, .int x2, .int (t 13 x1.toNatClampNeg), .int (nI 1)]) (st' := []) (h' := zHp s t) rfl ?_
    refine zX_ite hF (fun c0 hF => ?_) (fun c0 hF => ?_)
    · refine zX_go (c := 1) (pc' := 66) (lv' := [.ref 6, .int x1, .int x2, .int (t 13 x1.toNatClampNeg), .int (nI 1)]) (st' := [.int (nI 0)]) (h' := zHp s t) rfl ?_
      obtain rfl := Option.some.inj hF
      exact zX_retz rfl (by decide)
    · refine zX_go (c := 2) (pc' := 66) (lv' := [.ref 6, .int x1, .int x2, .int (t 13 x1.toNatClampNeg), .int (nI 1)]) (st' := [.int (nI 1)]) (h' := zHp s t) rfl ?_
      obtain rfl := Option.some.inj hF
      exact zX_retz rfl (by decide)
  · refine zX_go (c := 3) (pc' := if (t 13 x1.toNatClampNeg) = (nI 2) then 21 else 26) (lv' := [.ref 6, .int x1, .int x2, .int (t 13 x1.toNatClampNeg), .retAddr 0]) (st' := []) (h' := zHp s t) rfl ?_
    refine zX_ite hF (fun c0 hF => ?_) (fun c0 hF => ?_)
    · refine zX_go (c := 6) (pc' := 54) (lv' := [.ref 6, .int x1, .int x2, .int (t 13 x1.toNatClampNeg), .int (nI 18)]) (st' := [.int x2, .ref 33]) (h' := zHp s t) rfl ?_
      refine zX_ial (n := 12) rfl rfl hF (fun hF => ?_)
      refine zX_go (c := 3) (pc' := if ((t 1 x2.toNatClampNeg) &&& (nI 18)) = 0 then 65 else 61) (lv' := [.ref 6, .int x1, .int x2, .int (t 13 x1.toNatClampNeg), .int (nI 18)]) (st' := []) (h' := zHp s t) rfl ?_
      refine zX_ite hF (fun c0 hF => ?_) (fun c0 hF => ?_)
      · refine zX_go (c := 1) (pc' := 66) (lv' := [.ref 6, .int x1, .int x2, .int (t 13 x1.toNatClampNeg), .int (nI 18)]) (st' := [.int (nI 0)]) (h' := zHp s t) rfl ?_
        obtain rfl := Option.some.inj hF
        exact zX_retz rfl (by decide)
      · refine zX_go (c := 2) (pc' := 66) (lv' := [.ref 6, .int x1, .int x2, .int (t 13 x1.toNatClampNeg), .int (nI 18)]) (st' := [.int (nI 1)]) (h' := zHp s t) rfl ?_
        obtain rfl := Option.some.inj hF
        exact zX_retz rfl (by decide)
    · refine zX_go (c := 3) (pc' := if (t 13 x1.toNatClampNeg) = (nI 3) then 31 else 36) (lv' := [.ref 6, .int x1, .int x2, .int (t 13 x1.toNatClampNeg), .retAddr 0]) (st' := []) (h' := zHp s t) rfl ?_
      refine zX_ite hF (fun c0 hF => ?_) (fun c0 hF => ?_)
      · refine zX_go (c := 6) (pc' := 54) (lv' := [.ref 6, .int x1, .int x2, .int (t 13 x1.toNatClampNeg), .int (nI 20)]) (st' := [.int x2, .ref 33]) (h' := zHp s t) rfl ?_
        refine zX_ial (n := 12) rfl rfl hF (fun hF => ?_)
        refine zX_go (c := 3) (pc' := if ((t 1 x2.toNatClampNeg) &&& (nI 20)) = 0 then 65 else 61) (lv' := [.ref 6, .int x1, .int x2, .int (t 13 x1.toNatClampNeg), .int (nI 20)]) (st' := []) (h' := zHp s t) rfl ?_
        refine zX_ite hF (fun c0 hF => ?_) (fun c0 hF => ?_)
        · refine zX_go (c := 1) (pc' := 66) (lv' := [.ref 6, .int x1, .int x2, .int (t 13 x1.toNatClampNeg), .int (nI 20)]) (st' := [.int (nI 0)]) (h' := zHp s t) rfl ?_
          obtain rfl := Option.some.inj hF
          exact zX_retz rfl (by decide)
        · refine zX_go (c := 2) (pc' := 66) (lv' := [.ref 6, .int x1, .int x2, .int (t 13 x1.toNatClampNeg), .int (nI 20)]) (st' := [.int (nI 1)]) (h' := zHp s t) rfl ?_
          obtain rfl := Option.some.inj hF
          exact zX_retz rfl (by decide)
      · refine zX_go (c := 3) (pc' := if (t 13 x1.toNatClampNeg) = (nI 4) then 41 else 45) (lv' := [.ref 6, .int x1, .int x2, .int (t 13 x1.toNatClampNeg), .retAddr 0]) (st' := []) (h' := zHp s t) rfl ?_
        refine zX_ite hF (fun c0 hF => ?_) (fun c0 hF => ?_)
        · refine zX_go (c := 6) (pc' := 54) (lv' := [.ref 6, .int x1, .int x2, .int (t 13 x1.toNatClampNeg), .int (nI 4)]) (st' := [.int x2, .ref 33]) (h' := zHp s t) rfl ?_
          refine zX_ial (n := 12) rfl rfl hF (fun hF => ?_)
          refine zX_go (c := 3) (pc' := if ((t 1 x2.toNatClampNeg) &&& (nI 4)) = 0 then 65 else 61) (lv' := [.ref 6, .int x1, .int x2, .int (t 13 x1.toNatClampNeg), .int (nI 4)]) (st' := []) (h' := zHp s t) rfl ?_
          refine zX_ite hF (fun c0 hF => ?_) (fun c0 hF => ?_)
          · refine zX_go (c := 1) (pc' := 66) (lv' := [.ref 6, .int x1, .int x2, .int (t 13 x1.toNatClampNeg), .int (nI 4)]) (st' := [.int (nI 0)]) (h' := zHp s t) rfl ?_
            obtain rfl := Option.some.inj hF
            exact zX_retz rfl (by decide)
          · refine zX_go (c := 2) (pc' := 66) (lv' := [.ref 6, .int x1, .int x2, .int (t 13 x1.toNatClampNeg), .int (nI 4)]) (st' := [.int (nI 1)]) (h' := zHp s t) rfl ?_
            obtain rfl := Option.some.inj hF
            exact zX_retz rfl (by decide)
        · refine zX_go (c := 5) (pc' := 54) (lv' := [.ref 6, .int x1, .int x2, .int (t 13 x1.toNatClampNeg), .int (nI 24)]) (st' := [.int x2, .ref 33]) (h' := zHp s t) rfl ?_
          refine zX_ial (n := 12) rfl rfl hF (fun hF => ?_)
          refine zX_go (c := 3) (pc' := if ((t 1 x2.toNatClampNeg) &&& (nI 24)) = 0 then 65 else 61) (lv' := [.ref 6, .int x1, .int x2, .int (t 13 x1.toNatClampNeg), .int (nI 24)]) (st' := []) (h' := zHp s t) rfl ?_
          refine zX_ite hF (fun c0 hF => ?_) (fun c0 hF => ?_)
          · refine zX_go (c := 1) (pc' := 66) (lv' := [.ref 6, .int x1, .int x2, .int (t 13 x1.toNatClampNeg), .int (nI 24)]) (st' := [.int (nI 0)]) (h' := zHp s t) rfl ?_
            obtain rfl := Option.some.inj hF
            exact zX_retz rfl (by decide)
          · refine zX_go (c := 2) (pc' := 66) (lv' := [.ref 6, .int x1, .int x2, .int (t 13 x1.toNatClampNeg), .int (nI 24)]) (st' := [.int (nI 1)]) (h' := zHp s t) rfl ?_
            obtain rfl := Option.some.inj hF
            exact zX_retz rfl (by decide)
def f_X6_put (M : Nat) (t : zS) (x1 x2 : Int32) : Option (Int32 × zS) :=
  zbd (f_X6_isPlace M t x1) (fun q1 =>
   if q1 = 0 then
    some ((-2), t)
   else
    zbd (f_X6_isSort M t x2 (nI 2)) (fun q2 =>
     if q2 = 0 then
      some ((-2), t)
     else
      zq (zin x2 100) <|
      if (t 19 x2.toNatClampNeg) = 0 then
       zq (zin x2 100) <|
       zbd (f_X6_standing M t x1 (t 17 x2.toNatClampNeg)) (fun q3 =>
        zbd (f_X6_mayStand M t x1 (t 17 x2.toNatClampNeg)) (fun q4 =>
         if q4 = 0 then
          some ((-11), t)
         else
          zbd (f_X6_isWhole M t x2) (fun q5 =>
           if q5.1 = 0 then
            some ((-12), q5.2)
           else
            if 0 < q3 then
             zq (zin (t 17 x2.toNatClampNeg) 12) <|
             if (q5.2 4 (t 17 x2.toNatClampNeg).toNatClampNeg) = (-1) then
              some ((-13), q5.2)
             else
              zq (zin (t 17 x2.toNatClampNeg) 12) <|
              if (q5.2 4 (t 17 x2.toNatClampNeg).toNatClampNeg) = (-1) then
               zq (zin (t 17 x2.toNatClampNeg) 12) <|
               if (q5.2 5 (t 17 x2.toNatClampNeg).toNatClampNeg) = (-1) then
                if q3 = (nI 4) then
                 some ((-3), q5.2)
                else
                 zq (zin (q5.2 32 0) 100) <|
                 zq (zin (q5.2 32 0) 100) <|
                 zbd (f_X6_done M (zup (zup (zup q5.2 33 (q5.2 32 0).toNatClampNeg x1) 34 (q5.2 32 0).toNatClampNeg x2) 32 0 ((q5.2 32 0) + (nI 1))) x2) (fun q6 =>
                  some (q3 + (nI 1), q6))
               else
                zq (zin (t 17 x2.toNatClampNeg) 12) <|
                zbd (f_X6_standing M q5.2 x1 (q5.2 5 (t 17 x2.toNatClampNeg).toNatClampNeg)) (fun q7 =>
                 if 0 < q7 then
                  some ((-15), q5.2)
                 else
                  if q3 = (nI 4) then
                   some ((-3), q5.2)
                  else
                   zq (zin (q5.2 32 0) 100) <|
                   zq (zin (q5.2 32 0) 100) <|
                   zbd (f_X6_done M (zup (zup (zup q5.2 33 (q5.2 32 0).toNatClampNeg x1) 34 (q5.2 32 0).toNatClampNeg x2) 32 0 ((q5.2 32 0) + (nI 1))) x2) (fun q8 =>
                    some (q3 + (nI 1), q8)))
              else
               zq (zin (t 17 x2.toNatClampNeg) 12) <|
               zbd (f_X6_standing M q5.2 x1 (q5.2 4 (t 17 x2.toNatClampNeg).toNatClampNeg)) (fun q9 =>
                if 0 < q9 then
                 some ((-14), q5.2)
                else
                 zq (zin (t 17 x2.toNatClampNeg) 12) <|
                 if (q5.2 5 (t 17 x2.toNatClampNeg).toNatClampNeg) = (-1) then
                  if q3 = (nI 4) then
                   some ((-3), q5.2)
                  else
                   zq (zin (q5.2 32 0) 100) <|
                   zq (zin (q5.2 32 0) 100) <|
                   zbd (f_X6_done M (zup (zup (zup q5.2 33 (q5.2 32 0).toNatClampNeg x1) 34 (q5.2 32 0).toNatClampNeg x2) 32 0 ((q5.2 32 0) + (nI 1))) x2) (fun q10 =>
                    some (q3 + (nI 1), q10))
                 else
                  zq (zin (t 17 x2.toNatClampNeg) 12) <|
                  zbd (f_X6_standing M q5.2 x1 (q5.2 5 (t 17 x2.toNatClampNeg).toNatClampNeg)) (fun q11 =>
                   if 0 < q11 then
                    some ((-15), q5.2)
                   else
                    if q3 = (nI 4) then
                     some ((-3), q5.2)
                    else
                     zq (zin (q5.2 32 0) 100) <|
                     zq (zin (q5.2 32 0) 100) <|
                     zbd (f_X6_done M (zup (zup (zup q5.2 33 (q5.2 32 0).toNatClampNeg x1) 34 (q5.2 32 0).toNatClampNeg x2) 32 0 ((q5.2 32 0) + (nI 1))) x2) (fun q12 =>
                      some (q3 + (nI 1), q12))))
            else
             zq (zin (t 17 x2.toNatClampNeg) 12) <|
             if (q5.2 4 (t 17 x2.toNatClampNeg).toNatClampNeg) = (-1) then
              zq (zin (t 17 x2.toNatClampNeg) 12) <|
              if (q5.2 5 (t 17 x2.toNatClampNeg).toNatClampNeg) = (-1) then
               if q3 = (nI 4) then
                some ((-3), q5.2)
               else
                zq (zin (q5.2 32 0) 100) <|
                zq (zin (q5.2 32 0) 100) <|
                zbd (f_X6_done M (zup (zup (zup q5.2 33 (q5.2 32 0).toNatClampNeg x1) 34 (q5.2 32 0).toNatClampNeg x2) 32 0 ((q5.2 32 0) + (nI 1))) x2) (fun q13 =>
                 some (q3 + (nI 1), q13))
              else
               zq (zin (t 17 x2.toNatClampNeg) 12) <|
               zbd (f_X6_standing M q5.2 x1 (q5.2 5 (t 17 x2.toNatClampNeg).toNatClampNeg)) (fun q14 =>
                if 0 < q14 then
                 some ((-15), q5.2)
                else
                 if q3 = (nI 4) then
                  some ((-3), q5.2)
                 else
                  zq (zin (q5.2 32 0) 100) <|
                  zq (zin (q5.2 32 0) 100) <|
                  zbd (f_X6_done M (zup (zup (zup q5.2 33 (q5.2 32 0).toNatClampNeg x1) 34 (q5.2 32 0).toNatClampNeg x2) 32 0 ((q5.2 32 0) + (nI 1))) x2) (fun q15 =>
                   some (q3 + (nI 1), q15)))
             else
              zq (zin (t 17 x2.toNatClampNeg) 12) <|
              zbd (f_X6_standing M q5.2 x1 (q5.2 4 (t 17 x2.toNatClampNeg).toNatClampNeg)) (fun q16 =>
               if 0 < q16 then
                some ((-14), q5.2)
               else
                zq (zin (t 17 x2.toNatClampNeg) 12) <|
                if (q5.2 5 (t 17 x2.toNatClampNeg).toNatClampNeg) = (-1) then
                 if q3 = (nI 4) then
                  some ((-3), q5.2)
                 else
                  zq (zin (q5.2 32 0) 100) <|
                  zq (zin (q5.2 32 0) 100) <|
                  zbd (f_X6_done M (zup (zup (zup q5.2 33 (q5.2 32 0).toNatClampNeg x1) 34 (q5.2 32 0).toNatClampNeg x2) 32 0 ((q5.2 32 0) + (nI 1))) x2) (fun q17 =>
                   some (q3 + (nI 1), q17))
                else
                 zq (zin (t 17 x2.toNatClampNeg) 12) <|
                 zbd (f_X6_standing M q5.2 x1 (q5.2 5 (t 17 x2.toNatClampNeg).toNatClampNeg)) (fun q18 =>
                  if 0 < q18 then
                   some ((-15), q5.2)
                  else
                   if q3 = (nI 4) then
                    some ((-3), q5.2)
                   else
                    zq (zin (q5.2 32 0) 100) <|
                    zq (zin (q5.2 32 0) 100) <|
                    zbd (f_X6_done M (zup (zup (zup q5.2 33 (q5.2 32 0).toNatClampNeg x1) 34 (q5.2 32 0).toNatClampNeg x2) 32 0 ((q5.2 32 0) + (nI 1))) x2) (fun q19 =>
                     some (q3 + (nI 1), q19)))))))
      else
       some ((-4), t)))
set_option maxRecDepth 100000 in
set_option maxHeartbeats 4000000 in
theorem t_X6_put {L : Nat} {xs : Nat → Int32} (M : Nat) (s t : zS) (x1 x2 : Int32) (R : Int32 × zS) (hF : f_X6_put M t x1 x2 = some R) : zcall (ztb L xs) 3 135 [.ref 6, .int x1, .int x2] (zHp s t) = some (some (.int R.1), zHp s R.2) := by
  unfold f_X6_put at hF
  refine zcall_X (d := 2) (e := zm_X6_put) rfl rfl ?_
  show zX (ztb L xs) (zcall (ztb L xs) 2) 6 1 zk_X6_put 0 [.ref 6, .int x1, .int x2, .retAddr 0, .retAddr 0] [] (zHp s t) _
  refine zX_go (c := 2) (pc' := 2) (lv' := [.ref 6, .int x1, .int x2, .retAddr 0, .retAddr 0]) (st' := [.int x1, .ref 6]) (h' := zHp s t) rfl ?_
  obtain ⟨q1, hq, hF⟩ := zbd_ok hF
  refine zX_inv (av := [.ref 6, .int x1]) (st := []) (h' := zHp s t) rfl rfl rfl rfl rfl rfl (zcall_le (t_X6_isPlace M _ _ _ _ hq) (by decide)) ?_
  refine zX_go (c := 1) (pc' := if q1 = 0 then 17 else 8) (lv' := [.ref 6, .int x1, .int x2, .retAddr 0, .retAddr 0]) (st' := []) (h' := zHp s t) rfl ?_
  refine zX_ite hF (fun c0 hF => ?_) (fun c0 hF => ?_)
  · refine zX_go (c := 1) (pc' := 19) (lv' := [.ref 6, .int x1, .int x2, .retAddr 0, .retAddr 0]) (st' := [.int (-2)]) (h' := zHp s t) rfl ?_
    obtain rfl := Option.some.inj hF
    exact zX_reti rfl
  · refine zX_go (c := 3) (pc' := 11) (lv' := [.ref 6, .int x1, .int x2, .retAddr 0, .retAddr 0]) (st' := [.int (nI 2), .int x2, .ref 6]) (h' := zHp s t) rfl ?_
    obtain ⟨q2, hq, hF⟩ := zbd_ok hF
    refine zX_inv (av := [.ref 6, .int x2, .int (nI 2)]) (st := []) (h' := zHp s t) rfl rfl rfl rfl rfl rfl (zcall_le (t_X6_isSort M _ _ _ _ _ hq) (by decide)) ?_
    refine zX_go (c := 1) (pc' := if q2 = 0 then 17 else 20) (lv' := [.ref 6, .int x1, .int x2, .retAddr 0, .retAddr 0]) (st' := []) (h' := zHp s t) rfl ?_
    refine zX_ite hF (fun c0 hF => ?_) (fun c0 hF => ?_)
    · refine zX_go (c := 1) (pc' := 19) (lv' := [.ref 6, .int x1, .int x2, .retAddr 0, .retAddr 0]) (st' := [.int (-2)]) (h' := zHp s t) rfl ?_
      obtain rfl := Option.some.inj hF
      exact zX_reti rfl
    · refine zX_go (c := 3) (pc' := 25) (lv' := [.ref 6, .int x1, .int x2, .retAddr 0, .retAddr 0]) (st' := [.int x2, .ref 49]) (h' := zHp s t) rfl ?_
      refine zX_bal (n := 100) rfl rfl hF (fun hF => ?_)
      refine zX_go (c := 1) (pc' := if (t 19 x2.toNatClampNeg) = 0 then 32 else 29) (lv' := [.ref 6, .int x1, .int x2, .retAddr 0, .retAddr 0]) (st' := []) (h' := zHp s t) rfl ?_
      refine zX_ite hF (fun c0 hF => ?_) (fun c0 hF => ?_)
      · refine zX_go (c := 3) (pc' := 37) (lv' := [.ref 6, .int x1, .int x2, .retAddr 0, .retAddr 0]) (st' := [.int x2, .ref 47]) (h' := zHp s t) rfl ?_
        refine zX_ial (n := 100) rfl rfl hF (fun hF => ?_)
        refine zX_go (c := 4) (pc' := 42) (lv' := [.ref 6, .int x1, .int x2, .int (t 17 x2.toNatClampNeg), .retAddr 0]) (st' := [.int (t 17 x2.toNatClampNeg), .int x1, .ref 6]) (h' := zHp s t) rfl ?_
        obtain ⟨q3, hq, hF⟩ := zbd_ok hF
        refine zX_inv (av := [.ref 6, .int x1, .int (t 17 x2.toNatClampNeg)]) (st := []) (h' := zHp s t) rfl rfl rfl rfl rfl rfl (zcall_le (t_X6_standing M _ _ _ _ _ hq) (by decide)) ?_
        refine zX_go (c := 4) (pc' := 50) (lv' := [.ref 6, .int x1, .int x2, .int (t 17 x2.toNatClampNeg), .int q3]) (st' := [.int (t 17 x2.toNatClampNeg), .int x1, .ref 6]) (h' := zHp s t) rfl ?_
        obtain ⟨q4, hq, hF⟩ := zbd_ok hF
        refine zX_inv (av := [.ref 6, .int x1, .int (t 17 x2.toNatClampNeg)]) (st := []) (h' := zHp s t) rfl rfl rfl rfl rfl rfl (zcall_le (t_X6_mayStand M _ _ _ _ _ hq) (by decide)) ?_
        refine zX_go (c := 1) (pc' := if q4 = 0 then 56 else 59) (lv' := [.ref 6, .int x1, .int x2, .int (t 17 x2.toNatClampNeg), .int q3]) (st' := []) (h' := zHp s t) rfl ?_
        refine zX_ite hF (fun c0 hF => ?_) (fun c0 hF => ?_)
        · refine zX_go (c := 1) (pc' := 58) (lv' := [.ref 6, .int x1, .int x2, .int (t 17 x2.toNatClampNeg), .int q3]) (st' := [.int (-11)]) (h' := zHp s t) rfl ?_
          obtain rfl := Option.some.inj hF
          exact zX_reti rfl
        · refine zX_go (c := 2) (pc' := 61) (lv' := [.ref 6, .int x1, .int x2, .int (t 17 x2.toNatClampNeg), .int q3]) (st' := [.int x2, .ref 6]) (h' := zHp s t) rfl ?_
          obtain ⟨q5, hq, hF⟩ := zbd_ok hF
          refine zX_inv (av := [.ref 6, .int x2]) (st := []) (h' := zHp s q5.2) rfl rfl rfl rfl rfl rfl (zcall_le (t_X6_isWhole M _ _ _ _ hq) (by decide)) ?_
          refine zX_go (c := 1) (pc' := if q5.1 = 0 then 67 else 70) (lv' := [.ref 6, .int x1, .int x2, .int (t 17 x2.toNatClampNeg), .int q3]) (st' := []) (h' := zHp s q5.2) rfl ?_
          refine zX_ite hF (fun c0 hF => ?_) (fun c0 hF => ?_)
          · refine zX_go (c := 1) (pc' := 69) (lv' := [.ref 6, .int x1, .int x2, .int (t 17 x2.toNatClampNeg), .int q3]) (st' := [.int (-12)]) (h' := zHp s q5.2) rfl ?_
            obtain rfl := Option.some.inj hF
            exact zX_reti rfl
          · refine zX_go (c := 2) (pc' := if 0 < q3 then 75 else 88) (lv' := [.ref 6, .int x1, .int x2, .int (t 17 x2.toNatClampNeg), .int q3]) (st' := []) (h' := zHp s q5.2) rfl ?_
            refine zX_ite hF (fun c0 hF => ?_) (fun c0 hF => ?_)
            · refine zX_go (c := 3) (pc' := 80) (lv' := [.ref 6, .int x1, .int x2, .int (t 17 x2.toNatClampNeg), .int q3]) (st' := [.int (t 17 x2.toNatClampNeg), .ref 36]) (h' := zHp s q5.2) rfl ?_
              refine zX_ial (n := 12) rfl rfl hF (fun hF => ?_)
              refine zX_go (c := 2) (pc' := if (q5.2 4 (t 17 x2.toNatClampNeg).toNatClampNeg) = (-1) then 85 else 88) (lv' := [.ref 6, .int x1, .int x2, .int (t 17 x2.toNatClampNeg), .int q3]) (st' := []) (h' := zHp s q5.2) rfl ?_
              refine zX_ite hF (fun c0 hF => ?_) (fun c0 hF => ?_)
              · refine zX_go (c := 1) (pc' := 87) (lv' := [.ref 6, .int x1, .int x2, .int (t 17 x2.toNatClampNeg), .int q3]) (st' := [.int (-13)]) (h' := zHp s q5.2) rfl ?_
                obtain rfl := Option.some.inj hF
                exact zX_reti rfl
              · refine zX_go (c := 3) (pc' := 93) (lv' := [.ref 6, .int x1, .int x2, .int (t 17 x2.toNatClampNeg), .int q3]) (st' := [.int (t 17 x2.toNatClampNeg), .ref 36]) (h' := zHp s q5.2) rfl ?_
                refine zX_ial (n := 12) rfl rfl hF (fun hF => ?_)
                refine zX_go (c := 2) (pc' := if (q5.2 4 (t 17 x2.toNatClampNeg).toNatClampNeg) = (-1) then 115 else 98) (lv' := [.ref 6, .int x1, .int x2, .int (t 17 x2.toNatClampNeg), .int q3]) (st' := []) (h' := zHp s q5.2) rfl ?_
                refine zX_ite hF (fun c0 hF => ?_) (fun c0 hF => ?_)
                · refine zX_go (c := 3) (pc' := 120) (lv' := [.ref 6, .int x1, .int x2, .int (t 17 x2.toNatClampNeg), .int q3]) (st' := [.int (t 17 x2.toNatClampNeg), .ref 37]) (h' := zHp s q5.2) rfl ?_
                  refine zX_ial (n := 12) rfl rfl hF (fun hF => ?_)
                  refine zX_go (c := 2) (pc' := if (q5.2 5 (t 17 x2.toNatClampNeg).toNatClampNeg) = (-1) then 142 else 125) (lv' := [.ref 6, .int x1, .int x2, .int (t 17 x2.toNatClampNeg), .int q3]) (st' := []) (h' := zHp s q5.2) rfl ?_
                  refine zX_ite hF (fun c0 hF => ?_) (fun c0 hF => ?_)
                  · refine zX_go (c := 3) (pc' := if q3 = (nI 4) then 148 else 151) (lv' := [.ref 6, .int x1, .int x2, .int (t 17 x2.toNatClampNeg), .int q3]) (st' := []) (h' := zHp s q5.2) rfl ?_
                    refine zX_ite hF (fun c0 hF => ?_) (fun c0 hF => ?_)
                    · refine zX_go (c := 1) (pc' := 150) (lv' := [.ref 6, .int x1, .int x2, .int (t 17 x2.toNatClampNeg), .int q3]) (st' := [.int (-3)]) (h' := zHp s q5.2) rfl ?_
                      obtain rfl := Option.some.inj hF
                      exact zX_reti rfl
                    · refine zX_go (c := 5) (pc' := 160) (lv' := [.ref 6, .int x1, .int x2, .int (t 17 x2.toNatClampNeg), .int q3]) (st' := [.int x1, .int (q5.2 32 0), .ref 58]) (h' := zHp s q5.2) rfl ?_
                      refine zX_ias (n := 100) (h' := zHp s (zup q5.2 33 (q5.2 32 0).toNatClampNeg x1)) rfl rfl (zst_58 _ _ _ _) hF (fun hF => ?_)
                      refine zX_go (c := 5) (pc' := 170) (lv' := [.ref 6, .int x1, .int x2, .int (t 17 x2.toNatClampNeg), .int q3]) (st' := [.int x2, .int (q5.2 32 0), .ref 59]) (h' := zHp s (zup q5.2 33 (q5.2 32 0).toNatClampNeg x1)) rfl ?_
                      refine zX_ias (n := 100) (h' := zHp s (zup (zup q5.2 33 (q5.2 32 0).toNatClampNeg x1) 34 (q5.2 32 0).toNatClampNeg x2)) rfl rfl (zst_59 _ _ _ _) hF (fun hF => ?_)
                      refine zX_go (c := 5) (pc' := 178) (lv' := [.ref 6, .int x1, .int x2, .int (t 17 x2.toNatClampNeg), .int q3]) (st' := [.int ((q5.2 32 0) + (nI 1)), .ref 6]) (h' := zHp s (zup (zup q5.2 33 (q5.2 32 0).toNatClampNeg x1) 34 (q5.2 32 0).toNatClampNeg x2)) rfl ?_
                      refine zX_pfi (h' := zHp s (zup (zup (zup q5.2 33 (q5.2 32 0).toNatClampNeg x1) 34 (q5.2 32 0).toNatClampNeg x2) 32 0 ((q5.2 32 0) + (nI 1)))) rfl rfl rfl rfl (zst_6_32 _ _ _) ?_
                      refine zX_go (c := 2) (pc' := 183) (lv' := [.ref 6, .int x1, .int x2, .int (t 17 x2.toNatClampNeg), .int q3]) (st' := [.int x2, .ref 6]) (h' := zHp s (zup (zup (zup q5.2 33 (q5.2 32 0).toNatClampNeg x1) 34 (q5.2 32 0).toNatClampNeg x2) 32 0 ((q5.2 32 0) + (nI 1)))) rfl ?_
                      obtain ⟨q6, hq, hF⟩ := zbd_ok hF
                      refine zX_inv (av := [.ref 6, .int x2]) (st := []) (h' := zHp s q6) rfl rfl rfl rfl rfl rfl (zcall_le (t_X6_done M _ _ _ _ hq) (by decide)) ?_
                      refine zX_go (c := 3) (pc' := 190) (lv' := [.ref 6, .int x1, .int x2, .int (t 17 x2.toNatClampNeg), .int q3]) (st' := [.int (q3 + (nI 1))]) (h' := zHp s q6) rfl ?_
                      obtain rfl := Option.some.inj hF
                      exact zX_reti rfl
                  · refine zX_go (c := 5) (pc' := 132) (lv' := [.ref 6, .int x1, .int x2, .int (t 17 x2.toNatClampNeg), .int q3]) (st' := [.int (t 17 x2.toNatClampNeg), .ref 37, .int x1, .ref 6]) (h' := zHp s q5.2) rfl ?_
                    refine zX_ial (n := 12) rfl rfl hF (fun hF => ?_)
                    obtain ⟨q7, hq, hF⟩ := zbd_ok hF
                    refine zX_inv (av := [.ref 6, .int x1, .int (q5.2 5 (t 17 x2.toNatClampNeg).toNatClampNeg)]) (st := []) (h' := zHp s q5.2) rfl rfl rfl rfl rfl rfl (zcall_le (t_X6_standing M _ _ _ _ _ hq) (by decide)) ?_
                    refine zX_go (c := 1) (pc' := if 0 < q7 then 139 else 142) (lv' := [.ref 6, .int x1, .int x2, .int (t 17 x2.toNatClampNeg), .int q3]) (st' := []) (h' := zHp s q5.2) rfl ?_
                    refine zX_ite hF (fun c0 hF => ?_) (fun c0 hF => ?_)
                    · refine zX_go (c := 1) (pc' := 141) (lv' := [.ref 6, .int x1, .int x2, .int (t 17 x2.toNatClampNeg), .int q3]) (st' := [.int (-15)]) (h' := zHp s q5.2) rfl ?_
                      obtain rfl := Option.some.inj hF
                      exact zX_reti rfl
                    · refine zX_go (c := 3) (pc' := if q3 = (nI 4) then 148 else 151) (lv' := [.ref 6, .int x1, .int x2, .int (t 17 x2.toNatClampNeg), .int q3]) (st' := []) (h' := zHp s q5.2) rfl ?_
                      refine zX_ite hF (fun c0 hF => ?_) (fun c0 hF => ?_)
                      · refine zX_go (c := 1) (pc' := 150) (lv' := [.ref 6, .int x1, .int x2, .int (t 17 x2.toNatClampNeg), .int q3]) (st' := [.int (-3)]) (h' := zHp s q5.2) rfl ?_
                        obtain rfl := Option.some.inj hF
                        exact zX_reti rfl
                      · refine zX_go (c := 5) (pc' := 160) (lv' := [.ref 6, .int x1, .int x2, .int (t 17 x2.toNatClampNeg), .int q3]) (st' := [.int x1, .int (q5.2 32 0), .ref 58]) (h' := zHp s q5.2) rfl ?_
                        refine zX_ias (n := 100) (h' := zHp s (zup q5.2 33 (q5.2 32 0).toNatClampNeg x1)) rfl rfl (zst_58 _ _ _ _) hF (fun hF => ?_)
                        refine zX_go (c := 5) (pc' := 170) (lv' := [.ref 6, .int x1, .int x2, .int (t 17 x2.toNatClampNeg), .int q3]) (st' := [.int x2, .int (q5.2 32 0), .ref 59]) (h' := zHp s (zup q5.2 33 (q5.2 32 0).toNatClampNeg x1)) rfl ?_
                        refine zX_ias (n := 100) (h' := zHp s (zup (zup q5.2 33 (q5.2 32 0).toNatClampNeg x1) 34 (q5.2 32 0).toNatClampNeg x2)) rfl rfl (zst_59 _ _ _ _) hF (fun hF => ?_)
                        refine zX_go (c := 5) (pc' := 178) (lv' := [.ref 6, .int x1, .int x2, .int (t 17 x2.toNatClampNeg), .int q3]) (st' := [.int ((q5.2 32 0) + (nI 1)), .ref 6]) (h' := zHp s (zup (zup q5.2 33 (q5.2 32 0).toNatClampNeg x1) 34 (q5.2 32 0).toNatClampNeg x2)) rfl ?_
                        refine zX_pfi (h' := zHp s (zup (zup (zup q5.2 33 (q5.2 32 0).toNatClampNeg x1) 34 (q5.2 32 0).toNatClampNeg x2) 32 0 ((q5.2 32 0) + (nI 1)))) rfl rfl rfl rfl (zst_6_32 _ _ _) ?_
                        refine zX_go (c := 2) (pc' := 183) (lv' := [.ref 6, .int x1, .int x2, .int (t 17 x2.toNatClampNeg), .int q3]) (st' := [.int x2, .ref 6]) (h' := zHp s (zup (zup (zup q5.2 33 (q5.2 32 0).toNatClampNeg x1) 34 (q5.2 32 0).toNatClampNeg x2) 32 0 ((q5.2 32 0) + (nI 1)))) rfl ?_
                        obtain ⟨q8, hq, hF⟩ := zbd_ok hF
                        refine zX_inv (av := [.ref 6, .int x2]) (st := []) (h' := zHp s q8) rfl rfl rfl rfl rfl rfl (zcall_le (t_X6_done M _ _ _ _ hq) (by decide)) ?_
                        refine zX_go (c := 3) (pc' := 190) (lv' := [.ref 6, .int x1, .int x2, .int (t 17 x2.toNatClampNeg), .int q3]) (st' := [.int (q3 + (nI 1))]) (h' := zHp s q8) rfl ?_
                        obtain rfl := Option.some.inj hF
                        exact zX_reti rfl
                · refine zX_go (c := 5) (pc' := 105) (lv' := [.ref 6, .int x1, .int x2, .int (t 17 x2.toNatClampNeg), .int q3]) (st' := [.int (t 17 x2.toNatClampNeg), .ref 36, .int x1, .ref 6]) (h' := zHp s q5.2) rfl ?_
                  refine zX_ial (n := 12) rfl rfl hF (fun hF => ?_)
                  obtain ⟨q9, hq, hF⟩ := zbd_ok hF
                  refine zX_inv (av := [.ref 6, .int x1, .int (q5.2 4 (t 17 x2.toNatClampNeg).toNatClampNeg)]) (st := []) (h' := zHp s q5.2) rfl rfl rfl rfl rfl rfl (zcall_le (t_X6_standing M _ _ _ _ _ hq) (by decide)) ?_
                  refine zX_go (c := 1) (pc' := if 0 < q9 then 112 else 115) (lv' := [.ref 6, .int x1, .int x2, .int (t 17 x2.toNatClampNeg), .int q3]) (st' := []) (h' := zHp s q5.2) rfl ?_
                  refine zX_ite hF (fun c0 hF => ?_) (fun c0 hF => ?_)
                  · refine zX_go (c := 1) (pc' := 114) (lv' := [.ref 6, .int x1, .int x2, .int (t 17 x2.toNatClampNeg), .int q3]) (st' := [.int (-14)]) (h' := zHp s q5.2) rfl ?_
                    obtain rfl := Option.some.inj hF
                    exact zX_reti rfl
                  · refine zX_go (c := 3) (pc' := 120) (lv' := [.ref 6, .int x1, .int x2, .int (t 17 x2.toNatClampNeg), .int q3]) (st' := [.int (t 17 x2.toNatClampNeg), .ref 37]) (h' := zHp s q5.2) rfl ?_
                    refine zX_ial (n := 12) rfl rfl hF (fun hF => ?_)
                    refine zX_go (c := 2) (pc' := if (q5.2 5 (t 17 x2.toNatClampNeg).toNatClampNeg) = (-1) then 142 else 125) (lv' := [.ref 6, .int x1, .int x2, .int (t 17 x2.toNatClampNeg), .int q3]) (st' := []) (h' := zHp s q5.2) rfl ?_
                    refine zX_ite hF (fun c0 hF => ?_) (fun c0 hF => ?_)
                    · refine zX_go (c := 3) (pc' := if q3 = (nI 4) then 148 else 151) (lv' := [.ref 6, .int x1, .int x2, .int (t 17 x2.toNatClampNeg), .int q3]) (st' := []) (h' := zHp s q5.2) rfl ?_
                      refine zX_ite hF (fun c0 hF => ?_) (fun c0 hF => ?_)
                      · refine zX_go (c := 1) (pc' := 150) (lv' := [.ref 6, .int x1, .int x2, .int (t 17 x2.toNatClampNeg), .int q3]) (st' := [.int (-3)]) (h' := zHp s q5.2) rfl ?_
                        obtain rfl := Option.some.inj hF
                        exact zX_reti rfl
                      · refine zX_go (c := 5) (pc' := 160) (lv' := [.ref 6, .int x1, .int x2, .int (t 17 x2.toNatClampNeg), .int q3]) (st' := [.int x1, .int (q5.2 32 0), .ref 58]) (h' := zHp s q5.2) rfl ?_
                        refine zX_ias (n := 100) (h' := zHp s (zup q5.2 33 (q5.2 32 0).toNatClampNeg x1)) rfl rfl (zst_58 _ _ _ _) hF (fun hF => ?_)
                        refine zX_go (c := 5) (pc' := 170) (lv' := [.ref 6, .int x1, .int x2, .int (t 17 x2.toNatClampNeg), .int q3]) (st' := [.int x2, .int (q5.2 32 0), .ref 59]) (h' := zHp s (zup q5.2 33 (q5.2 32 0).toNatClampNeg x1)) rfl ?_
                        refine zX_ias (n := 100) (h' := zHp s (zup (zup q5.2 33 (q5.2 32 0).toNatClampNeg x1) 34 (q5.2 32 0).toNatClampNeg x2)) rfl rfl (zst_59 _ _ _ _) hF (fun hF => ?_)
                        refine zX_go (c := 5) (pc' := 178) (lv' := [.ref 6, .int x1, .int x2, .int (t 17 x2.toNatClampNeg), .int q3]) (st' := [.int ((q5.2 32 0) + (nI 1)), .ref 6]) (h' := zHp s (zup (zup q5.2 33 (q5.2 32 0).toNatClampNeg x1) 34 (q5.2 32 0).toNatClampNeg x2)) rfl ?_
                        refine zX_pfi (h' := zHp s (zup (zup (zup q5.2 33 (q5.2 32 0).toNatClampNeg x1) 34 (q5.2 32 0).toNatClampNeg x2) 32 0 ((q5.2 32 0) + (nI 1)))) rfl rfl rfl rfl (zst_6_32 _ _ _) ?_
                        refine zX_go (c := 2) (pc' := 183) (lv' := [.ref 6, .int x1, .int x2, .int (t 17 x2.toNatClampNeg), .int q3]) (st' := [.int x2, .ref 6]) (h' := zHp s (zup (zup (zup q5.2 33 (q5.2 32 0).toNatClampNeg x1) 34 (q5.2 32 0).toNatClampNeg x2) 32 0 ((q5.2 32 0) + (nI 1)))) rfl ?_
                        obtain ⟨q10, hq, hF⟩ := zbd_ok hF
                        refine zX_inv (av := [.ref 6, .int x2]) (st := []) (h' := zHp s q10) rfl rfl rfl rfl rfl rfl (zcall_le (t_X6_done M _ _ _ _ hq) (by decide)) ?_
                        refine zX_go (c := 3) (pc' := 190) (lv' := [.ref 6, .int x1, .int x2, .int (t 17 x2.toNatClampNeg), .int q3]) (st' := [.int (q3 + (nI 1))]) (h' := zHp s q10) rfl ?_
                        obtain rfl := Option.some.inj hF
                        exact zX_reti rfl
                    · refine zX_go (c := 5) (pc' := 132) (lv' := [.ref 6, .int x1, .int x2, .int (t 17 x2.toNatClampNeg), .int q3]) (st' := [.int (t 17 x2.toNatClampNeg), .ref 37, .int x1, .ref 6]) (h' := zHp s q5.2) rfl ?_
                      refine zX_ial (n := 12) rfl rfl hF (fun hF => ?_)
                      obtain ⟨q11, hq, hF⟩ := zbd_ok hF
                      refine zX_inv (av := [.ref 6, .int x1, .int (q5.2 5 (t 17 x2.toNatClampNeg).toNatClampNeg)]) (st := []) (h' := zHp s q5.2) rfl rfl rfl rfl rfl rfl (zcall_le (t_X6_standing M _ _ _ _ _ hq) (by decide)) ?_
                      refine zX_go (c := 1) (pc' := if 0 < q11 then 139 else 142) (lv' := [.ref 6, .int x1, .int x2, .int (t 17 x2.toNatClampNeg), .int q3]) (st' := []) (h' := zHp s q5.2) rfl ?_
                      refine zX_ite hF (fun c0 hF => ?_) (fun c0 hF => ?_)
                      · refine zX_go (c := 1) (pc' := 141) (lv' := [.ref 6, .int x1, .int x2, .int (t 17 x2.toNatClampNeg), .int q3]) (st' := [.int (-15)]) (h' := zHp s q5.2) rfl ?_
                        obtain rfl := Option.some.inj hF
                        exact zX_reti rfl
                      · refine zX_go (c := 3) (pc' := if q3 = (nI 4) then 148 else 151) (lv' := [.ref 6, .int x1, .int x2, .int (t 17 x2.toNatClampNeg), .int q3]) (st' := []) (h' := zHp s q5.2) rfl ?_
                        refine zX_ite hF (fun c0 hF => ?_) (fun c0 hF => ?_)
                        · refine zX_go (c := 1) (pc' := 150) (lv' := [.ref 6, .int x1, .int x2, .int (t 17 x2.toNatClampNeg), .int q3]) (st' := [.int (-3)]) (h' := zHp s q5.2) rfl ?_
                          obtain rfl := Option.some.inj hF
                          exact zX_reti rfl
                        · refine zX_go (c := 5) (pc' := 160) (lv' := [.ref 6, .int x1, .int x2, .int (t 17 x2.toNatClampNeg), .int q3]) (st' := [.int x1, .int (q5.2 32 0), .ref 58]) (h' := zHp s q5.2) rfl ?_
                          refine zX_ias (n := 100) (h' := zHp s (zup q5.2 33 (q5.2 32 0).toNatClampNeg x1)) rfl rfl (zst_58 _ _ _ _) hF (fun hF => ?_)
                          refine zX_go (c := 5) (pc' := 170) (lv' := [.ref 6, .int x1, .int x2, .int (t 17 x2.toNatClampNeg), .int q3]) (st' := [.int x2, .int (q5.2 32 0), .ref 59]) (h' := zHp s (zup q5.2 33 (q5.2 32 0).toNatClampNeg x1)) rfl ?_
                          refine zX_ias (n := 100) (h' := zHp s (zup (zup q5.2 33 (q5.2 32 0).toNatClampNeg x1) 34 (q5.2 32 0).toNatClampNeg x2)) rfl rfl (zst_59 _ _ _ _) hF (fun hF => ?_)
                          refine zX_go (c := 5) (pc' := 178) (lv' := [.ref 6, .int x1, .int x2, .int (t 17 x2.toNatClampNeg), .int q3]) (st' := [.int ((q5.2 32 0) + (nI 1)), .ref 6]) (h' := zHp s (zup (zup q5.2 33 (q5.2 32 0).toNatClampNeg x1) 34 (q5.2 32 0).toNatClampNeg x2)) rfl ?_
                          refine zX_pfi (h' := zHp s (zup (zup (zup q5.2 33 (q5.2 32 0).toNatClampNeg x1) 34 (q5.2 32 0).toNatClampNeg x2) 32 0 ((q5.2 32 0) + (nI 1)))) rfl rfl rfl rfl (zst_6_32 _ _ _) ?_
                          refine zX_go (c := 2) (pc' := 183) (lv' := [.ref 6, .int x1, .int x2, .int (t 17 x2.toNatClampNeg), .int q3]) (st' := [.int x2, .ref 6]) (h' := zHp s (zup (zup (zup q5.2 33 (q5.2 32 0).toNatClampNeg x1) 34 (q5.2 32 0).toNatClampNeg x2) 32 0 ((q5.2 32 0) + (nI 1)))) rfl ?_
                          obtain ⟨q12, hq, hF⟩ := zbd_ok hF
                          refine zX_inv (av := [.ref 6, .int x2]) (st := []) (h' := zHp s q12) rfl rfl rfl rfl rfl rfl (zcall_le (t_X6_done M _ _ _ _ hq) (by decide)) ?_
                          refine zX_go (c := 3) (pc' := 190) (lv' := [.ref 6, .int x1, .int x2, .int (t 17 x2.toNatClampNeg), .int q3]) (st' := [.int (q3 + (nI 1))]) (h' := zHp s q12) rfl ?_
                          obtain rfl := Option.some.inj hF
                          exact zX_reti rfl
            · refine zX_go (c := 3) (pc' := 93) (lv' := [.ref 6, .int x1, .int x2, .int (t 17 x2.toNatClampNeg), .int q3]) (st' := [.int (t 17 x2.toNatClampNeg), .ref 36]) (h' := zHp s q5.2) rfl ?_
              refine zX_ial (n := 12) rfl rfl hF (fun hF => ?_)
              refine zX_go (c := 2) (pc' := if (q5.2 4 (t 17 x2.toNatClampNeg).toNatClampNeg) = (-1) then 115 else 98) (lv' := [.ref 6, .int x1, .int x2, .int (t 17 x2.toNatClampNeg), .int q3]) (st' := []) (h' := zHp s q5.2) rfl ?_
              refine zX_ite hF (fun c0 hF => ?_) (fun c0 hF => ?_)
              · refine zX_go (c := 3) (pc' := 120) (lv' := [.ref 6, .int x1, .int x2, .int (t 17 x2.toNatClampNeg), .int q3]) (st' := [.int (t 17 x2.toNatClampNeg), .ref 37]) (h' := zHp s q5.2) rfl ?_
                refine zX_ial (n := 12) rfl rfl hF (fun hF => ?_)
                refine zX_go (c := 2) (pc' := if (q5.2 5 (t 17 x2.toNatClampNeg).toNatClampNeg) = (-1) then 142 else 125) (lv' := [.ref 6, .int x1, .int x2, .int (t 17 x2.toNatClampNeg), .int q3]) (st' := []) (h' := zHp s q5.2) rfl ?_
                refine zX_ite hF (fun c0 hF => ?_) (fun c0 hF => ?_)
                · refine zX_go (c := 3) (pc' := if q3 = (nI 4) then 148 else 151) (lv' := [.ref 6, .int x1, .int x2, .int (t 17 x2.toNatClampNeg), .int q3]) (st' := []) (h' := zHp s q5.2) rfl ?_
                  refine zX_ite hF (fun c0 hF => ?_) (fun c0 hF => ?_)
                  · refine zX_go (c := 1) (pc' := 150) (lv' := [.ref 6, .int x1, .int x2, .int (t 17 x2.toNatClampNeg), .int q3]) (st' := [.int (-3)]) (h' := zHp s q5.2) rfl ?_
                    obtain rfl := Option.some.inj hF
                    exact zX_reti rfl
                  · refine zX_go (c := 5) (pc' := 160) (lv' := [.ref 6, .int x1, .int x2, .int (t 17 x2.toNatClampNeg), .int q3]) (st' := [.int x1, .int (q5.2 32 0), .ref 58]) (h' := zHp s q5.2) rfl ?_
                    refine zX_ias (n := 100) (h' := zHp s (zup q5.2 33 (q5.2 32 0).toNatClampNeg x1)) rfl rfl (zst_58 _ _ _ _) hF (fun hF => ?_)
                    refine zX_go (c := 5) (pc' := 170) (lv' := [.ref 6, .int x1, .int x2, .int (t 17 x2.toNatClampNeg), .int q3]) (st' := [.int x2, .int (q5.2 32 0), .ref 59]) (h' := zHp s (zup q5.2 33 (q5.2 32 0).toNatClampNeg x1)) rfl ?_
                    refine zX_ias (n := 100) (h' := zHp s (zup (zup q5.2 33 (q5.2 32 0).toNatClampNeg x1) 34 (q5.2 32 0).toNatClampNeg x2)) rfl rfl (zst_59 _ _ _ _) hF (fun hF => ?_)
                    refine zX_go (c := 5) (pc' := 178) (lv' := [.ref 6, .int x1, .int x2, .int (t 17 x2.toNatClampNeg), .int q3]) (st' := [.int ((q5.2 32 0) + (nI 1)), .ref 6]) (h' := zHp s (zup (zup q5.2 33 (q5.2 32 0).toNatClampNeg x1) 34 (q5.2 32 0).toNatClampNeg x2)) rfl ?_
                    refine zX_pfi (h' := zHp s (zup (zup (zup q5.2 33 (q5.2 32 0).toNatClampNeg x1) 34 (q5.2 32 0).toNatClampNeg x2) 32 0 ((q5.2 32 0) + (nI 1)))) rfl rfl rfl rfl (zst_6_32 _ _ _) ?_
                    refine zX_go (c := 2) (pc' := 183) (lv' := [.ref 6, .int x1, .int x2, .int (t 17 x2.toNatClampNeg), .int q3]) (st' := [.int x2, .ref 6]) (h' := zHp s (zup (zup (zup q5.2 33 (q5.2 32 0).toNatClampNeg x1) 34 (q5.2 32 0).toNatClampNeg x2) 32 0 ((q5.2 32 0) + (nI 1)))) rfl ?_
                    obtain ⟨q13, hq, hF⟩ := zbd_ok hF
                    refine zX_inv (av := [.ref 6, .int x2]) (st := []) (h' := zHp s q13) rfl rfl rfl rfl rfl rfl (zcall_le (t_X6_done M _ _ _ _ hq) (by decide)) ?_
                    refine zX_go (c := 3) (pc' := 190) (lv' := [.ref 6, .int x1, .int x2, .int (t 17 x2.toNatClampNeg), .int q3]) (st' := [.int (q3 + (nI 1))]) (h' := zHp s q13) rfl ?_
                    obtain rfl := Option.some.inj hF
                    exact zX_reti rfl
                · refine zX_go (c := 5) (pc' := 132) (lv' := [.ref 6, .int x1, .int x2, .int (t 17 x2.toNatClampNeg), .int q3]) (st' := [.int (t 17 x2.toNatClampNeg), .ref 37, .int x1, .ref 6]) (h' := zHp s q5.2) rfl ?_
                  refine zX_ial (n := 12) rfl rfl hF (fun hF => ?_)
                  obtain ⟨q14, hq, hF⟩ := zbd_ok hF
                  refine zX_inv (av := [.ref 6, .int x1, .int (q5.2 5 (t 17 x2.toNatClampNeg).toNatClampNeg)]) (st := []) (h' := zHp s q5.2) rfl rfl rfl rfl rfl rfl (zcall_le (t_X6_standing M _ _ _ _ _ hq) (by decide)) ?_
                  refine zX_go (c := 1) (pc' := if 0 < q14 then 139 else 142) (lv' := [.ref 6, .int x1, .int x2, .int (t 17 x2.toNatClampNeg), .int q3]) (st' := []) (h' := zHp s q5.2) rfl ?_
                  refine zX_ite hF (fun c0 hF => ?_) (fun c0 hF => ?_)
                  · refine zX_go (c := 1) (pc' := 141) (lv' := [.ref 6, .int x1, .int x2, .int (t 17 x2.toNatClampNeg), .int q3]) (st' := [.int (-15)]) (h' := zHp s q5.2) rfl ?_
                    obtain rfl := Option.some.inj hF
                    exact zX_reti rfl
                  · refine zX_go (c := 3) (pc' := if q3 = (nI 4) then 148 else 151) (lv' := [.ref 6, .int x1, .int x2, .int (t 17 x2.toNatClampNeg), .int q3]) (st' := []) (h' := zHp s q5.2) rfl ?_
                    refine zX_ite hF (fun c0 hF => ?_) (fun c0 hF => ?_)
                    · refine zX_go (c := 1) (pc' := 150) (lv' := [.ref 6, .int x1, .int x2, .int (t 17 x2.toNatClampNeg), .int q3]) (st' := [.int (-3)]) (h' := zHp s q5.2) rfl ?_
                      obtain rfl := Option.some.inj hF
                      exact zX_reti rfl
                    · refine zX_go (c := 5) (pc' := 160) (lv' := [.ref 6, .int x1, .int x2, .int (t 17 x2.toNatClampNeg), .int q3]) (st' := [.int x1, .int (q5.2 32 0), .ref 58]) (h' := zHp s q5.2) rfl ?_
                      refine zX_ias (n := 100) (h' := zHp s (zup q5.2 33 (q5.2 32 0).toNatClampNeg x1)) rfl rfl (zst_58 _ _ _ _) hF (fun hF => ?_)
                      refine zX_go (c := 5) (pc' := 170) (lv' := [.ref 6, .int x1, .int x2, .int (t 17 x2.toNatClampNeg), .int q3]) (st' := [.int x2, .int (q5.2 32 0), .ref 59]) (h' := zHp s (zup q5.2 33 (q5.2 32 0).toNatClampNeg x1)) rfl ?_
                      refine zX_ias (n := 100) (h' := zHp s (zup (zup q5.2 33 (q5.2 32 0).toNatClampNeg x1) 34 (q5.2 32 0).toNatClampNeg x2)) rfl rfl (zst_59 _ _ _ _) hF (fun hF => ?_)
                      refine zX_go (c := 5) (pc' := 178) (lv' := [.ref 6, .int x1, .int x2, .int (t 17 x2.toNatClampNeg), .int q3]) (st' := [.int ((q5.2 32 0) + (nI 1)), .ref 6]) (h' := zHp s (zup (zup q5.2 33 (q5.2 32 0).toNatClampNeg x1) 34 (q5.2 32 0).toNatClampNeg x2)) rfl ?_
                      refine zX_pfi (h' := zHp s (zup (zup (zup q5.2 33 (q5.2 32 0).toNatClampNeg x1) 34 (q5.2 32 0).toNatClampNeg x2) 32 0 ((q5.2 32 0) + (nI 1)))) rfl rfl rfl rfl (zst_6_32 _ _ _) ?_
                      refine zX_go (c := 2) (pc' := 183) (lv' := [.ref 6, .int x1, .int x2, .int (t 17 x2.toNatClampNeg), .int q3]) (st' := [.int x2, .ref 6]) (h' := zHp s (zup (zup (zup q5.2 33 (q5.2 32 0).toNatClampNeg x1) 34 (q5.2 32 0).toNatClampNeg x2) 32 0 ((q5.2 32 0) + (nI 1)))) rfl ?_
                      obtain ⟨q15, hq, hF⟩ := zbd_ok hF
                      refine zX_inv (av := [.ref 6, .int x2]) (st := []) (h' := zHp s q15) rfl rfl rfl rfl rfl rfl (zcall_le (t_X6_done M _ _ _ _ hq) (by decide)) ?_
                      refine zX_go (c := 3) (pc' := 190) (lv' := [.ref 6, .int x1, .int x2, .int (t 17 x2.toNatClampNeg), .int q3]) (st' := [.int (q3 + (nI 1))]) (h' := zHp s q15) rfl ?_
                      obtain rfl := Option.some.inj hF
                      exact zX_reti rfl
              · refine zX_go (c := 5) (pc' := 105) (lv' := [.ref 6, .int x1, .int x2, .int (t 17 x2.toNatClampNeg), .int q3]) (st' := [.int (t 17 x2.toNatClampNeg), .ref 36, .int x1, .ref 6]) (h' := zHp s q5.2) rfl ?_
                refine zX_ial (n := 12) rfl rfl hF (fun hF => ?_)
                obtain ⟨q16, hq, hF⟩ := zbd_ok hF
                refine zX_inv (av := [.ref 6, .int x1, .int (q5.2 4 (t 17 x2.toNatClampNeg).toNatClampNeg)]) (st := []) (h' := zHp s q5.2) rfl rfl rfl rfl rfl rfl (zcall_le (t_X6_standing M _ _ _ _ _ hq) (by decide)) ?_
                refine zX_go (c := 1) (pc' := if 0 < q16 then 112 else 115) (lv' := [.ref 6, .int x1, .int x2, .int (t 17 x2.toNatClampNeg), .int q3]) (st' := []) (h' := zHp s q5.2) rfl ?_
                refine zX_ite hF (fun c0 hF => ?_) (fun c0 hF => ?_)
                · refine zX_go (c := 1) (pc' := 114) (lv' := [.ref 6, .int x1, .int x2, .int (t 17 x2.toNatClampNeg), .int q3]) (st' := [.int (-14)]) (h' := zHp s q5.2) rfl ?_
                  obtain rfl := Option.some.inj hF
                  exact zX_reti rfl
                · refine zX_go (c := 3) (pc' := 120) (lv' := [.ref 6, .int x1, .int x2, .int (t 17 x2.toNatClampNeg), .int q3]) (st' := [.int (t 17 x2.toNatClampNeg), .ref 37]) (h' := zHp s q5.2) rfl ?_
                  refine zX_ial (n := 12) rfl rfl hF (fun hF => ?_)
                  refine zX_go (c := 2) (pc' := if (q5.2 5 (t 17 x2.toNatClampNeg).toNatClampNeg) = (-1) then 142 else 125) (lv' := [.ref 6, .int x1, .int x2, .int (t 17 x2.toNatClampNeg), .int q3]) (st' := []) (h' := zHp s q5.2) rfl ?_
                  refine zX_ite hF (fun c0 hF => ?_) (fun c0 hF => ?_)
                  · refine zX_go (c := 3) (pc' := if q3 = (nI 4) then 148 else 151) (lv' := [.ref 6, .int x1, .int x2, .int (t 17 x2.toNatClampNeg), .int q3]) (st' := []) (h' := zHp s q5.2) rfl ?_
                    refine zX_ite hF (fun c0 hF => ?_) (fun c0 hF => ?_)
                    · refine zX_go (c := 1) (pc' := 150) (lv' := [.ref 6, .int x1, .int x2, .int (t 17 x2.toNatClampNeg), .int q3]) (st' := [.int (-3)]) (h' := zHp s q5.2) rfl ?_
                      obtain rfl := Option.some.inj hF
                      exact zX_reti rfl
                    · refine zX_go (c := 5) (pc' := 160) (lv' := [.ref 6, .int x1, .int x2, .int (t 17 x2.toNatClampNeg), .int q3]) (st' := [.int x1, .int (q5.2 32 0), .ref 58]) (h' := zHp s q5.2) rfl ?_
                      refine zX_ias (n := 100) (h' := zHp s (zup q5.2 33 (q5.2 32 0).toNatClampNeg x1)) rfl rfl (zst_58 _ _ _ _) hF (fun hF => ?_)
                      refine zX_go (c := 5) (pc' := 170) (lv' := [.ref 6, .int x1, .int x2, .int (t 17 x2.toNatClampNeg), .int q3]) (st' := [.int x2, .int (q5.2 32 0), .ref 59]) (h' := zHp s (zup q5.2 33 (q5.2 32 0).toNatClampNeg x1)) rfl ?_
                      refine zX_ias (n := 100) (h' := zHp s (zup (zup q5.2 33 (q5.2 32 0).toNatClampNeg x1) 34 (q5.2 32 0).toNatClampNeg x2)) rfl rfl (zst_59 _ _ _ _) hF (fun hF => ?_)
                      refine zX_go (c := 5) (pc' := 178) (lv' := [.ref 6, .int x1, .int x2, .int (t 17 x2.toNatClampNeg), .int q3]) (st' := [.int ((q5.2 32 0) + (nI 1)), .ref 6]) (h' := zHp s (zup (zup q5.2 33 (q5.2 32 0).toNatClampNeg x1) 34 (q5.2 32 0).toNatClampNeg x2)) rfl ?_
                      refine zX_pfi (h' := zHp s (zup (zup (zup q5.2 33 (q5.2 32 0).toNatClampNeg x1) 34 (q5.2 32 0).toNatClampNeg x2) 32 0 ((q5.2 32 0) + (nI 1)))) rfl rfl rfl rfl (zst_6_32 _ _ _) ?_
                      refine zX_go (c := 2) (pc' := 183) (lv' := [.ref 6, .int x1, .int x2, .int (t 17 x2.toNatClampNeg), .int q3]) (st' := [.int x2, .ref 6]) (h' := zHp s (zup (zup (zup q5.2 33 (q5.2 32 0).toNatClampNeg x1) 34 (q5.2 32 0).toNatClampNeg x2) 32 0 ((q5.2 32 0) + (nI 1)))) rfl ?_
                      obtain ⟨q17, hq, hF⟩ := zbd_ok hF
                      refine zX_inv (av := [.ref 6, .int x2]) (st := []) (h' := zHp s q17) rfl rfl rfl rfl rfl rfl (zcall_le (t_X6_done M _ _ _ _ hq) (by decide)) ?_
                      refine zX_go (c := 3) (pc' := 190) (lv' := [.ref 6, .int x1, .int x2, .int (t 17 x2.toNatClampNeg), .int q3]) (st' := [.int (q3 + (nI 1))]) (h' := zHp s q17) rfl ?_
                      obtain rfl := Option.some.inj hF
                      exact zX_reti rfl
                  · refine zX_go (c := 5) (pc' := 132) (lv' := [.ref 6, .int x1, .int x2, .int (t 17 x2.toNatClampNeg), .int q3]) (st' := [.int (t 17 x2.toNatClampNeg), .ref 37, .int x1, .ref 6]) (h' := zHp s q5.2) rfl ?_
                    refine zX_ial (n := 12) rfl rfl hF (fun hF => ?_)
                    obtain ⟨q18, hq, hF⟩ := zbd_ok hF
                    refine zX_inv (av := [.ref 6, .int x1, .int (q5.2 5 (t 17 x2.toNatClampNeg).toNatClampNeg)]) (st := []) (h' := zHp s q5.2) rfl rfl rfl rfl rfl rfl (zcall_le (t_X6_standing M _ _ _ _ _ hq) (by decide)) ?_
                    refine zX_go (c := 1) (pc' := if 0 < q18 then 139 else 142) (lv' := [.ref 6, .int x1, .int x2, .int (t 17 x2.toNatClampNeg), .int q3]) (st' := []) (h' := zHp s q5.2) rfl ?_
                    refine zX_ite hF (fun c0 hF => ?_) (fun c0 hF => ?_)
                    · refine zX_go (c := 1) (pc' := 141) (lv' := [.ref 6, .int x1, .int x2, .int (t 17 x2.toNatClampNeg), .int q3]) (st' := [.int (-15)]) (h' := zHp s q5.2) rfl ?_
                      obtain rfl := Option.some.inj hF
                      exact zX_reti rfl
                    · refine zX_go (c := 3) (pc' := if q3 = (nI 4) then 148 else 151) (lv' := [.ref 6, .int x1, .int x2, .int (t 17 x2.toNatClampNeg), .int q3]) (st' := []) (h' := zHp s q5.2) rfl ?_
                      refine zX_ite hF (fun c0 hF => ?_) (fun c0 hF => ?_)
                      · refine zX_go (c := 1) (pc' := 150) (lv' := [.ref 6, .int x1, .int x2, .int (t 17 x2.toNatClampNeg), .int q3]) (st' := [.int (-3)]) (h' := zHp s q5.2) rfl ?_
                        obtain rfl := Option.some.inj hF
                        exact zX_reti rfl
                      · refine zX_go (c := 5) (pc' := 160) (lv' := [.ref 6, .int x1, .int x2, .int (t 17 x2.toNatClampNeg), .int q3]) (st' := [.int x1, .int (q5.2 32 0), .ref 58]) (h' := zHp s q5.2) rfl ?_
                        refine zX_ias (n := 100) (h' := zHp s (zup q5.2 33 (q5.2 32 0).toNatClampNeg x1)) rfl rfl (zst_58 _ _ _ _) hF (fun hF => ?_)
                        refine zX_go (c := 5) (pc' := 170) (lv' := [.ref 6, .int x1, .int x2, .int (t 17 x2.toNatClampNeg), .int q3]) (st' := [.int x2, .int (q5.2 32 0), .ref 59]) (h' := zHp s (zup q5.2 33 (q5.2 32 0).toNatClampNeg x1)) rfl ?_
                        refine zX_ias (n := 100) (h' := zHp s (zup (zup q5.2 33 (q5.2 32 0).toNatClampNeg x1) 34 (q5.2 32 0).toNatClampNeg x2)) rfl rfl (zst_59 _ _ _ _) hF (fun hF => ?_)
                        refine zX_go (c := 5) (pc' := 178) (lv' := [.ref 6, .int x1, .int x2, .int (t 17 x2.toNatClampNeg), .int q3]) (st' := [.int ((q5.2 32 0) + (nI 1)), .ref 6]) (h' := zHp s (zup (zup q5.2 33 (q5.2 32 0).toNatClampNeg x1) 34 (q5.2 32 0).toNatClampNeg x2)) rfl ?_
                        refine zX_pfi (h' := zHp s (zup (zup (zup q5.2 33 (q5.2 32 0).toNatClampNeg x1) 34 (q5.2 32 0).toNatClampNeg x2) 32 0 ((q5.2 32 0) + (nI 1)))) rfl rfl rfl rfl (zst_6_32 _ _ _) ?_
                        refine zX_go (c := 2) (pc' := 183) (lv' := [.ref 6, .int x1, .int x2, .int (t 17 x2.toNatClampNeg), .int q3]) (st' := [.int x2, .ref 6]) (h' := zHp s (zup (zup (zup q5.2 33 (q5.2 32 0).toNatClampNeg x1) 34 (q5.2 32 0).toNatClampNeg x2) 32 0 ((q5.2 32 0) + (nI 1)))) rfl ?_
                        obtain ⟨q19, hq, hF⟩ := zbd_ok hF
                        refine zX_inv (av := [.ref 6, .int x2]) (st := []) (h' := zHp s q19) rfl rfl rfl rfl rfl rfl (zcall_le (t_X6_done M _ _ _ _ hq) (by decide)) ?_
                        refine zX_go (c := 3) (pc' := 190) (lv' := [.ref 6, .int x1, .int x2, .int (t 17 x2.toNatClampNeg), .int q3]) (st' := [.int (q3 + (nI 1))]) (h' := zHp s q19) rfl ?_
                        obtain rfl := Option.some.inj hF
                        exact zX_reti rfl
      · refine zX_go (c := 1) (pc' := 31) (lv' := [.ref 6, .int x1, .int x2, .retAddr 0, .retAddr 0]) (st' := [.int (-4)]) (h' := zHp s t) rfl ?_
        obtain rfl := Option.some.inj hF
        exact zX_reti rfl
def f_X6_own (M : Nat) (t : zS) (x1 x2 : Int32) : Option (Int32) :=
  zbd (f_X6_standing M t x1 x2) (fun q1 =>
   if q1 = (nI 1) then
    zbd (f_X6_stander M t x1 x2 (nI 0)) (fun q2 =>
     some q2)
   else
    zq (zin x2 12) <|
    if 0 < q1 then
     some (-1)
    else
     if (t 5 x2.toNatClampNeg) = (-1) then
      some (-1)
     else
      zq (zin (t 5 x2.toNatClampNeg) 12) <|
      if (t 2 (t 5 x2.toNatClampNeg).toNatClampNeg) = (nI 2) then
       zbd (f_X6_standing M t x1 (t 5 x2.toNatClampNeg)) (fun q3 =>
        if (nI 1) < q3 then
         some ((-100) - q3)
        else
         some (-1))
      else
       some (-1))
set_option maxRecDepth 100000 in
set_option maxHeartbeats 4000000 in
theorem t_X6_own {L : Nat} {xs : Nat → Int32} (M : Nat) (s t : zS) (x1 x2 : Int32) (R : Int32) (hF : f_X6_own M t x1 x2 = some R) : zcall (ztb L xs) 2 136 [.ref 6, .int x1, .int x2] (zHp s t) = some (some (.int R), zHp s t) := by
  unfold f_X6_own at hF
  refine zcall_X (d := 1) (e := zm_X6_own) rfl rfl ?_
  show zX (ztb L xs) (zcall (ztb L xs) 1) 6 1 zk_X6_own 0 [.ref 6, .int x1, .int x2, .retAddr 0, .retAddr 0, .retAddr 0] [] (zHp s t) _
  refine zX_go (c := 3) (pc' := 3) (lv' := [.ref 6, .int x1, .int x2, .retAddr 0, .retAddr 0, .retAddr 0]) (st' := [.int x2, .int x1, .ref 6]) (h' := zHp s t) rfl ?_
  obtain ⟨q1, hq, hF⟩ := zbd_ok hF
  refine zX_inv (av := [.ref 6, .int x1, .int x2]) (st := []) (h' := zHp s t) rfl rfl rfl rfl rfl rfl (zcall_le (t_X6_standing M _ _ _ _ _ hq) (by decide)) ?_
  refine zX_go (c := 4) (pc' := if q1 = (nI 1) then 12 else 20) (lv' := [.ref 6, .int x1, .int x2, .int q1, .retAddr 0, .retAddr 0]) (st' := []) (h' := zHp s t) rfl ?_
  refine zX_ite hF (fun c0 hF => ?_) (fun c0 hF => ?_)
  · refine zX_go (c := 4) (pc' := 16) (lv' := [.ref 6, .int x1, .int x2, .int q1, .retAddr 0, .retAddr 0]) (st' := [.int (nI 0), .int x2, .int x1, .ref 6]) (h' := zHp s t) rfl ?_
    obtain ⟨q2, hq, hF⟩ := zbd_ok hF
    refine zX_inv (av := [.ref 6, .int x1, .int x2, .int (nI 0)]) (st := []) (h' := zHp s t) rfl rfl rfl rfl rfl rfl (zcall_le (t_X6_stander M _ _ _ _ _ _ hq) (by decide)) ?_
    obtain rfl := Option.some.inj hF
    exact zX_reti rfl
  · refine zX_go (c := 3) (pc' := 25) (lv' := [.ref 6, .int x1, .int x2, .int q1, .retAddr 0, .retAddr 0]) (st' := [.int x2, .ref 37]) (h' := zHp s t) rfl ?_
    refine zX_ial (n := 12) rfl rfl hF (fun hF => ?_)
    refine zX_go (c := 3) (pc' := if 0 < q1 then 49 else 32) (lv' := [.ref 6, .int x1, .int x2, .int q1, .int (t 5 x2.toNatClampNeg), .retAddr 0]) (st' := []) (h' := zHp s t) rfl ?_
    refine zX_ite hF (fun c0 hF => ?_) (fun c0 hF => ?_)
    · refine zX_go (c := 6) (pc' := if (nI 1) < (nI 0) then 68 else 76) (lv' := [.ref 6, .int x1, .int x2, .int q1, .int (t 5 x2.toNatClampNeg), .int (nI 0)]) (st' := []) (h' := zHp s t) rfl ?_
      rw [if_neg (show ¬ ((nI 1) < (nI 0)) by decide)]
      refine zX_go (c := 1) (pc' := 77) (lv' := [.ref 6, .int x1, .int x2, .int q1, .int (t 5 x2.toNatClampNeg), .int (nI 0)]) (st' := [.int (-1)]) (h' := zHp s t) rfl ?_
      obtain rfl := Option.some.inj hF
      exact zX_reti rfl
    · refine zX_go (c := 3) (pc' := if (t 5 x2.toNatClampNeg) = (-1) then 49 else 38) (lv' := [.ref 6, .int x1, .int x2, .int q1, .int (t 5 x2.toNatClampNeg), .retAddr 0]) (st' := []) (h' := zHp s t) rfl ?_
      refine zX_ite hF (fun c0 hF => ?_) (fun c0 hF => ?_)
      · refine zX_go (c := 6) (pc' := if (nI 1) < (nI 0) then 68 else 76) (lv' := [.ref 6, .int x1, .int x2, .int q1, .int (t 5 x2.toNatClampNeg), .int (nI 0)]) (st' := []) (h' := zHp s t) rfl ?_
        rw [if_neg (show ¬ ((nI 1) < (nI 0)) by decide)]
        refine zX_go (c := 1) (pc' := 77) (lv' := [.ref 6, .int x1, .int x2, .int q1, .int (t 5 x2.toNatClampNeg), .int (nI 0)]) (st' := [.int (-1)]) (h' := zHp s t) rfl ?_
        obtain rfl := Option.some.inj hF
        exact zX_reti rfl
      · refine zX_go (c := 3) (pc' := 44) (lv' := [.ref 6, .int x1, .int x2, .int q1, .int (t 5 x2.toNatClampNeg), .retAddr 0]) (st' := [.int (t 5 x2.toNatClampNeg), .ref 34]) (h' := zHp s t) rfl ?_
        refine zX_ial (n := 12) rfl rfl hF (fun hF => ?_)
        refine zX_go (c := 2) (pc' := if (t 2 (t 5 x2.toNatClampNeg).toNatClampNeg) = (nI 2) then 53 else 49) (lv' := [.ref 6, .int x1, .int x2, .int q1, .int (t 5 x2.toNatClampNeg), .retAddr 0]) (st' := []) (h' := zHp s t) rfl ?_
        refine zX_ite hF (fun c0 hF => ?_) (fun c0 hF => ?_)
        · refine zX_go (c := 3) (pc' := 57) (lv' := [.ref 6, .int x1, .int x2, .int q1, .int (t 5 x2.toNatClampNeg), .retAddr 0]) (st' := [.int (t 5 x2.toNatClampNeg), .int x1, .ref 6]) (h' := zHp s t) rfl ?_
          obtain ⟨q3, hq, hF⟩ := zbd_ok hF
          refine zX_inv (av := [.ref 6, .int x1, .int (t 5 x2.toNatClampNeg)]) (st := []) (h' := zHp s t) rfl rfl rfl rfl rfl rfl (zcall_le (t_X6_standing M _ _ _ _ _ hq) (by decide)) ?_
          refine zX_go (c := 4) (pc' := if (nI 1) < q3 then 68 else 76) (lv' := [.ref 6, .int x1, .int x2, .int q1, .int (t 5 x2.toNatClampNeg), .int q3]) (st' := []) (h' := zHp s t) rfl ?_
          refine zX_ite hF (fun c0 hF => ?_) (fun c0 hF => ?_)
          · refine zX_go (c := 4) (pc' := 77) (lv' := [.ref 6, .int x1, .int x2, .int q1, .int (t 5 x2.toNatClampNeg), .int q3]) (st' := [.int ((-100) - q3)]) (h' := zHp s t) rfl ?_
            obtain rfl := Option.some.inj hF
            exact zX_reti rfl
          · refine zX_go (c := 1) (pc' := 77) (lv' := [.ref 6, .int x1, .int x2, .int q1, .int (t 5 x2.toNatClampNeg), .int q3]) (st' := [.int (-1)]) (h' := zHp s t) rfl ?_
            obtain rfl := Option.some.inj hF
            exact zX_reti rfl
        · refine zX_go (c := 6) (pc' := if (nI 1) < (nI 0) then 68 else 76) (lv' := [.ref 6, .int x1, .int x2, .int q1, .int (t 5 x2.toNatClampNeg), .int (nI 0)]) (st' := []) (h' := zHp s t) rfl ?_
          rw [if_neg (show ¬ ((nI 1) < (nI 0)) by decide)]
          refine zX_go (c := 1) (pc' := 77) (lv' := [.ref 6, .int x1, .int x2, .int q1, .int (t 5 x2.toNatClampNeg), .int (nI 0)]) (st' := [.int (-1)]) (h' := zHp s t) rfl ?_
          obtain rfl := Option.some.inj hF
          exact zX_reti rfl
def f_X6_goesUp (M : Nat) (t : zS) (x1 x2 : Int32) : Option (Int32) :=
  zq (zin x2 12) <|
  if (t 3 x2.toNatClampNeg) = 0 then
   some (nI 0)
  else
   zq (zin x1 40) <|
   if (t 13 x1.toNatClampNeg) = 0 then
    zq (zin x1 40) <|
    if (t 14 x1.toNatClampNeg) = (-1) then
     some (nI 0)
    else
     some (nI 1)
   else
    some (nI 0)
set_option maxRecDepth 100000 in
set_option maxHeartbeats 4000000 in
theorem t_X6_goesUp {L : Nat} {xs : Nat → Int32} (M : Nat) (s t : zS) (x1 x2 : Int32) (R : Int32) (hF : f_X6_goesUp M t x1 x2 = some R) : zcall (ztb L xs) 1 137 [.ref 6, .int x1, .int x2] (zHp s t) = some (some (.int R), zHp s t) := by
  unfold f_X6_goesUp at hF
  refine zcall_X (d := 0) (e := zm_X6_goesUp) rfl rfl ?_
  show zX (ztb L xs) (zcall (ztb L xs) 0) 6 2 zk_X6_goesUp 0 [.ref 6, .int x1, .int x2] [] (zHp s t) _
  refine zX_go (c := 3) (pc' := 5) (lv' := [.ref 6, .int x1, .int x2]) (st' := [.int x2, .ref 35]) (h' := zHp s t) rfl ?_
  refine zX_bal (n := 12) rfl rfl hF (fun hF => ?_)
  refine zX_go (c := 1) (pc' := if (t 3 x2.toNatClampNeg) = 0 then 32 else 9) (lv' := [.ref 6, .int x1, .int x2]) (st' := []) (h' := zHp s t) rfl ?_
  refine zX_ite hF (fun c0 hF => ?_) (fun c0 hF => ?_)
  · refine zX_go (c := 1) (pc' := 33) (lv' := [.ref 6, .int x1, .int x2]) (st' := [.int (nI 0)]) (h' := zHp s t) rfl ?_
    obtain rfl := Option.some.inj hF
    exact zX_retz rfl (by decide)
  · refine zX_go (c := 3) (pc' := 14) (lv' := [.ref 6, .int x1, .int x2]) (st' := [.int x1, .ref 44]) (h' := zHp s t) rfl ?_
    refine zX_ial (n := 40) rfl rfl hF (fun hF => ?_)
    refine zX_go (c := 1) (pc' := if (t 13 x1.toNatClampNeg) = 0 then 18 else 32) (lv' := [.ref 6, .int x1, .int x2]) (st' := []) (h' := zHp s t) rfl ?_
    refine zX_ite hF (fun c0 hF => ?_) (fun c0 hF => ?_)
    · refine zX_go (c := 3) (pc' := 23) (lv' := [.ref 6, .int x1, .int x2]) (st' := [.int x1, .ref 45]) (h' := zHp s t) rfl ?_
      refine zX_ial (n := 40) rfl rfl hF (fun hF => ?_)
      refine zX_go (c := 2) (pc' := if (t 14 x1.toNatClampNeg) = (-1) then 32 else 28) (lv' := [.ref 6, .int x1, .int x2]) (st' := []) (h' := zHp s t) rfl ?_
      refine zX_ite hF (fun c0 hF => ?_) (fun c0 hF => ?_)
      · refine zX_go (c := 1) (pc' := 33) (lv' := [.ref 6, .int x1, .int x2]) (st' := [.int (nI 0)]) (h' := zHp s t) rfl ?_
        obtain rfl := Option.some.inj hF
        exact zX_retz rfl (by decide)
      · refine zX_go (c := 2) (pc' := 33) (lv' := [.ref 6, .int x1, .int x2]) (st' := [.int (nI 1)]) (h' := zHp s t) rfl ?_
        obtain rfl := Option.some.inj hF
        exact zX_retz rfl (by decide)
    · refine zX_go (c := 1) (pc' := 33) (lv' := [.ref 6, .int x1, .int x2]) (st' := [.int (nI 0)]) (h' := zHp s t) rfl ?_
      obtain rfl := Option.some.inj hF
      exact zX_retz rfl (by decide)
def l_X6_ask (M : Nat) : Nat → zS → Int32 → Int32 → Int32 → Int32 → Option (Int32)
  | 0, _, _, _, _, _ => none
  | N + 1, t, y2, y3, y4, y5 =>
    if y3 = 0 then
     some y5
    else
     if y5 = (-1) then
      zbd (f_X6_goesUp M t y4 y2) (fun q1 =>
       if q1 = 0 then
        some y5
       else
        zq (zin y4 40) <|
        zbd (f_X6_own M t (t 14 y4.toNatClampNeg) y2) (fun q2 =>
         l_X6_ask M N t y2 y3 (t 14 y4.toNatClampNeg) q2))
     else
      some y5
set_option maxRecDepth 100000 in
set_option maxHeartbeats 4000000 in
theorem tl_X6_ask {L : Nat} {xs : Nat → Int32} (M : Nat) (s : zS) : ∀ (N : Nat) (t : zS) (y2 : Int32) (y3 : Int32) (y4 : Int32) (y5 : Int32) (R : Int32) (u1 : Int32) (hF : l_X6_ask M N t y2 y3 y4 y5 = some R), zX (ztb L xs) (zcall (ztb L xs) 2) 6 1 zk_X6_ask 43 [.ref 6, .int u1, .int y2, .int y3, .int y4, .int y5] [] (zHp s t) (some (.int R), zHp s t) := by
  intro N
  induction N with
  | zero => intro t y2 y3 y4 y5 R u1 hF; cases hF
  | succ N ih =>
    intro t y2 y3 y4 y5 R u1 hF
    unfold l_X6_ask at hF
    refine zX_go (c := 2) (pc' := if y3 = 0 then 84 else 47) (lv' := [.ref 6, .int u1, .int y2, .int y3, .int y4, .int y5]) (st' := []) (h' := zHp s t) rfl ?_
    refine zX_ite hF (fun c0 hF => ?_) (fun c0 hF => ?_)
    · refine zX_go (c := 1) (pc' := 86) (lv' := [.ref 6, .int u1, .int y2, .int y3, .int y4, .int y5]) (st' := [.int y5]) (h' := zHp s t) rfl ?_
      obtain rfl := Option.some.inj hF
      exact zX_reti rfl
    · refine zX_go (c := 3) (pc' := if y5 = (-1) then 53 else 84) (lv' := [.ref 6, .int u1, .int y2, .int y3, .int y4, .int y5]) (st' := []) (h' := zHp s t) rfl ?_
      refine zX_ite hF (fun c0 hF => ?_) (fun c0 hF => ?_)
      · refine zX_go (c := 3) (pc' := 57) (lv' := [.ref 6, .int u1, .int y2, .int y3, .int y4, .int y5]) (st' := [.int y2, .int y4, .ref 6]) (h' := zHp s t) rfl ?_
        obtain ⟨q1, hq, hF⟩ := zbd_ok hF
        refine zX_inv (av := [.ref 6, .int y4, .int y2]) (st := []) (h' := zHp s t) rfl rfl rfl rfl rfl rfl (zcall_le (t_X6_goesUp M _ _ _ _ _ hq) (by decide)) ?_
        refine zX_go (c := 1) (pc' := if q1 = 0 then 84 else 63) (lv' := [.ref 6, .int u1, .int y2, .int y3, .int y4, .int y5]) (st' := []) (h' := zHp s t) rfl ?_
        refine zX_ite hF (fun c0 hF => ?_) (fun c0 hF => ?_)
        · refine zX_go (c := 1) (pc' := 86) (lv' := [.ref 6, .int u1, .int y2, .int y3, .int y4, .int y5]) (st' := [.int y5]) (h' := zHp s t) rfl ?_
          obtain rfl := Option.some.inj hF
          exact zX_reti rfl
        · refine zX_go (c := 3) (pc' := 69) (lv' := [.ref 6, .int u1, .int y2, .int y3, .int y4, .int y5]) (st' := [.int y4, .ref 45]) (h' := zHp s t) rfl ?_
          refine zX_ial (n := 40) rfl rfl hF (fun hF => ?_)
          refine zX_go (c := 4) (pc' := 76) (lv' := [.ref 6, .int u1, .int y2, .int y3, .int (t 14 y4.toNatClampNeg), .int y5]) (st' := [.int y2, .int (t 14 y4.toNatClampNeg), .ref 6]) (h' := zHp s t) rfl ?_
          obtain ⟨q2, hq, hF⟩ := zbd_ok hF
          refine zX_inv (av := [.ref 6, .int (t 14 y4.toNatClampNeg), .int y2]) (st := []) (h' := zHp s t) rfl rfl rfl rfl rfl rfl (zcall_le (t_X6_own M _ _ _ _ _ hq) (by decide)) ?_
          refine zX_go (c := 2) (pc' := 43) (lv' := [.ref 6, .int u1, .int y2, .int y3, .int (t 14 y4.toNatClampNeg), .int q2]) (st' := []) (h' := zHp s t) rfl ?_
          exact ih t y2 y3 (t 14 y4.toNatClampNeg) q2 _ u1 hF
      · refine zX_go (c := 1) (pc' := 86) (lv' := [.ref 6, .int u1, .int y2, .int y3, .int y4, .int y5]) (st' := [.int y5]) (h' := zHp s t) rfl ?_
        obtain rfl := Option.some.inj hF
        exact zX_reti rfl
def f_X6_ask (M : Nat) (t : zS) (x1 x2 x3 : Int32) : Option (Int32) :=
  zbd (f_X6_isPlace M t x1) (fun q1 =>
   if q1 = 0 then
    some (-2)
   else
    zbd (f_X6_isMark M t x2) (fun q2 =>
     if q2 = 0 then
      some (-2)
     else
      zq (zin x2 12) <|
      if (t 2 x2.toNatClampNeg) = (nI 2) then
       zbd (f_X6_own M t x1 x2) (fun q3 =>
        l_X6_ask M M t x2 x3 x1 q3)
      else
       some (-1)))
set_option maxRecDepth 100000 in
set_option maxHeartbeats 4000000 in
theorem t_X6_ask {L : Nat} {xs : Nat → Int32} (M : Nat) (s t : zS) (x1 x2 x3 : Int32) (R : Int32) (hF : f_X6_ask M t x1 x2 x3 = some R) : zcall (ztb L xs) 3 138 [.ref 6, .int x1, .int x2, .int x3] (zHp s t) = some (some (.int R), zHp s t) := by
  unfold f_X6_ask at hF
  refine zcall_X (d := 2) (e := zm_X6_ask) rfl rfl ?_
  show zX (ztb L xs) (zcall (ztb L xs) 2) 6 1 zk_X6_ask 0 [.ref 6, .int x1, .int x2, .int x3, .retAddr 0, .retAddr 0] [] (zHp s t) _
  refine zX_go (c := 2) (pc' := 2) (lv' := [.ref 6, .int x1, .int x2, .int x3, .retAddr 0, .retAddr 0]) (st' := [.int x1, .ref 6]) (h' := zHp s t) rfl ?_
  obtain ⟨q1, hq, hF⟩ := zbd_ok hF
  refine zX_inv (av := [.ref 6, .int x1]) (st := []) (h' := zHp s t) rfl rfl rfl rfl rfl rfl (zcall_le (t_X6_isPlace M _ _ _ _ hq) (by decide)) ?_
  refine zX_go (c := 1) (pc' := if q1 = 0 then 16 else 8) (lv' := [.ref 6, .int x1, .int x2, .int x3, .retAddr 0, .retAddr 0]) (st' := []) (h' := zHp s t) rfl ?_
  refine zX_ite hF (fun c0 hF => ?_) (fun c0 hF => ?_)
  · refine zX_go (c := 1) (pc' := 18) (lv' := [.ref 6, .int x1, .int x2, .int x3, .retAddr 0, .retAddr 0]) (st' := [.int (-2)]) (h' := zHp s t) rfl ?_
    obtain rfl := Option.some.inj hF
    exact zX_reti rfl
  · refine zX_go (c := 2) (pc' := 10) (lv' := [.ref 6, .int x1, .int x2, .int x3, .retAddr 0, .retAddr 0]) (st' := [.int x2, .ref 6]) (h' := zHp s t) rfl ?_
    obtain ⟨q2, hq, hF⟩ := zbd_ok hF
    refine zX_inv (av := [.ref 6, .int x2]) (st := []) (h' := zHp s t) rfl rfl rfl rfl rfl rfl (zcall_le (t_X6_isMark M _ _ _ _ hq) (by decide)) ?_
    refine zX_go (c := 1) (pc' := if q2 = 0 then 16 else 19) (lv' := [.ref 6, .int x1, .int x2, .int x3, .retAddr 0, .retAddr 0]) (st' := []) (h' := zHp s t) rfl ?_
    refine zX_ite hF (fun c0 hF => ?_) (fun c0 hF => ?_)
    · refine zX_go (c := 1) (pc' := 18) (lv' := [.ref 6, .int x1, .int x2, .int x3, .retAddr 0, .retAddr 0]) (st' := [.int (-2)]) (h' := zHp s t) rfl ?_
      obtain rfl := Option.some.inj hF
      exact zX_reti rfl
    · refine zX_go (c := 3) (pc' := 24) (lv' := [.ref 6, .int x1, .int x2, .int x3, .retAddr 0, .retAddr 0]) (st' := [.int x2, .ref 34]) (h' := zHp s t) rfl ?_
      refine zX_ial (n := 12) rfl rfl hF (fun hF => ?_)
      refine zX_go (c := 2) (pc' := if (t 2 x2.toNatClampNeg) = (nI 2) then 31 else 29) (lv' := [.ref 6, .int x1, .int x2, .int x3, .retAddr 0, .retAddr 0]) (st' := []) (h' := zHp s t) rfl ?_
      refine zX_ite hF (fun c0 hF => ?_) (fun c0 hF => ?_)
      · refine zX_go (c := 5) (pc' := 38) (lv' := [.ref 6, .int x1, .int x2, .int x3, .int x1, .retAddr 0]) (st' := [.int x2, .int x1, .ref 6]) (h' := zHp s t) rfl ?_
        obtain ⟨q3, hq, hF⟩ := zbd_ok hF
        refine zX_inv (av := [.ref 6, .int x1, .int x2]) (st := []) (h' := zHp s t) rfl rfl rfl rfl rfl rfl (zcall_le (t_X6_own M _ _ _ _ _ hq) (by decide)) ?_
        refine zX_go (c := 1) (pc' := 43) (lv' := [.ref 6, .int x1, .int x2, .int x3, .int x1, .int q3]) (st' := []) (h' := zHp s t) rfl ?_
        exact tl_X6_ask M s M t x2 x3 x1 q3 _ x1 hF
      · refine zX_go (c := 1) (pc' := 30) (lv' := [.ref 6, .int x1, .int x2, .int x3, .retAddr 0, .retAddr 0]) (st' := [.int (-1)]) (h' := zHp s t) rfl ?_
        obtain rfl := Option.some.inj hF
        exact zX_reti rfl
def f_X6_rowAt (M : Nat) (t : zS) (x1 x2 : Int32) : Option (Int32) :=
  zq (zin x2 12) <|
  if (t 4 x2.toNatClampNeg) = (-1) then
   some (-1)
  else
   zbd (f_X6_standing M t x1 (t 4 x2.toNatClampNeg)) (fun q1 =>
    if q1 = (nI 1) then
     zbd (f_X6_stander M t x1 (t 4 x2.toNatClampNeg) (nI 0)) (fun q2 =>
      zbd (f_X6_elementOf M t (t 4 x2.toNatClampNeg) (nI 0)) (fun q3 =>
       zbd (f_X6_inner M t q2 (q3 - ((nI 5) * (t 4 x2.toNatClampNeg)))) (fun q4 =>
        some q4)))
    else
     some (-1))
set_option maxRecDepth 100000 in
set_option maxHeartbeats 4000000 in
theorem t_X6_rowAt {L : Nat} {xs : Nat → Int32} (M : Nat) (s t : zS) (x1 x2 : Int32) (R : Int32) (hF : f_X6_rowAt M t x1 x2 = some R) : zcall (ztb L xs) 2 139 [.ref 6, .int x1, .int x2] (zHp s t) = some (some (.int R), zHp s t) := by
  unfold f_X6_rowAt at hF
  refine zcall_X (d := 1) (e := zm_X6_rowAt) rfl rfl ?_
  show zX (ztb L xs) (zcall (ztb L xs) 1) 6 1 zk_X6_rowAt 0 [.ref 6, .int x1, .int x2, .retAddr 0, .retAddr 0] [] (zHp s t) _
  refine zX_go (c := 3) (pc' := 5) (lv' := [.ref 6, .int x1, .int x2, .retAddr 0, .retAddr 0]) (st' := [.int x2, .ref 36]) (h' := zHp s t) rfl ?_
  refine zX_ial (n := 12) rfl rfl hF (fun hF => ?_)
  refine zX_go (c := 4) (pc' := if (t 4 x2.toNatClampNeg) = (-1) then 22 else 12) (lv' := [.ref 6, .int x1, .int x2, .int (t 4 x2.toNatClampNeg), .retAddr 0]) (st' := []) (h' := zHp s t) rfl ?_
  refine zX_ite hF (fun c0 hF => ?_) (fun c0 hF => ?_)
  · refine zX_go (c := 1) (pc' := 23) (lv' := [.ref 6, .int x1, .int x2, .int (t 4 x2.toNatClampNeg), .retAddr 0]) (st' := [.int (-1)]) (h' := zHp s t) rfl ?_
    obtain rfl := Option.some.inj hF
    exact zX_reti rfl
  · refine zX_go (c := 3) (pc' := 15) (lv' := [.ref 6, .int x1, .int x2, .int (t 4 x2.toNatClampNeg), .retAddr 0]) (st' := [.int (t 4 x2.toNatClampNeg), .int x1, .ref 6]) (h' := zHp s t) rfl ?_
    obtain ⟨q1, hq, hF⟩ := zbd_ok hF
    refine zX_inv (av := [.ref 6, .int x1, .int (t 4 x2.toNatClampNeg)]) (st := []) (h' := zHp s t) rfl rfl rfl rfl rfl rfl (zcall_le (t_X6_standing M _ _ _ _ _ hq) (by decide)) ?_
    refine zX_go (c := 2) (pc' := if q1 = (nI 1) then 24 else 22) (lv' := [.ref 6, .int x1, .int x2, .int (t 4 x2.toNatClampNeg), .retAddr 0]) (st' := []) (h' := zHp s t) rfl ?_
    refine zX_ite hF (fun c0 hF => ?_) (fun c0 hF => ?_)
    · refine zX_go (c := 4) (pc' := 28) (lv' := [.ref 6, .int x1, .int x2, .int (t 4 x2.toNatClampNeg), .retAddr 0]) (st' := [.int (nI 0), .int (t 4 x2.toNatClampNeg), .int x1, .ref 6]) (h' := zHp s t) rfl ?_
      obtain ⟨q2, hq, hF⟩ := zbd_ok hF
      refine zX_inv (av := [.ref 6, .int x1, .int (t 4 x2.toNatClampNeg), .int (nI 0)]) (st := []) (h' := zHp s t) rfl rfl rfl rfl rfl rfl (zcall_le (t_X6_stander M _ _ _ _ _ _ hq) (by decide)) ?_
      refine zX_go (c := 6) (pc' := 39) (lv' := [.ref 6, .int x1, .int x2, .int (t 4 x2.toNatClampNeg), .int q2]) (st' := [.int (nI 0), .int (t 4 x2.toNatClampNeg), .ref 6, .int q2, .ref 6]) (h' := zHp s t) rfl ?_
      obtain ⟨q3, hq, hF⟩ := zbd_ok hF
      refine zX_inv (av := [.ref 6, .int (t 4 x2.toNatClampNeg), .int (nI 0)]) (st := [.int q2, .ref 6]) (h' := zHp s t) rfl rfl rfl rfl rfl rfl (zcall_le (t_X6_elementOf M _ _ _ _ _ hq) (by decide)) ?_
      refine zX_go (c := 4) (pc' := 46) (lv' := [.ref 6, .int x1, .int x2, .int (t 4 x2.toNatClampNeg), .int q2]) (st' := [.int (q3 - ((nI 5) * (t 4 x2.toNatClampNeg))), .int q2, .ref 6]) (h' := zHp s t) rfl ?_
      obtain ⟨q4, hq, hF⟩ := zbd_ok hF
      refine zX_inv (av := [.ref 6, .int q2, .int (q3 - ((nI 5) * (t 4 x2.toNatClampNeg)))]) (st := []) (h' := zHp s t) rfl rfl rfl rfl rfl rfl (zcall_le (t_X6_inner M _ _ _ _ _ hq) (by decide)) ?_
      obtain rfl := Option.some.inj hF
      exact zX_reti rfl
    · refine zX_go (c := 1) (pc' := 23) (lv' := [.ref 6, .int x1, .int x2, .int (t 4 x2.toNatClampNeg), .retAddr 0]) (st' := [.int (-1)]) (h' := zHp s t) rfl ?_
      obtain rfl := Option.some.inj hF
      exact zX_reti rfl
def f_X6_allAt (M : Nat) (t : zS) (x1 x2 : Int32) : Option (Int32) :=
  zbd (f_X6_standing M t x1 x2) (fun q1 =>
   if 0 < q1 then
    some q1
   else
    zbd (f_X6_rowAt M t x1 x2) (fun q2 =>
     if q2 = (-1) then
      some q1
     else
      zq (zin q2 100) <|
      some (t 18 q2.toNatClampNeg)))
set_option maxRecDepth 100000 in
set_option maxHeartbeats 4000000 in
theorem t_X6_allAt {L : Nat} {xs : Nat → Int32} (M : Nat) (s t : zS) (x1 x2 : Int32) (R : Int32) (hF : f_X6_allAt M t x1 x2 = some R) : zcall (ztb L xs) 3 140 [.ref 6, .int x1, .int x2] (zHp s t) = some (some (.int R), zHp s t) := by
  unfold f_X6_allAt at hF
  refine zcall_X (d := 2) (e := zm_X6_allAt) rfl rfl ?_
  show zX (ztb L xs) (zcall (ztb L xs) 2) 6 1 zk_X6_allAt 0 [.ref 6, .int x1, .int x2, .retAddr 0, .retAddr 0] [] (zHp s t) _
  refine zX_go (c := 3) (pc' := 3) (lv' := [.ref 6, .int x1, .int x2, .retAddr 0, .retAddr 0]) (st' := [.int x2, .int x1, .ref 6]) (h' := zHp s t) rfl ?_
  obtain ⟨q1, hq, hF⟩ := zbd_ok hF
  refine zX_inv (av := [.ref 6, .int x1, .int x2]) (st := []) (h' := zHp s t) rfl rfl rfl rfl rfl rfl (zcall_le (t_X6_standing M _ _ _ _ _ hq) (by decide)) ?_
  refine zX_go (c := 3) (pc' := if 0 < q1 then 11 else 15) (lv' := [.ref 6, .int x1, .int x2, .int q1, .retAddr 0]) (st' := []) (h' := zHp s t) rfl ?_
  refine zX_ite hF (fun c0 hF => ?_) (fun c0 hF => ?_)
  · refine zX_go (c := 6) (pc' := if (-1) = (-1) then 29 else 33) (lv' := [.ref 6, .int x1, .int x2, .int q1, .int (-1)]) (st' := []) (h' := zHp s t) rfl ?_
    rw [if_pos (show (-1) = (-1) by decide)]
    refine zX_go (c := 2) (pc' := 40) (lv' := [.ref 6, .int x1, .int x2, .int q1, .int (-1)]) (st' := [.int q1]) (h' := zHp s t) rfl ?_
    obtain rfl := Option.some.inj hF
    exact zX_reti rfl
  · refine zX_go (c := 3) (pc' := 18) (lv' := [.ref 6, .int x1, .int x2, .int q1, .retAddr 0]) (st' := [.int x2, .int x1, .ref 6]) (h' := zHp s t) rfl ?_
    obtain ⟨q2, hq, hF⟩ := zbd_ok hF
    refine zX_inv (av := [.ref 6, .int x1, .int x2]) (st := []) (h' := zHp s t) rfl rfl rfl rfl rfl rfl (zcall_le (t_X6_rowAt M _ _ _ _ _ hq) (by decide)) ?_
    refine zX_go (c := 4) (pc' := if q2 = (-1) then 29 else 33) (lv' := [.ref 6, .int x1, .int x2, .int q1, .int q2]) (st' := []) (h' := zHp s t) rfl ?_
    refine zX_ite hF (fun c0 hF => ?_) (fun c0 hF => ?_)
    · refine zX_go (c := 2) (pc' := 40) (lv' := [.ref 6, .int x1, .int x2, .int q1, .int q2]) (st' := [.int q1]) (h' := zHp s t) rfl ?_
      obtain rfl := Option.some.inj hF
      exact zX_reti rfl
    · refine zX_go (c := 3) (pc' := 39) (lv' := [.ref 6, .int x1, .int x2, .int q1, .int q2]) (st' := [.int q2, .ref 48]) (h' := zHp s t) rfl ?_
      refine zX_ial (n := 100) rfl rfl hF (fun hF => ?_)
      obtain rfl := Option.some.inj hF
      exact zX_reti rfl
def l_X6_whereAll (M : Nat) : Nat → zS → Int32 → Int32 → Option (Int32)
  | 0, _, _, _ => none
  | N + 1, t, y2, y3 =>
    zbd (f_X6_allAt M t y3 y2) (fun q1 =>
     if q1 = 0 then
      zbd (f_X6_goesUp M t y3 y2) (fun q2 =>
       if q2 = 0 then
        some y3
       else
        zq (zin y3 40) <|
        l_X6_whereAll M N t y2 (t 14 y3.toNatClampNeg))
     else
      some y3)
set_option maxRecDepth 100000 in
set_option maxHeartbeats 4000000 in
theorem tl_X6_whereAll {L : Nat} {xs : Nat → Int32} (M : Nat) (s : zS) : ∀ (N : Nat) (t : zS) (y2 : Int32) (y3 : Int32) (R : Int32) (u1 : Int32) (hF : l_X6_whereAll M N t y2 y3 = some R), zX (ztb L xs) (zcall (ztb L xs) 3) 6 1 zk_X6_whereAll 2 [.ref 6, .int u1, .int y2, .int y3] [] (zHp s t) (some (.int R), zHp s t) := by
  intro N
  induction N with
  | zero => intro t y2 y3 R u1 hF; cases hF
  | succ N ih =>
    intro t y2 y3 R u1 hF
    unfold l_X6_whereAll at hF
    refine zX_go (c := 3) (pc' := 5) (lv' := [.ref 6, .int u1, .int y2, .int y3]) (st' := [.int y2, .int y3, .ref 6]) (h' := zHp s t) rfl ?_
    obtain ⟨q1, hq, hF⟩ := zbd_ok hF
    refine zX_inv (av := [.ref 6, .int y3, .int y2]) (st := []) (h' := zHp s t) rfl rfl rfl rfl rfl rfl (zcall_le (t_X6_allAt M _ _ _ _ _ hq) (by decide)) ?_
    refine zX_go (c := 1) (pc' := if q1 = 0 then 11 else 30) (lv' := [.ref 6, .int u1, .int y2, .int y3]) (st' := []) (h' := zHp s t) rfl ?_
    refine zX_ite hF (fun c0 hF => ?_) (fun c0 hF => ?_)
    · refine zX_go (c := 3) (pc' := 14) (lv' := [.ref 6, .int u1, .int y2, .int y3]) (st' := [.int y2, .int y3, .ref 6]) (h' := zHp s t) rfl ?_
      obtain ⟨q2, hq, hF⟩ := zbd_ok hF
      refine zX_inv (av := [.ref 6, .int y3, .int y2]) (st := []) (h' := zHp s t) rfl rfl rfl rfl rfl rfl (zcall_le (t_X6_goesUp M _ _ _ _ _ hq) (by decide)) ?_
      refine zX_go (c := 1) (pc' := if q2 = 0 then 30 else 20) (lv' := [.ref 6, .int u1, .int y2, .int y3]) (st' := []) (h' := zHp s t) rfl ?_
      refine zX_ite hF (fun c0 hF => ?_) (fun c0 hF => ?_)
      · refine zX_go (c := 1) (pc' := 31) (lv' := [.ref 6, .int u1, .int y2, .int y3]) (st' := [.int y3]) (h' := zHp s t) rfl ?_
        obtain rfl := Option.some.inj hF
        exact zX_reti rfl
      · refine zX_go (c := 3) (pc' := 25) (lv' := [.ref 6, .int u1, .int y2, .int y3]) (st' := [.int y3, .ref 45]) (h' := zHp s t) rfl ?_
        refine zX_ial (n := 40) rfl rfl hF (fun hF => ?_)
        refine zX_go (c := 2) (pc' := 2) (lv' := [.ref 6, .int u1, .int y2, .int (t 14 y3.toNatClampNeg)]) (st' := []) (h' := zHp s t) rfl ?_
        exact ih t y2 (t 14 y3.toNatClampNeg) _ u1 hF
    · refine zX_go (c := 1) (pc' := 31) (lv' := [.ref 6, .int u1, .int y2, .int y3]) (st' := [.int y3]) (h' := zHp s t) rfl ?_
      obtain rfl := Option.some.inj hF
      exact zX_reti rfl
def f_X6_whereAll (M : Nat) (t : zS) (x1 x2 : Int32) : Option (Int32) :=
  l_X6_whereAll M M t x2 x1
set_option maxRecDepth 100000 in
set_option maxHeartbeats 4000000 in
theorem t_X6_whereAll {L : Nat} {xs : Nat → Int32} (M : Nat) (s t : zS) (x1 x2 : Int32) (R : Int32) (hF : f_X6_whereAll M t x1 x2 = some R) : zcall (ztb L xs) 4 141 [.ref 6, .int x1, .int x2] (zHp s t) = some (some (.int R), zHp s t) := by
  unfold f_X6_whereAll at hF
  refine zcall_X (d := 3) (e := zm_X6_whereAll) rfl rfl ?_
  show zX (ztb L xs) (zcall (ztb L xs) 3) 6 1 zk_X6_whereAll 0 [.ref 6, .int x1, .int x2, .retAddr 0] [] (zHp s t) _
  refine zX_go (c := 2) (pc' := 2) (lv' := [.ref 6, .int x1, .int x2, .int x1]) (st' := []) (h' := zHp s t) rfl ?_
  exact tl_X6_whereAll M s M t x2 x1 _ x1 hF
def f_X6_all (M : Nat) (t : zS) (x1 x2 : Int32) : Option (Int32) :=
  zbd (f_X6_isPlace M t x1) (fun q1 =>
   if q1 = 0 then
    some (-2)
   else
    zbd (f_X6_isMark M t x2) (fun q2 =>
     if q2 = 0 then
      some (-2)
     else
      zq (zin x2 12) <|
      if (t 2 x2.toNatClampNeg) = (nI 2) then
       zbd (f_X6_whereAll M t x1 x2) (fun q3 =>
        zbd (f_X6_allAt M t q3 x2) (fun q4 =>
         some q4))
      else
       some (nI 0)))
set_option maxRecDepth 100000 in
set_option maxHeartbeats 4000000 in
theorem t_X6_all {L : Nat} {xs : Nat → Int32} (M : Nat) (s t : zS) (x1 x2 : Int32) (R : Int32) (hF : f_X6_all M t x1 x2 = some R) : zcall (ztb L xs) 5 142 [.ref 6, .int x1, .int x2] (zHp s t) = some (some (.int R), zHp s t) := by
  unfold f_X6_all at hF
  refine zcall_X (d := 4) (e := zm_X6_all) rfl rfl ?_
  show zX (ztb L xs) (zcall (ztb L xs) 4) 6 1 zk_X6_all 0 [.ref 6, .int x1, .int x2] [] (zHp s t) _
  refine zX_go (c := 2) (pc' := 2) (lv' := [.ref 6, .int x1, .int x2]) (st' := [.int x1, .ref 6]) (h' := zHp s t) rfl ?_
  obtain ⟨q1, hq, hF⟩ := zbd_ok hF
  refine zX_inv (av := [.ref 6, .int x1]) (st := []) (h' := zHp s t) rfl rfl rfl rfl rfl rfl (zcall_le (t_X6_isPlace M _ _ _ _ hq) (by decide)) ?_
  refine zX_go (c := 1) (pc' := if q1 = 0 then 16 else 8) (lv' := [.ref 6, .int x1, .int x2]) (st' := []) (h' := zHp s t) rfl ?_
  refine zX_ite hF (fun c0 hF => ?_) (fun c0 hF => ?_)
  · refine zX_go (c := 1) (pc' := 18) (lv' := [.ref 6, .int x1, .int x2]) (st' := [.int (-2)]) (h' := zHp s t) rfl ?_
    obtain rfl := Option.some.inj hF
    exact zX_reti rfl
  · refine zX_go (c := 2) (pc' := 10) (lv' := [.ref 6, .int x1, .int x2]) (st' := [.int x2, .ref 6]) (h' := zHp s t) rfl ?_
    obtain ⟨q2, hq, hF⟩ := zbd_ok hF
    refine zX_inv (av := [.ref 6, .int x2]) (st := []) (h' := zHp s t) rfl rfl rfl rfl rfl rfl (zcall_le (t_X6_isMark M _ _ _ _ hq) (by decide)) ?_
    refine zX_go (c := 1) (pc' := if q2 = 0 then 16 else 19) (lv' := [.ref 6, .int x1, .int x2]) (st' := []) (h' := zHp s t) rfl ?_
    refine zX_ite hF (fun c0 hF => ?_) (fun c0 hF => ?_)
    · refine zX_go (c := 1) (pc' := 18) (lv' := [.ref 6, .int x1, .int x2]) (st' := [.int (-2)]) (h' := zHp s t) rfl ?_
      obtain rfl := Option.some.inj hF
      exact zX_reti rfl
    · refine zX_go (c := 3) (pc' := 24) (lv' := [.ref 6, .int x1, .int x2]) (st' := [.int x2, .ref 34]) (h' := zHp s t) rfl ?_
      refine zX_ial (n := 12) rfl rfl hF (fun hF => ?_)
      refine zX_go (c := 2) (pc' := if (t 2 x2.toNatClampNeg) = (nI 2) then 33 else 29) (lv' := [.ref 6, .int x1, .int x2]) (st' := []) (h' := zHp s t) rfl ?_
      refine zX_ite hF (fun c0 hF => ?_) (fun c0 hF => ?_)
      · refine zX_go (c := 4) (pc' := 37) (lv' := [.ref 6, .int x1, .int x2]) (st' := [.int x2, .int x1, .ref 6, .ref 6]) (h' := zHp s t) rfl ?_
        obtain ⟨q3, hq, hF⟩ := zbd_ok hF
        refine zX_inv (av := [.ref 6, .int x1, .int x2]) (st := [.ref 6]) (h' := zHp s t) rfl rfl rfl rfl rfl rfl (zcall_le (t_X6_whereAll M _ _ _ _ _ hq) (by decide)) ?_
        refine zX_go (c := 1) (pc' := 41) (lv' := [.ref 6, .int x1, .int x2]) (st' := [.int x2, .int q3, .ref 6]) (h' := zHp s t) rfl ?_
        obtain ⟨q4, hq, hF⟩ := zbd_ok hF
        refine zX_inv (av := [.ref 6, .int q3, .int x2]) (st := []) (h' := zHp s t) rfl rfl rfl rfl rfl rfl (zcall_le (t_X6_allAt M _ _ _ _ _ hq) (by decide)) ?_
        obtain rfl := Option.some.inj hF
        exact zX_reti rfl
      · refine zX_go (c := 2) (pc' := 44) (lv' := [.ref 6, .int x1, .int x2]) (st' := [.int (nI 0)]) (h' := zHp s t) rfl ?_
        obtain rfl := Option.some.inj hF
        exact zX_reti rfl
def f_X6_of (M : Nat) (t : zS) (x1 x2 x3 : Int32) : Option (Int32) :=
  zbd (f_X6_isPlace M t x1) (fun q1 =>
   if q1 = 0 then
    some (-2)
   else
    zbd (f_X6_isMark M t x2) (fun q2 =>
     if q2 = 0 then
      some (-2)
     else
      zq (zin x2 12) <|
      if (t 2 x2.toNatClampNeg) = (nI 2) then
       zbd (f_X6_whereAll M t x1 x2) (fun q3 =>
        if x3 < 0 then
         some (-1)
        else
         zbd (f_X6_allAt M t q3 x2) (fun q4 =>
          if x3 < q4 then
           zbd (f_X6_standing M t q3 x2) (fun q5 =>
            if 0 < q5 then
             zbd (f_X6_stander M t q3 x2 x3) (fun q6 =>
              some q6)
            else
             zbd (f_X6_rowAt M t q3 x2) (fun q7 =>
              zq (zin (((nI 5) * q7) + x3) 500) <|
              some (t 20 (((nI 5) * q7) + x3).toNatClampNeg)))
          else
           some (-1)))
      else
       some (-1)))
set_option maxRecDepth 100000 in
set_option maxHeartbeats 4000000 in
theorem t_X6_of {L : Nat} {xs : Nat → Int32} (M : Nat) (s t : zS) (x1 x2 x3 : Int32) (R : Int32) (hF : f_X6_of M t x1 x2 x3 = some R) : zcall (ztb L xs) 5 143 [.ref 6, .int x1, .int x2, .int x3] (zHp s t) = some (some (.int R), zHp s t) := by
  unfold f_X6_of at hF
  refine zcall_X (d := 4) (e := zm_X6_of) rfl rfl ?_
  show zX (ztb L xs) (zcall (ztb L xs) 4) 6 1 zk_X6_of 0 [.ref 6, .int x1, .int x2, .int x3, .retAddr 0] [] (zHp s t) _
  refine zX_go (c := 2) (pc' := 2) (lv' := [.ref 6, .int x1, .int x2, .int x3, .retAddr 0]) (st' := [.int x1, .ref 6]) (h' := zHp s t) rfl ?_
  obtain ⟨q1, hq, hF⟩ := zbd_ok hF
  refine zX_inv (av := [.ref 6, .int x1]) (st := []) (h' := zHp s t) rfl rfl rfl rfl rfl rfl (zcall_le (t_X6_isPlace M _ _ _ _ hq) (by decide)) ?_
  refine zX_go (c := 1) (pc' := if q1 = 0 then 16 else 8) (lv' := [.ref 6, .int x1, .int x2, .int x3, .retAddr 0]) (st' := []) (h' := zHp s t) rfl ?_
  refine zX_ite hF (fun c0 hF => ?_) (fun c0 hF => ?_)
  · refine zX_go (c := 1) (pc' := 18) (lv' := [.ref 6, .int x1, .int x2, .int x3, .retAddr 0]) (st' := [.int (-2)]) (h' := zHp s t) rfl ?_
    obtain rfl := Option.some.inj hF
    exact zX_reti rfl
  · refine zX_go (c := 2) (pc' := 10) (lv' := [.ref 6, .int x1, .int x2, .int x3, .retAddr 0]) (st' := [.int x2, .ref 6]) (h' := zHp s t) rfl ?_
    obtain ⟨q2, hq, hF⟩ := zbd_ok hF
    refine zX_inv (av := [.ref 6, .int x2]) (st := []) (h' := zHp s t) rfl rfl rfl rfl rfl rfl (zcall_le (t_X6_isMark M _ _ _ _ hq) (by decide)) ?_
    refine zX_go (c := 1) (pc' := if q2 = 0 then 16 else 19) (lv' := [.ref 6, .int x1, .int x2, .int x3, .retAddr 0]) (st' := []) (h' := zHp s t) rfl ?_
    refine zX_ite hF (fun c0 hF => ?_) (fun c0 hF => ?_)
    · refine zX_go (c := 1) (pc' := 18) (lv' := [.ref 6, .int x1, .int x2, .int x3, .retAddr 0]) (st' := [.int (-2)]) (h' := zHp s t) rfl ?_
      obtain rfl := Option.some.inj hF
      exact zX_reti rfl
    · refine zX_go (c := 3) (pc' := 24) (lv' := [.ref 6, .int x1, .int x2, .int x3, .retAddr 0]) (st' := [.int x2, .ref 34]) (h' := zHp s t) rfl ?_
      refine zX_ial (n := 12) rfl rfl hF (fun hF => ?_)
      refine zX_go (c := 2) (pc' := if (t 2 x2.toNatClampNeg) = (nI 2) then 31 else 29) (lv' := [.ref 6, .int x1, .int x2, .int x3, .retAddr 0]) (st' := []) (h' := zHp s t) rfl ?_
      refine zX_ite hF (fun c0 hF => ?_) (fun c0 hF => ?_)
      · refine zX_go (c := 3) (pc' := 34) (lv' := [.ref 6, .int x1, .int x2, .int x3, .retAddr 0]) (st' := [.int x2, .int x1, .ref 6]) (h' := zHp s t) rfl ?_
        obtain ⟨q3, hq, hF⟩ := zbd_ok hF
        refine zX_inv (av := [.ref 6, .int x1, .int x2]) (st := []) (h' := zHp s t) rfl rfl rfl rfl rfl rfl (zcall_le (t_X6_whereAll M _ _ _ _ _ hq) (by decide)) ?_
        refine zX_go (c := 3) (pc' := if x3 < 0 then 54 else 43) (lv' := [.ref 6, .int x1, .int x2, .int x3, .int q3]) (st' := []) (h' := zHp s t) rfl ?_
        refine zX_ite hF (fun c0 hF => ?_) (fun c0 hF => ?_)
        · refine zX_go (c := 1) (pc' := 55) (lv' := [.ref 6, .int x1, .int x2, .int x3, .int q3]) (st' := [.int (-1)]) (h' := zHp s t) rfl ?_
          obtain rfl := Option.some.inj hF
          exact zX_reti rfl
        · refine zX_go (c := 4) (pc' := 48) (lv' := [.ref 6, .int x1, .int x2, .int x3, .int q3]) (st' := [.int x2, .int q3, .ref 6, .int x3]) (h' := zHp s t) rfl ?_
          obtain ⟨q4, hq, hF⟩ := zbd_ok hF
          refine zX_inv (av := [.ref 6, .int q3, .int x2]) (st := [.int x3]) (h' := zHp s t) rfl rfl rfl rfl rfl rfl (zcall_le (t_X6_allAt M _ _ _ _ _ hq) (by decide)) ?_
          refine zX_go (c := 1) (pc' := if x3 < q4 then 56 else 54) (lv' := [.ref 6, .int x1, .int x2, .int x3, .int q3]) (st' := []) (h' := zHp s t) rfl ?_
          refine zX_ite hF (fun c0 hF => ?_) (fun c0 hF => ?_)
          · refine zX_go (c := 3) (pc' := 60) (lv' := [.ref 6, .int x1, .int x2, .int x3, .int q3]) (st' := [.int x2, .int q3, .ref 6]) (h' := zHp s t) rfl ?_
            obtain ⟨q5, hq, hF⟩ := zbd_ok hF
            refine zX_inv (av := [.ref 6, .int q3, .int x2]) (st := []) (h' := zHp s t) rfl rfl rfl rfl rfl rfl (zcall_le (t_X6_standing M _ _ _ _ _ hq) (by decide)) ?_
            refine zX_go (c := 1) (pc' := if 0 < q5 then 66 else 77) (lv' := [.ref 6, .int x1, .int x2, .int x3, .int q3]) (st' := []) (h' := zHp s t) rfl ?_
            refine zX_ite hF (fun c0 hF => ?_) (fun c0 hF => ?_)
            · refine zX_go (c := 4) (pc' := 71) (lv' := [.ref 6, .int x1, .int x2, .int x3, .int q3]) (st' := [.int x3, .int x2, .int q3, .ref 6]) (h' := zHp s t) rfl ?_
              obtain ⟨q6, hq, hF⟩ := zbd_ok hF
              refine zX_inv (av := [.ref 6, .int q3, .int x2, .int x3]) (st := []) (h' := zHp s t) rfl rfl rfl rfl rfl rfl (zcall_le (t_X6_stander M _ _ _ _ _ _ hq) (by decide)) ?_
              refine zX_go (c := 1) (pc' := 93) (lv' := [.ref 6, .int x1, .int x2, .int x3, .int q3]) (st' := [.int q6]) (h' := zHp s t) rfl ?_
              obtain rfl := Option.some.inj hF
              exact zX_reti rfl
            · refine zX_go (c := 6) (pc' := 86) (lv' := [.ref 6, .int x1, .int x2, .int x3, .int q3]) (st' := [.int x2, .int q3, .ref 6, .int (nI 5), .ref 50]) (h' := zHp s t) rfl ?_
              obtain ⟨q7, hq, hF⟩ := zbd_ok hF
              refine zX_inv (av := [.ref 6, .int q3, .int x2]) (st := [.int (nI 5), .ref 50]) (h' := zHp s t) rfl rfl rfl rfl rfl rfl (zcall_le (t_X6_rowAt M _ _ _ _ _ hq) (by decide)) ?_
              refine zX_go (c := 3) (pc' := 92) (lv' := [.ref 6, .int x1, .int x2, .int x3, .int q3]) (st' := [.int (((nI 5) * q7) + x3), .ref 50]) (h' := zHp s t) rfl ?_
              refine zX_ial (n := 500) rfl rfl hF (fun hF => ?_)
              obtain rfl := Option.some.inj hF
              exact zX_reti rfl
          · refine zX_go (c := 1) (pc' := 55) (lv' := [.ref 6, .int x1, .int x2, .int x3, .int q3]) (st' := [.int (-1)]) (h' := zHp s t) rfl ?_
            obtain rfl := Option.some.inj hF
            exact zX_reti rfl
      · refine zX_go (c := 1) (pc' := 30) (lv' := [.ref 6, .int x1, .int x2, .int x3, .retAddr 0]) (st' := [.int (-1)]) (h' := zHp s t) rfl ?_
        obtain rfl := Option.some.inj hF
        exact zX_reti rfl
def l_X6_stands (M : Nat) : Nat → zS → Int32 → Int32 → Int32 → Option (Int32)
  | 0, _, _, _, _ => none
  | N + 1, t, y1, y2, y3 =>
    if y3 < (t 32 0) then
     zq (zin y3 100) <|
     if (t 33 y3.toNatClampNeg) = y1 then
      l_X6_stands M N t y1 (y2 + (nI 1)) (y3 + (nI 1))
     else
      l_X6_stands M N t y1 (y2 + (nI 0)) (y3 + (nI 1))
    else
     some y2
set_option maxRecDepth 100000 in
set_option maxHeartbeats 4000000 in
theorem tl_X6_stands {L : Nat} {xs : Nat → Int32} (M : Nat) (s : zS) : ∀ (N : Nat) (t : zS) (y1 : Int32) (y2 : Int32) (y3 : Int32) (R : Int32) (hF : l_X6_stands M N t y1 y2 y3 = some R), zX (ztb L xs) (zcall (ztb L xs) 1) 6 1 zk_X6_stands 15 [.ref 6, .int y1, .int y2, .int y3] [] (zHp s t) (some (.int R), zHp s t) := by
  intro N
  induction N with
  | zero => intro t y1 y2 y3 R hF; cases hF
  | succ N ih =>
    intro t y1 y2 y3 R hF
    unfold l_X6_stands at hF
    refine zX_go (c := 4) (pc' := if y3 < (t 32 0) then 23 else 47) (lv' := [.ref 6, .int y1, .int y2, .int y3]) (st' := []) (h' := zHp s t) rfl ?_
    refine zX_ite hF (fun c0 hF => ?_) (fun c0 hF => ?_)
    · refine zX_go (c := 4) (pc' := 29) (lv' := [.ref 6, .int y1, .int y2, .int y3]) (st' := [.int y3, .ref 58, .int y2]) (h' := zHp s t) rfl ?_
      refine zX_ial (n := 100) rfl rfl hF (fun hF => ?_)
      refine zX_go (c := 2) (pc' := if (t 33 y3.toNatClampNeg) = y1 then 34 else 38) (lv' := [.ref 6, .int y1, .int y2, .int y3]) (st' := [.int y2]) (h' := zHp s t) rfl ?_
      refine zX_ite hF (fun c0 hF => ?_) (fun c0 hF => ?_)
      · refine zX_go (c := 6) (pc' := 15) (lv' := [.ref 6, .int y1, .int (y2 + (nI 1)), .int (y3 + (nI 1))]) (st' := []) (h' := zHp s t) rfl ?_
        exact ih t y1 (y2 + (nI 1)) (y3 + (nI 1)) _ hF
      · refine zX_go (c := 5) (pc' := 15) (lv' := [.ref 6, .int y1, .int (y2 + (nI 0)), .int (y3 + (nI 1))]) (st' := []) (h' := zHp s t) rfl ?_
        exact ih t y1 (y2 + (nI 0)) (y3 + (nI 1)) _ hF
    · refine zX_go (c := 1) (pc' := 48) (lv' := [.ref 6, .int y1, .int y2, .int y3]) (st' := [.int y2]) (h' := zHp s t) rfl ?_
      obtain rfl := Option.some.inj hF
      exact zX_reti rfl
def f_X6_stands (M : Nat) (t : zS) (x1 : Int32) : Option (Int32) :=
  zbd (f_X6_isPlace M t x1) (fun q1 =>
   if q1 = 0 then
    some (-2)
   else
    l_X6_stands M M t x1 (nI 0) (nI 0))
set_option maxRecDepth 100000 in
set_option maxHeartbeats 4000000 in
theorem t_X6_stands {L : Nat} {xs : Nat → Int32} (M : Nat) (s t : zS) (x1 : Int32) (R : Int32) (hF : f_X6_stands M t x1 = some R) : zcall (ztb L xs) 2 144 [.ref 6, .int x1] (zHp s t) = some (some (.int R), zHp s t) := by
  unfold f_X6_stands at hF
  refine zcall_X (d := 1) (e := zm_X6_stands) rfl rfl ?_
  show zX (ztb L xs) (zcall (ztb L xs) 1) 6 1 zk_X6_stands 0 [.ref 6, .int x1, .retAddr 0, .retAddr 0] [] (zHp s t) _
  refine zX_go (c := 2) (pc' := 2) (lv' := [.ref 6, .int x1, .retAddr 0, .retAddr 0]) (st' := [.int x1, .ref 6]) (h' := zHp s t) rfl ?_
  obtain ⟨q1, hq, hF⟩ := zbd_ok hF
  refine zX_inv (av := [.ref 6, .int x1]) (st := []) (h' := zHp s t) rfl rfl rfl rfl rfl rfl (zcall_le (t_X6_isPlace M _ _ _ _ hq) (by decide)) ?_
  refine zX_go (c := 1) (pc' := if q1 = 0 then 8 else 11) (lv' := [.ref 6, .int x1, .retAddr 0, .retAddr 0]) (st' := []) (h' := zHp s t) rfl ?_
  refine zX_ite hF (fun c0 hF => ?_) (fun c0 hF => ?_)
  · refine zX_go (c := 1) (pc' := 10) (lv' := [.ref 6, .int x1, .retAddr 0, .retAddr 0]) (st' := [.int (-2)]) (h' := zHp s t) rfl ?_
    obtain rfl := Option.some.inj hF
    exact zX_reti rfl
  · refine zX_go (c := 4) (pc' := 15) (lv' := [.ref 6, .int x1, .int (nI 0), .int (nI 0)]) (st' := []) (h' := zHp s t) rfl ?_
    exact tl_X6_stands M s M t x1 (nI 0) (nI 0) _ hF
def f_X6_cause (M : Nat) (t : zS) : Option (Int32) :=
  some (t 21 0)
set_option maxRecDepth 100000 in
set_option maxHeartbeats 4000000 in
theorem t_X6_cause {L : Nat} {xs : Nat → Int32} (M : Nat) (s t : zS) (R : Int32) (hF : f_X6_cause M t = some R) : zcall (ztb L xs) 1 145 [.ref 6] (zHp s t) = some (some (.int R), zHp s t) := by
  unfold f_X6_cause at hF
  refine zcall_X (d := 0) (e := zm_X6_cause) rfl rfl ?_
  show zX (ztb L xs) (zcall (ztb L xs) 0) 6 1 zk_X6_cause 0 [.ref 6] [] (zHp s t) _
  refine zX_go (c := 2) (pc' := 4) (lv' := [.ref 6]) (st' := [.int (t 21 0)]) (h' := zHp s t) rfl ?_
  obtain rfl := Option.some.inj hF
  exact zX_reti rfl
def f_X6_count (M : Nat) (t : zS) (x1 : Int32) : Option (Int32) :=
  if x1 = (nI 0) then
   some (t 0 0)
  else
   if x1 = (nI 1) then
    some (t 12 0)
   else
    if x1 = (nI 2) then
     some (t 15 0)
    else
     if x1 = (nI 3) then
      some (t 32 0)
     else
      if x1 = (nI 4) then
       zbd (f_X6_isMark M t (x1 - (nI 20))) (fun q1 =>
        if q1 = 0 then
         zbd (f_X6_isMark M t (x1 - (nI 40))) (fun q2 =>
          if q2 = 0 then
           some (-2)
          else
           zq (zin (x1 - (nI 40)) 12) <|
           some (t 4 (x1 - (nI 40)).toNatClampNeg))
        else
         zq (zin (x1 - (nI 20)) 12) <|
         some (t 6 (x1 - (nI 20)).toNatClampNeg))
      else
       if x1 = (nI 5) then
        zbd (f_X6_isMark M t (x1 - (nI 20))) (fun q3 =>
         if q3 = 0 then
          zbd (f_X6_isMark M t (x1 - (nI 40))) (fun q4 =>
           if q4 = 0 then
            some (-2)
           else
            zq (zin (x1 - (nI 40)) 12) <|
            some (t 4 (x1 - (nI 40)).toNatClampNeg))
         else
          zq (zin (x1 - (nI 20)) 12) <|
          some (t 6 (x1 - (nI 20)).toNatClampNeg))
       else
        if x1 = (nI 6) then
         zbd (f_X6_isMark M t (x1 - (nI 20))) (fun q5 =>
          if q5 = 0 then
           zbd (f_X6_isMark M t (x1 - (nI 40))) (fun q6 =>
            if q6 = 0 then
             some (-2)
            else
             zq (zin (x1 - (nI 40)) 12) <|
             some (t 4 (x1 - (nI 40)).toNatClampNeg))
          else
           zq (zin (x1 - (nI 20)) 12) <|
           some (t 6 (x1 - (nI 20)).toNatClampNeg))
        else
         if x1 = (nI 7) then
          zbd (f_X6_isMark M t (x1 - (nI 20))) (fun q7 =>
           if q7 = 0 then
            zbd (f_X6_isMark M t (x1 - (nI 40))) (fun q8 =>
             if q8 = 0 then
              some (-2)
             else
              zq (zin (x1 - (nI 40)) 12) <|
              some (t 4 (x1 - (nI 40)).toNatClampNeg))
           else
            zq (zin (x1 - (nI 20)) 12) <|
            some (t 6 (x1 - (nI 20)).toNatClampNeg))
         else
          if x1 = (nI 8) then
           zbd (f_X6_isMark M t (x1 - (nI 20))) (fun q9 =>
            if q9 = 0 then
             zbd (f_X6_isMark M t (x1 - (nI 40))) (fun q10 =>
              if q10 = 0 then
               some (-2)
              else
               zq (zin (x1 - (nI 40)) 12) <|
               some (t 4 (x1 - (nI 40)).toNatClampNeg))
            else
             zq (zin (x1 - (nI 20)) 12) <|
             some (t 6 (x1 - (nI 20)).toNatClampNeg))
          else
           if x1 = (nI 9) then
            zbd (f_X6_isMark M t (x1 - (nI 20))) (fun q11 =>
             if q11 = 0 then
              zbd (f_X6_isMark M t (x1 - (nI 40))) (fun q12 =>
               if q12 = 0 then
                some (-2)
               else
                zq (zin (x1 - (nI 40)) 12) <|
                some (t 4 (x1 - (nI 40)).toNatClampNeg))
             else
              zq (zin (x1 - (nI 20)) 12) <|
              some (t 6 (x1 - (nI 20)).toNatClampNeg))
           else
            if x1 = (nI 10) then
             zbd (f_X6_isMark M t (x1 - (nI 20))) (fun q13 =>
              if q13 = 0 then
               zbd (f_X6_isMark M t (x1 - (nI 40))) (fun q14 =>
                if q14 = 0 then
                 some (-2)
                else
                 zq (zin (x1 - (nI 40)) 12) <|
                 some (t 4 (x1 - (nI 40)).toNatClampNeg))
              else
               zq (zin (x1 - (nI 20)) 12) <|
               some (t 6 (x1 - (nI 20)).toNatClampNeg))
            else
             if x1 = (nI 11) then
              zq (zin (x1 - (nI 10)) 4) <|
              some (t 22 (x1 - (nI 10)).toNatClampNeg)
             else
              if x1 = (nI 12) then
               zq (zin (x1 - (nI 10)) 4) <|
               some (t 22 (x1 - (nI 10)).toNatClampNeg)
              else
               if x1 = (nI 13) then
                zq (zin (x1 - (nI 10)) 4) <|
                some (t 22 (x1 - (nI 10)).toNatClampNeg)
               else
                zbd (f_X6_isMark M t (x1 - (nI 20))) (fun q15 =>
                 if q15 = 0 then
                  zbd (f_X6_isMark M t (x1 - (nI 40))) (fun q16 =>
                   if q16 = 0 then
                    some (-2)
                   else
                    zq (zin (x1 - (nI 40)) 12) <|
                    some (t 4 (x1 - (nI 40)).toNatClampNeg))
                 else
                  zq (zin (x1 - (nI 20)) 12) <|
                  some (t 6 (x1 - (nI 20)).toNatClampNeg))
set_option maxRecDepth 100000 in
set_option maxHeartbeats 4000000 in
theorem t_X6_count {L : Nat} {xs : Nat → Int32} (M : Nat) (s t : zS) (x1 : Int32) (R : Int32) (hF : f_X6_count M t x1 = some R) : zcall (ztb L xs) 2 146 [.ref 6, .int x1] (zHp s t) = some (some (.int R), zHp s t) := by
  unfold f_X6_count at hF
  refine zcall_X (d := 1) (e := zm_X6_count) rfl rfl ?_
  show zX (ztb L xs) (zcall (ztb L xs) 1) 6 1 zk_X6_count 0 [.ref 6, .int x1] [] (zHp s t) _
  refine zX_go (c := 2) (pc' := if x1 = (nI 0) then 72 else if x1 = (nI 1) then 77 else if x1 = (nI 2) then 82 else if x1 = (nI 3) then 87 else if x1 = (nI 4) then 102 else if x1 = (nI 5) then 102 else if x1 = (nI 6) then 102 else if x1 = (nI 7) then 102 else if x1 = (nI 8) then 102 else if x1 = (nI 9) then 102 else if x1 = (nI 10) then 102 else if x1 = (nI 11) then 92 else if x1 = (nI 12) then 92 else if x1 = (nI 13) then 92 else 102) (lv' := [.ref 6, .int x1]) (st' := []) (h' := zHp s t) rfl ?_
  refine zX_ite hF (fun c0 hF => ?_) (fun c0 hF => ?_)
  · refine zX_go (c := 2) (pc' := 76) (lv' := [.ref 6, .int x1]) (st' := [.int (t 0 0)]) (h' := zHp s t) rfl ?_
    obtain rfl := Option.some.inj hF
    exact zX_reti rfl
  · refine zX_ite hF (fun c0 hF => ?_) (fun c0 hF => ?_)
    · refine zX_go (c := 2) (pc' := 81) (lv' := [.ref 6, .int x1]) (st' := [.int (t 12 0)]) (h' := zHp s t) rfl ?_
      obtain rfl := Option.some.inj hF
      exact zX_reti rfl
    · refine zX_ite hF (fun c0 hF => ?_) (fun c0 hF => ?_)
      · refine zX_go (c := 2) (pc' := 86) (lv' := [.ref 6, .int x1]) (st' := [.int (t 15 0)]) (h' := zHp s t) rfl ?_
        obtain rfl := Option.some.inj hF
        exact zX_reti rfl
      · refine zX_ite hF (fun c0 hF => ?_) (fun c0 hF => ?_)
        · refine zX_go (c := 2) (pc' := 91) (lv' := [.ref 6, .int x1]) (st' := [.int (t 32 0)]) (h' := zHp s t) rfl ?_
          obtain rfl := Option.some.inj hF
          exact zX_reti rfl
        · refine zX_ite hF (fun c0 hF => ?_) (fun c0 hF => ?_)
          · refine zX_go (c := 4) (pc' := 107) (lv' := [.ref 6, .int x1]) (st' := [.int (x1 - (nI 20)), .ref 6]) (h' := zHp s t) rfl ?_
            obtain ⟨q1, hq, hF⟩ := zbd_ok hF
            refine zX_inv (av := [.ref 6, .int (x1 - (nI 20))]) (st := []) (h' := zHp s t) rfl rfl rfl rfl rfl rfl (zcall_le (t_X6_isMark M _ _ _ _ hq) (by decide)) ?_
            refine zX_go (c := 1) (pc' := if q1 = 0 then 125 else 113) (lv' := [.ref 6, .int x1]) (st' := []) (h' := zHp s t) rfl ?_
            refine zX_ite hF (fun c0 hF => ?_) (fun c0 hF => ?_)
            · refine zX_go (c := 4) (pc' := 130) (lv' := [.ref 6, .int x1]) (st' := [.int (x1 - (nI 40)), .ref 6]) (h' := zHp s t) rfl ?_
              obtain ⟨q2, hq, hF⟩ := zbd_ok hF
              refine zX_inv (av := [.ref 6, .int (x1 - (nI 40))]) (st := []) (h' := zHp s t) rfl rfl rfl rfl rfl rfl (zcall_le (t_X6_isMark M _ _ _ _ hq) (by decide)) ?_
              refine zX_go (c := 1) (pc' := if q2 = 0 then 148 else 136) (lv' := [.ref 6, .int x1]) (st' := []) (h' := zHp s t) rfl ?_
              refine zX_ite hF (fun c0 hF => ?_) (fun c0 hF => ?_)
              · refine zX_go (c := 1) (pc' := 150) (lv' := [.ref 6, .int x1]) (st' := [.int (-2)]) (h' := zHp s t) rfl ?_
                obtain rfl := Option.some.inj hF
                exact zX_reti rfl
              · refine zX_go (c := 5) (pc' := 144) (lv' := [.ref 6, .int x1]) (st' := [.int (x1 - (nI 40)), .ref 36]) (h' := zHp s t) rfl ?_
                refine zX_ial (n := 12) rfl rfl hF (fun hF => ?_)
                refine zX_go (c := 1) (pc' := 150) (lv' := [.ref 6, .int x1]) (st' := [.int (t 4 (x1 - (nI 40)).toNatClampNeg)]) (h' := zHp s t) rfl ?_
                obtain rfl := Option.some.inj hF
                exact zX_reti rfl
            · refine zX_go (c := 5) (pc' := 121) (lv' := [.ref 6, .int x1]) (st' := [.int (x1 - (nI 20)), .ref 38]) (h' := zHp s t) rfl ?_
              refine zX_ial (n := 12) rfl rfl hF (fun hF => ?_)
              refine zX_go (c := 1) (pc' := 150) (lv' := [.ref 6, .int x1]) (st' := [.int (t 6 (x1 - (nI 20)).toNatClampNeg)]) (h' := zHp s t) rfl ?_
              obtain rfl := Option.some.inj hF
              exact zX_reti rfl
          · refine zX_ite hF (fun c0 hF => ?_) (fun c0 hF => ?_)
            · refine zX_go (c := 4) (pc' := 107) (lv' := [.ref 6, .int x1]) (st' := [.int (x1 - (nI 20)), .ref 6]) (h' := zHp s t) rfl ?_
              obtain ⟨q3, hq, hF⟩ := zbd_ok hF
              refine zX_inv (av := [.ref 6, .int (x1 - (nI 20))]) (st := []) (h' := zHp s t) rfl rfl rfl rfl rfl rfl (zcall_le (t_X6_isMark M _ _ _ _ hq) (by decide)) ?_
              refine zX_go (c := 1) (pc' := if q3 = 0 then 125 else 113) (lv' := [.ref 6, .int x1]) (st' := []) (h' := zHp s t) rfl ?_
              refine zX_ite hF (fun c0 hF => ?_) (fun c0 hF => ?_)
              · refine zX_go (c := 4) (pc' := 130) (lv' := [.ref 6, .int x1]) (st' := [.int (x1 - (nI 40)), .ref 6]) (h' := zHp s t) rfl ?_
                obtain ⟨q4, hq, hF⟩ := zbd_ok hF
                refine zX_inv (av := [.ref 6, .int (x1 - (nI 40))]) (st := []) (h' := zHp s t) rfl rfl rfl rfl rfl rfl (zcall_le (t_X6_isMark M _ _ _ _ hq) (by decide)) ?_
                refine zX_go (c := 1) (pc' := if q4 = 0 then 148 else 136) (lv' := [.ref 6, .int x1]) (st' := []) (h' := zHp s t) rfl ?_
                refine zX_ite hF (fun c0 hF => ?_) (fun c0 hF => ?_)
                · refine zX_go (c := 1) (pc' := 150) (lv' := [.ref 6, .int x1]) (st' := [.int (-2)]) (h' := zHp s t) rfl ?_
                  obtain rfl := Option.some.inj hF
                  exact zX_reti rfl
                · refine zX_go (c := 5) (pc' := 144) (lv' := [.ref 6, .int x1]) (st' := [.int (x1 - (nI 40)), .ref 36]) (h' := zHp s t) rfl ?_
                  refine zX_ial (n := 12) rfl rfl hF (fun hF => ?_)
                  refine zX_go (c := 1) (pc' := 150) (lv' := [.ref 6, .int x1]) (st' := [.int (t 4 (x1 - (nI 40)).toNatClampNeg)]) (h' := zHp s t) rfl ?_
                  obtain rfl := Option.some.inj hF
                  exact zX_reti rfl
              · refine zX_go (c := 5) (pc' := 121) (lv' := [.ref 6, .int x1]) (st' := [.int (x1 - (nI 20)), .ref 38]) (h' := zHp s t) rfl ?_
                refine zX_ial (n := 12) rfl rfl hF (fun hF => ?_)
                refine zX_go (c := 1) (pc' := 150) (lv' := [.ref 6, .int x1]) (st' := [.int (t 6 (x1 - (nI 20)).toNatClampNeg)]) (h' := zHp s t) rfl ?_
                obtain rfl := Option.some.inj hF
                exact zX_reti rfl
            · refine zX_ite hF (fun c0 hF => ?_) (fun c0 hF => ?_)
              · refine zX_go (c := 4) (pc' := 107) (lv' := [.ref 6, .int x1]) (st' := [.int (x1 - (nI 20)), .ref 6]) (h' := zHp s t) rfl ?_
                obtain ⟨q5, hq, hF⟩ := zbd_ok hF
                refine zX_inv (av := [.ref 6, .int (x1 - (nI 20))]) (st := []) (h' := zHp s t) rfl rfl rfl rfl rfl rfl (zcall_le (t_X6_isMark M _ _ _ _ hq) (by decide)) ?_
                refine zX_go (c := 1) (pc' := if q5 = 0 then 125 else 113) (lv' := [.ref 6, .int x1]) (st' := []) (h' := zHp s t) rfl ?_
                refine zX_ite hF (fun c0 hF => ?_) (fun c0 hF => ?_)
                · refine zX_go (c := 4) (pc' := 130) (lv' := [.ref 6, .int x1]) (st' := [.int (x1 - (nI 40)), .ref 6]) (h' := zHp s t) rfl ?_
                  obtain ⟨q6, hq, hF⟩ := zbd_ok hF
                  refine zX_inv (av := [.ref 6, .int (x1 - (nI 40))]) (st := []) (h' := zHp s t) rfl rfl rfl rfl rfl rfl (zcall_le (t_X6_isMark M _ _ _ _ hq) (by decide)) ?_
                  refine zX_go (c := 1) (pc' := if q6 = 0 then 148 else 136) (lv' := [.ref 6, .int x1]) (st' := []) (h' := zHp s t) rfl ?_
                  refine zX_ite hF (fun c0 hF => ?_) (fun c0 hF => ?_)
                  · refine zX_go (c := 1) (pc' := 150) (lv' := [.ref 6, .int x1]) (st' := [.int (-2)]) (h' := zHp s t) rfl ?_
                    obtain rfl := Option.some.inj hF
                    exact zX_reti rfl
                  · refine zX_go (c := 5) (pc' := 144) (lv' := [.ref 6, .int x1]) (st' := [.int (x1 - (nI 40)), .ref 36]) (h' := zHp s t) rfl ?_
                    refine zX_ial (n := 12) rfl rfl hF (fun hF => ?_)
                    refine zX_go (c := 1) (pc' := 150) (lv' := [.ref 6, .int x1]) (st' := [.int (t 4 (x1 - (nI 40)).toNatClampNeg)]) (h' := zHp s t) rfl ?_
                    obtain rfl := Option.some.inj hF
                    exact zX_reti rfl
                · refine zX_go (c := 5) (pc' := 121) (lv' := [.ref 6, .int x1]) (st' := [.int (x1 - (nI 20)), .ref 38]) (h' := zHp s t) rfl ?_
                  refine zX_ial (n := 12) rfl rfl hF (fun hF => ?_)
                  refine zX_go (c := 1) (pc' := 150) (lv' := [.ref 6, .int x1]) (st' := [.int (t 6 (x1 - (nI 20)).toNatClampNeg)]) (h' := zHp s t) rfl ?_
                  obtain rfl := Option.some.inj hF
                  exact zX_reti rfl
              · refine zX_ite hF (fun c0 hF => ?_) (fun c0 hF => ?_)
                · refine zX_go (c := 4) (pc' := 107) (lv' := [.ref 6, .int x1]) (st' := [.int (x1 - (nI 20)), .ref 6]) (h' := zHp s t) rfl ?_
                  obtain ⟨q7, hq, hF⟩ := zbd_ok hF
                  refine zX_inv (av := [.ref 6, .int (x1 - (nI 20))]) (st := []) (h' := zHp s t) rfl rfl rfl rfl rfl rfl (zcall_le (t_X6_isMark M _ _ _ _ hq) (by decide)) ?_
                  refine zX_go (c := 1) (pc' := if q7 = 0 then 125 else 113) (lv' := [.ref 6, .int x1]) (st' := []) (h' := zHp s t) rfl ?_
                  refine zX_ite hF (fun c0 hF => ?_) (fun c0 hF => ?_)
                  · refine zX_go (c := 4) (pc' := 130) (lv' := [.ref 6, .int x1]) (st' := [.int (x1 - (nI 40)), .ref 6]) (h' := zHp s t) rfl ?_
                    obtain ⟨q8, hq, hF⟩ := zbd_ok hF
                    refine zX_inv (av := [.ref 6, .int (x1 - (nI 40))]) (st := []) (h' := zHp s t) rfl rfl rfl rfl rfl rfl (zcall_le (t_X6_isMark M _ _ _ _ hq) (by decide)) ?_
                    refine zX_go (c := 1) (pc' := if q8 = 0 then 148 else 136) (lv' := [.ref 6, .int x1]) (st' := []) (h' := zHp s t) rfl ?_
                    refine zX_ite hF (fun c0 hF => ?_) (fun c0 hF => ?_)
                    · refine zX_go (c := 1) (pc' := 150) (lv' := [.ref 6, .int x1]) (st' := [.int (-2)]) (h' := zHp s t) rfl ?_
                      obtain rfl := Option.some.inj hF
                      exact zX_reti rfl
                    · refine zX_go (c := 5) (pc' := 144) (lv' := [.ref 6, .int x1]) (st' := [.int (x1 - (nI 40)), .ref 36]) (h' := zHp s t) rfl ?_
                      refine zX_ial (n := 12) rfl rfl hF (fun hF => ?_)
                      refine zX_go (c := 1) (pc' := 150) (lv' := [.ref 6, .int x1]) (st' := [.int (t 4 (x1 - (nI 40)).toNatClampNeg)]) (h' := zHp s t) rfl ?_
                      obtain rfl := Option.some.inj hF
                      exact zX_reti rfl
                  · refine zX_go (c := 5) (pc' := 121) (lv' := [.ref 6, .int x1]) (st' := [.int (x1 - (nI 20)), .ref 38]) (h' := zHp s t) rfl ?_
                    refine zX_ial (n := 12) rfl rfl hF (fun hF => ?_)
                    refine zX_go (c := 1) (pc' := 150) (lv' := [.ref 6, .int x1]) (st' := [.int (t 6 (x1 - (nI 20)).toNatClampNeg)]) (h' := zHp s t) rfl ?_
                    obtain rfl := Option.some.inj hF
                    exact zX_reti rfl
                · refine zX_ite hF (fun c0 hF => ?_) (fun c0 hF => ?_)
                  · refine zX_go (c := 4) (pc' := 107) (lv' := [.ref 6, .int x1]) (st' := [.int (x1 - (nI 20)), .ref 6]) (h' := zHp s t) rfl ?_
                    obtain ⟨q9, hq, hF⟩ := zbd_ok hF
                    refine zX_inv (av := [.ref 6, .int (x1 - (nI 20))]) (st := []) (h' := zHp s t) rfl rfl rfl rfl rfl rfl (zcall_le (t_X6_isMark M _ _ _ _ hq) (by decide)) ?_
                    refine zX_go (c := 1) (pc' := if q9 = 0 then 125 else 113) (lv' := [.ref 6, .int x1]) (st' := []) (h' := zHp s t) rfl ?_
                    refine zX_ite hF (fun c0 hF => ?_) (fun c0 hF => ?_)
                    · refine zX_go (c := 4) (pc' := 130) (lv' := [.ref 6, .int x1]) (st' := [.int (x1 - (nI 40)), .ref 6]) (h' := zHp s t) rfl ?_
                      obtain ⟨q10, hq, hF⟩ := zbd_ok hF
                      refine zX_inv (av := [.ref 6, .int (x1 - (nI 40))]) (st := []) (h' := zHp s t) rfl rfl rfl rfl rfl rfl (zcall_le (t_X6_isMark M _ _ _ _ hq) (by decide)) ?_
                      refine zX_go (c := 1) (pc' := if q10 = 0 then 148 else 136) (lv' := [.ref 6, .int x1]) (st' := []) (h' := zHp s t) rfl ?_
                      refine zX_ite hF (fun c0 hF => ?_) (fun c0 hF => ?_)
                      · refine zX_go (c := 1) (pc' := 150) (lv' := [.ref 6, .int x1]) (st' := [.int (-2)]) (h' := zHp s t) rfl ?_
                        obtain rfl := Option.some.inj hF
                        exact zX_reti rfl
                      · refine zX_go (c := 5) (pc' := 144) (lv' := [.ref 6, .int x1]) (st' := [.int (x1 - (nI 40)), .ref 36]) (h' := zHp s t) rfl ?_
                        refine zX_ial (n := 12) rfl rfl hF (fun hF => ?_)
                        refine zX_go (c := 1) (pc' := 150) (lv' := [.ref 6, .int x1]) (st' := [.int (t 4 (x1 - (nI 40)).toNatClampNeg)]) (h' := zHp s t) rfl ?_
                        obtain rfl := Option.some.inj hF
                        exact zX_reti rfl
                    · refine zX_go (c := 5) (pc' := 121) (lv' := [.ref 6, .int x1]) (st' := [.int (x1 - (nI 20)), .ref 38]) (h' := zHp s t) rfl ?_
                      refine zX_ial (n := 12) rfl rfl hF (fun hF => ?_)
                      refine zX_go (c := 1) (pc' := 150) (lv' := [.ref 6, .int x1]) (st' := [.int (t 6 (x1 - (nI 20)).toNatClampNeg)]) (h' := zHp s t) rfl ?_
                      obtain rfl := Option.some.inj hF
                      exact zX_reti rfl
                  · refine zX_ite hF (fun c0 hF => ?_) (fun c0 hF => ?_)
                    · refine zX_go (c := 4) (pc' := 107) (lv' := [.ref 6, .int x1]) (st' := [.int (x1 - (nI 20)), .ref 6]) (h' := zHp s t) rfl ?_
                      obtain ⟨q11, hq, hF⟩ := zbd_ok hF
                      refine zX_inv (av := [.ref 6, .int (x1 - (nI 20))]) (st := []) (h' := zHp s t) rfl rfl rfl rfl rfl rfl (zcall_le (t_X6_isMark M _ _ _ _ hq) (by decide)) ?_
                      refine zX_go (c := 1) (pc' := if q11 = 0 then 125 else 113) (lv' := [.ref 6, .int x1]) (st' := []) (h' := zHp s t) rfl ?_
                      refine zX_ite hF (fun c0 hF => ?_) (fun c0 hF => ?_)
                      · refine zX_go (c := 4) (pc' := 130) (lv' := [.ref 6, .int x1]) (st' := [.int (x1 - (nI 40)), .ref 6]) (h' := zHp s t) rfl ?_
                        obtain ⟨q12, hq, hF⟩ := zbd_ok hF
                        refine zX_inv (av := [.ref 6, .int (x1 - (nI 40))]) (st := []) (h' := zHp s t) rfl rfl rfl rfl rfl rfl (zcall_le (t_X6_isMark M _ _ _ _ hq) (by decide)) ?_
                        refine zX_go (c := 1) (pc' := if q12 = 0 then 148 else 136) (lv' := [.ref 6, .int x1]) (st' := []) (h' := zHp s t) rfl ?_
                        refine zX_ite hF (fun c0 hF => ?_) (fun c0 hF => ?_)
                        · refine zX_go (c := 1) (pc' := 150) (lv' := [.ref 6, .int x1]) (st' := [.int (-2)]) (h' := zHp s t) rfl ?_
                          obtain rfl := Option.some.inj hF
                          exact zX_reti rfl
                        · refine zX_go (c := 5) (pc' := 144) (lv' := [.ref 6, .int x1]) (st' := [.int (x1 - (nI 40)), .ref 36]) (h' := zHp s t) rfl ?_
                          refine zX_ial (n := 12) rfl rfl hF (fun hF => ?_)
                          refine zX_go (c := 1) (pc' := 150) (lv' := [.ref 6, .int x1]) (st' := [.int (t 4 (x1 - (nI 40)).toNatClampNeg)]) (h' := zHp s t) rfl ?_
                          obtain rfl := Option.some.inj hF
                          exact zX_reti rfl
                      · refine zX_go (c := 5) (pc' := 121) (lv' := [.ref 6, .int x1]) (st' := [.int (x1 - (nI 20)), .ref 38]) (h' := zHp s t) rfl ?_
                        refine zX_ial (n := 12) rfl rfl hF (fun hF => ?_)
                        refine zX_go (c := 1) (pc' := 150) (lv' := [.ref 6, .int x1]) (st' := [.int (t 6 (x1 - (nI 20)).toNatClampNeg)]) (h' := zHp s t) rfl ?_
                        obtain rfl := Option.some.inj hF
                        exact zX_reti rfl
                    · refine zX_ite hF (fun c0 hF => ?_) (fun c0 hF => ?_)
                      · refine zX_go (c := 4) (pc' := 107) (lv' := [.ref 6, .int x1]) (st' := [.int (x1 - (nI 20)), .ref 6]) (h' := zHp s t) rfl ?_
                        obtain ⟨q13, hq, hF⟩ := zbd_ok hF
                        refine zX_inv (av := [.ref 6, .int (x1 - (nI 20))]) (st := []) (h' := zHp s t) rfl rfl rfl rfl rfl rfl (zcall_le (t_X6_isMark M _ _ _ _ hq) (by decide)) ?_
                        refine zX_go (c := 1) (pc' := if q13 = 0 then 125 else 113) (lv' := [.ref 6, .int x1]) (st' := []) (h' := zHp s t) rfl ?_
                        refine zX_ite hF (fun c0 hF => ?_) (fun c0 hF => ?_)
                        · refine zX_go (c := 4) (pc' := 130) (lv' := [.ref 6, .int x1]) (st' := [.int (x1 - (nI 40)), .ref 6]) (h' := zHp s t) rfl ?_
                          obtain ⟨q14, hq, hF⟩ := zbd_ok hF
                          refine zX_inv (av := [.ref 6, .int (x1 - (nI 40))]) (st := []) (h' := zHp s t) rfl rfl rfl rfl rfl rfl (zcall_le (t_X6_isMark M _ _ _ _ hq) (by decide)) ?_
                          refine zX_go (c := 1) (pc' := if q14 = 0 then 148 else 136) (lv' := [.ref 6, .int x1]) (st' := []) (h' := zHp s t) rfl ?_
                          refine zX_ite hF (fun c0 hF => ?_) (fun c0 hF => ?_)
                          · refine zX_go (c := 1) (pc' := 150) (lv' := [.ref 6, .int x1]) (st' := [.int (-2)]) (h' := zHp s t) rfl ?_
                            obtain rfl := Option.some.inj hF
                            exact zX_reti rfl
                          · refine zX_go (c := 5) (pc' := 144) (lv' := [.ref 6, .int x1]) (st' := [.int (x1 - (nI 40)), .ref 36]) (h' := zHp s t) rfl ?_
                            refine zX_ial (n := 12) rfl rfl hF (fun hF => ?_)
                            refine zX_go (c := 1) (pc' := 150) (lv' := [.ref 6, .int x1]) (st' := [.int (t 4 (x1 - (nI 40)).toNatClampNeg)]) (h' := zHp s t) rfl ?_
                            obtain rfl := Option.some.inj hF
                            exact zX_reti rfl
                        · refine zX_go (c := 5) (pc' := 121) (lv' := [.ref 6, .int x1]) (st' := [.int (x1 - (nI 20)), .ref 38]) (h' := zHp s t) rfl ?_
                          refine zX_ial (n := 12) rfl rfl hF (fun hF => ?_)
                          refine zX_go (c := 1) (pc' := 150) (lv' := [.ref 6, .int x1]) (st' := [.int (t 6 (x1 - (nI 20)).toNatClampNeg)]) (h' := zHp s t) rfl ?_
                          obtain rfl := Option.some.inj hF
                          exact zX_reti rfl
                      · refine zX_ite hF (fun c0 hF => ?_) (fun c0 hF => ?_)
                        · refine zX_go (c := 5) (pc' := 100) (lv' := [.ref 6, .int x1]) (st' := [.int (x1 - (nI 10)), .ref 51]) (h' := zHp s t) rfl ?_
                          refine zX_ial (n := 4) rfl rfl hF (fun hF => ?_)
                          obtain rfl := Option.some.inj hF
                          exact zX_reti rfl
                        · refine zX_ite hF (fun c0 hF => ?_) (fun c0 hF => ?_)
                          · refine zX_go (c := 5) (pc' := 100) (lv' := [.ref 6, .int x1]) (st' := [.int (x1 - (nI 10)), .ref 51]) (h' := zHp s t) rfl ?_
                            refine zX_ial (n := 4) rfl rfl hF (fun hF => ?_)
                            obtain rfl := Option.some.inj hF
                            exact zX_reti rfl
                          · refine zX_ite hF (fun c0 hF => ?_) (fun c0 hF => ?_)
                            · refine zX_go (c := 5) (pc' := 100) (lv' := [.ref 6, .int x1]) (st' := [.int (x1 - (nI 10)), .ref 51]) (h' := zHp s t) rfl ?_
                              refine zX_ial (n := 4) rfl rfl hF (fun hF => ?_)
                              obtain rfl := Option.some.inj hF
                              exact zX_reti rfl
                            · refine zX_go (c := 4) (pc' := 107) (lv' := [.ref 6, .int x1]) (st' := [.int (x1 - (nI 20)), .ref 6]) (h' := zHp s t) rfl ?_
                              obtain ⟨q15, hq, hF⟩ := zbd_ok hF
                              refine zX_inv (av := [.ref 6, .int (x1 - (nI 20))]) (st := []) (h' := zHp s t) rfl rfl rfl rfl rfl rfl (zcall_le (t_X6_isMark M _ _ _ _ hq) (by decide)) ?_
                              refine zX_go (c := 1) (pc' := if q15 = 0 then 125 else 113) (lv' := [.ref 6, .int x1]) (st' := []) (h' := zHp s t) rfl ?_
                              refine zX_ite hF (fun c0 hF => ?_) (fun c0 hF => ?_)
                              · refine zX_go (c := 4) (pc' := 130) (lv' := [.ref 6, .int x1]) (st' := [.int (x1 - (nI 40)), .ref 6]) (h' := zHp s t) rfl ?_
                                obtain ⟨q16, hq, hF⟩ := zbd_ok hF
                                refine zX_inv (av := [.ref 6, .int (x1 - (nI 40))]) (st := []) (h' := zHp s t) rfl rfl rfl rfl rfl rfl (zcall_le (t_X6_isMark M _ _ _ _ hq) (by decide)) ?_
                                refine zX_go (c := 1) (pc' := if q16 = 0 then 148 else 136) (lv' := [.ref 6, .int x1]) (st' := []) (h' := zHp s t) rfl ?_
                                refine zX_ite hF (fun c0 hF => ?_) (fun c0 hF => ?_)
                                · refine zX_go (c := 1) (pc' := 150) (lv' := [.ref 6, .int x1]) (st' := [.int (-2)]) (h' := zHp s t) rfl ?_
                                  obtain rfl := Option.some.inj hF
                                  exact zX_reti rfl
                                · refine zX_go (c := 5) (pc' := 144) (lv' := [.ref 6, .int x1]) (st' := [.int (x1 - (nI 40)), .ref 36]) (h' := zHp s t) rfl ?_
                                  refine zX_ial (n := 12) rfl rfl hF (fun hF => ?_)
                                  refine zX_go (c := 1) (pc' := 150) (lv' := [.ref 6, .int x1]) (st' := [.int (t 4 (x1 - (nI 40)).toNatClampNeg)]) (h' := zHp s t) rfl ?_
                                  obtain rfl := Option.some.inj hF
                                  exact zX_reti rfl
                              · refine zX_go (c := 5) (pc' := 121) (lv' := [.ref 6, .int x1]) (st' := [.int (x1 - (nI 20)), .ref 38]) (h' := zHp s t) rfl ?_
                                refine zX_ial (n := 12) rfl rfl hF (fun hF => ?_)
                                refine zX_go (c := 1) (pc' := 150) (lv' := [.ref 6, .int x1]) (st' := [.int (t 6 (x1 - (nI 20)).toNatClampNeg)]) (h' := zHp s t) rfl ?_
                                obtain rfl := Option.some.inj hF
                                exact zX_reti rfl
