/-! What the methods answer, and that the small machine answers so: by program (gen2.py). -/
def f_X4_begin (M : Nat) (s : zS) (x1 : Int32) : Option (zS) :=
  zq (x1 == 0 || x1 == 1) <|
  some (zup (zup s 32 0 (nI 0)) 33 0 x1)
set_option maxRecDepth 100000 in
set_option maxHeartbeats 4000000 in
theorem t_X4_begin {L : Nat} {xs : Nat → Int32} (M : Nat) (s t : zS) (x1 : Int32) (R : zS) (hF : f_X4_begin M s x1 = some R) : zcall (ztb L xs) 1 46 [.ref 5, .int x1] (zHp s t) = some (none, zHp R t) := by
  unfold f_X4_begin at hF
  refine zcall_X (d := 0) (e := zm_X4_begin) rfl rfl ?_
  show zX (ztb L xs) (zcall (ztb L xs) 0) 4 0 zk_X4_begin 0 [.ref 5, .int x1] [] (zHp s t) _
  refine zX_go (c := 2) (pc' := 2) (lv' := [.ref 5, .int x1]) (st' := [.int (nI 0), .ref 5]) (h' := zHp s t) rfl ?_
  refine zX_pfi (h' := zHp (zup s 32 0 (nI 0)) t) rfl rfl rfl rfl (zst_5_5 _ _ _) ?_
  refine zX_go (c := 2) (pc' := 7) (lv' := [.ref 5, .int x1]) (st' := [.int x1, .ref 5]) (h' := zHp (zup s 32 0 (nI 0)) t) rfl ?_
  refine zX_pfz (h' := zHp (zup (zup s 32 0 (nI 0)) 33 0 x1) t) rfl rfl rfl rfl (zst_5_6 _ _ _) hF (fun hF => ?_)
  obtain rfl := Option.some.inj hF
  exact zX_retv rfl
def f_X4_writeByte (M : Nat) (s : zS) (x1 : Int32) : Option (zS) :=
  if (s 33 0) = 0 then
   some (zup s 32 0 ((s 32 0) + (nI 1)))
  else
   if (s 32 0) < (nI 2000) then
    zq (zin (s 32 0) 2000) <|
    some (zup (zup s 29 (s 32 0).toNatClampNeg (zbn 2 x1.toInt8.toInt32)) 32 0 ((s 32 0) + (nI 1)))
   else
    some (zup s 32 0 ((s 32 0) + (nI 1)))
set_option maxRecDepth 100000 in
set_option maxHeartbeats 4000000 in
theorem t_X4_writeByte {L : Nat} {xs : Nat → Int32} (M : Nat) (s t : zS) (x1 : Int32) (R : zS) (hF : f_X4_writeByte M s x1 = some R) : zcall (ztb L xs) 1 47 [.ref 5, .int x1] (zHp s t) = some (none, zHp R t) := by
  unfold f_X4_writeByte at hF
  refine zcall_X (d := 0) (e := zm_X4_writeByte) rfl rfl ?_
  show zX (ztb L xs) (zcall (ztb L xs) 0) 4 0 zk_X4_writeByte 0 [.ref 5, .int x1] [] (zHp s t) _
  refine zX_go (c := 3) (pc' := if (s 33 0) = 0 then 28 else 7) (lv' := [.ref 5, .int x1]) (st' := []) (h' := zHp s t) rfl ?_
  refine zX_ite hF (fun c0 hF => ?_) (fun c0 hF => ?_)
  · refine zX_go (c := 5) (pc' := 35) (lv' := [.ref 5, .int x1]) (st' := [.int ((s 32 0) + (nI 1)), .ref 5]) (h' := zHp s t) rfl ?_
    refine zX_pfi (h' := zHp (zup s 32 0 ((s 32 0) + (nI 1))) t) rfl rfl rfl rfl (zst_5_5 _ _ _) ?_
    obtain rfl := Option.some.inj hF
    exact zX_retv rfl
  · refine zX_go (c := 4) (pc' := if (s 32 0) < (nI 2000) then 17 else 28) (lv' := [.ref 5, .int x1]) (st' := []) (h' := zHp s t) rfl ?_
    refine zX_ite hF (fun c0 hF => ?_) (fun c0 hF => ?_)
    · refine zX_go (c := 6) (pc' := 27) (lv' := [.ref 5, .int x1]) (st' := [.int x1.toInt8.toInt32, .int (s 32 0), .ref 31]) (h' := zHp s t) rfl ?_
      refine zX_bas (n := 2000) (h' := zHp (zup s 29 (s 32 0).toNatClampNeg (zbn 2 x1.toInt8.toInt32)) t) rfl rfl (zst_31 _ _ _ _) hF (fun hF => ?_)
      refine zX_go (c := 5) (pc' := 35) (lv' := [.ref 5, .int x1]) (st' := [.int ((s 32 0) + (nI 1)), .ref 5]) (h' := zHp (zup s 29 (s 32 0).toNatClampNeg (zbn 2 x1.toInt8.toInt32)) t) rfl ?_
      refine zX_pfi (h' := zHp (zup (zup s 29 (s 32 0).toNatClampNeg (zbn 2 x1.toInt8.toInt32)) 32 0 ((s 32 0) + (nI 1))) t) rfl rfl rfl rfl (zst_5_5 _ _ _) ?_
      obtain rfl := Option.some.inj hF
      exact zX_retv rfl
    · refine zX_go (c := 5) (pc' := 35) (lv' := [.ref 5, .int x1]) (st' := [.int ((s 32 0) + (nI 1)), .ref 5]) (h' := zHp s t) rfl ?_
      refine zX_pfi (h' := zHp (zup s 32 0 ((s 32 0) + (nI 1))) t) rfl rfl rfl rfl (zst_5_5 _ _ _) ?_
      obtain rfl := Option.some.inj hF
      exact zX_retv rfl
def l_X4_writeDigits (M : Nat) : Nat → Nat → zS → Int64 → Int32 → Int32 → Option (zS)
  | 0, _, _, _, _, _ => none
  | N + 1, hd, s, y2, y4, y5 => match hd with
    | 0 =>
      if y5 < (nI 10) then
       if y5 = 0 then
        zq (!((10 : Int64) == 0)) <|
        zq (zin y5 10) <|
        zq (!((10 : Int64) == 0)) <|
        l_X4_writeDigits M N 0 (zup s 31 y5.toNatClampNeg ((y2 - y2 / (10 : Int64) * (10 : Int64)).toInt32)) (y2 / (10 : Int64)) (y4 + (nI 1)) (y5 + (nI 1))
       else
        if 0 < (lg_cmp y2 (Int64.ofNat ((0 : Fin 2) : Nat))) then
         zq (!((10 : Int64) == 0)) <|
         zq (zin y5 10) <|
         zq (!((10 : Int64) == 0)) <|
         l_X4_writeDigits M N 0 (zup s 31 y5.toNatClampNeg ((y2 - y2 / (10 : Int64) * (10 : Int64)).toInt32)) (y2 / (10 : Int64)) (y4 + (nI 1)) (y5 + (nI 1))
        else
         l_X4_writeDigits M N 1 s 0 0 (y4 - (nI 1))
      else
       l_X4_writeDigits M N 1 s 0 0 (y4 - (nI 1))
    | 1 =>
      if y5 < 0 then
       some s
      else
       zq (zin y5 10) <|
       zbd (f_X4_writeByte M s ((nI 48) + (s 31 y5.toNatClampNeg))) (fun q1 =>
        l_X4_writeDigits M N 1 q1 0 0 (y5 + (-1)))
    | _ => none
set_option maxRecDepth 100000 in
set_option maxHeartbeats 4000000 in
theorem tl_X4_writeDigits {L : Nat} {xs : Nat → Int32} (M : Nat) (t : zS) : ∀ (N : Nat) (s : zS) (y2 : Int64) (y4 : Int32) (y5 : Int32) (R : zS), (∀ (u1 : Int32) (u3 : Value), l_X4_writeDigits M N 0 s y2 y4 y5 = some R → zX (ztb L xs) (zcall (ztb L xs) 1) 4 0 zk_X4_writeDigits 22 [.ref 5, .int u1, .long y2, u3, .int y4, .int y5] [] (zHp s t) (none, zHp R t)) ∧ (∀ (u1 : Int32) (u2 : Int64) (u3 : Value) (u4 : Int32), l_X4_writeDigits M N 1 s y2 y4 y5 = some R → zX (ztb L xs) (zcall (ztb L xs) 1) 4 0 zk_X4_writeDigits 74 [.ref 5, .int u1, .long u2, u3, .int u4, .int y5] [] (zHp s t) (none, zHp R t)) := by
  intro N
  induction N with
  | zero =>
    intro s y2 y4 y5 R
    exact ⟨(by intros; rename_i hF; cases hF), (by intros; rename_i hF; cases hF)⟩
  | succ N ih =>
    intro s y2 y4 y5 R
    refine ⟨?_, ?_⟩
    · intro u1 u3 hF
      unfold l_X4_writeDigits at hF
      (try dsimp only at hF)
      refine zX_go (c := 3) (pc' := if y5 < (nI 10) then 29 else 68) (lv' := [.ref 5, .int u1, .long y2, u3, .int y4, .int y5]) (st' := []) (h' := zHp s t) rfl ?_
      refine zX_ite hF (fun c0 hF => ?_) (fun c0 hF => ?_)
      · refine zX_go (c := 2) (pc' := if y5 = 0 then 40 else 34) (lv' := [.ref 5, .int u1, .long y2, u3, .int y4, .int y5]) (st' := []) (h' := zHp s t) rfl ?_
        refine zX_ite hF (fun c0 hF => ?_) (fun c0 hF => ?_)
        · refine zX_go (c := 5) (pc' := 50) (lv' := [.ref 5, .int u1, .long y2, u3, .int y4, .int y5]) (st' := [.long (10 : Int64), .long y2, .int y5, .ref 32]) (h' := zHp s t) rfl ?_
          refine zX_lre rfl hF (fun hF => ?_)
          refine zX_go (c := 1) (pc' := 52) (lv' := [.ref 5, .int u1, .long y2, u3, .int y4, .int y5]) (st' := [.int ((y2 - y2 / (10 : Int64) * (10 : Int64)).toInt32), .int y5, .ref 32]) (h' := zHp s t) rfl ?_
          refine zX_ias (n := 10) (h' := zHp (zup s 31 y5.toNatClampNeg ((y2 - y2 / (10 : Int64) * (10 : Int64)).toInt32)) t) rfl rfl (zst_32 _ _ _ _) hF (fun hF => ?_)
          refine zX_go (c := 2) (pc' := 57) (lv' := [.ref 5, .int u1, .long y2, u3, .int y4, .int y5]) (st' := [.long (10 : Int64), .long y2]) (h' := zHp (zup s 31 y5.toNatClampNeg ((y2 - y2 / (10 : Int64) * (10 : Int64)).toInt32)) t) rfl ?_
          refine zX_ldi rfl hF (fun hF => ?_)
          refine zX_go (c := 4) (pc' := 22) (lv' := [.ref 5, .int u1, .long (y2 / (10 : Int64)), .retAddr 0, .int (y4 + (nI 1)), .int (y5 + (nI 1))]) (st' := []) (h' := zHp (zup s 31 y5.toNatClampNeg ((y2 - y2 / (10 : Int64) * (10 : Int64)).toInt32)) t) rfl ?_
          exact (ih (zup s 31 y5.toNatClampNeg ((y2 - y2 / (10 : Int64) * (10 : Int64)).toInt32)) (y2 / (10 : Int64)) (y4 + (nI 1)) (y5 + (nI 1)) _).1 u1 (.retAddr 0) hF
        · refine zX_go (c := 4) (pc' := if 0 < (lg_cmp y2 (Int64.ofNat ((0 : Fin 2) : Nat))) then 40 else 68) (lv' := [.ref 5, .int u1, .long y2, u3, .int y4, .int y5]) (st' := []) (h' := zHp s t) rfl ?_
          refine zX_ite hF (fun c0 hF => ?_) (fun c0 hF => ?_)
          · refine zX_go (c := 5) (pc' := 50) (lv' := [.ref 5, .int u1, .long y2, u3, .int y4, .int y5]) (st' := [.long (10 : Int64), .long y2, .int y5, .ref 32]) (h' := zHp s t) rfl ?_
            refine zX_lre rfl hF (fun hF => ?_)
            refine zX_go (c := 1) (pc' := 52) (lv' := [.ref 5, .int u1, .long y2, u3, .int y4, .int y5]) (st' := [.int ((y2 - y2 / (10 : Int64) * (10 : Int64)).toInt32), .int y5, .ref 32]) (h' := zHp s t) rfl ?_
            refine zX_ias (n := 10) (h' := zHp (zup s 31 y5.toNatClampNeg ((y2 - y2 / (10 : Int64) * (10 : Int64)).toInt32)) t) rfl rfl (zst_32 _ _ _ _) hF (fun hF => ?_)
            refine zX_go (c := 2) (pc' := 57) (lv' := [.ref 5, .int u1, .long y2, u3, .int y4, .int y5]) (st' := [.long (10 : Int64), .long y2]) (h' := zHp (zup s 31 y5.toNatClampNeg ((y2 - y2 / (10 : Int64) * (10 : Int64)).toInt32)) t) rfl ?_
            refine zX_ldi rfl hF (fun hF => ?_)
            refine zX_go (c := 4) (pc' := 22) (lv' := [.ref 5, .int u1, .long (y2 / (10 : Int64)), .retAddr 0, .int (y4 + (nI 1)), .int (y5 + (nI 1))]) (st' := []) (h' := zHp (zup s 31 y5.toNatClampNeg ((y2 - y2 / (10 : Int64) * (10 : Int64)).toInt32)) t) rfl ?_
            exact (ih (zup s 31 y5.toNatClampNeg ((y2 - y2 / (10 : Int64) * (10 : Int64)).toInt32)) (y2 / (10 : Int64)) (y4 + (nI 1)) (y5 + (nI 1)) _).1 u1 (.retAddr 0) hF
          · refine zX_go (c := 4) (pc' := 74) (lv' := [.ref 5, .int u1, .long y2, u3, .int y4, .int (y4 - (nI 1))]) (st' := []) (h' := zHp s t) rfl ?_
            exact (ih s 0 0 (y4 - (nI 1)) _).2 u1 y2 u3 y4 hF
      · refine zX_go (c := 4) (pc' := 74) (lv' := [.ref 5, .int u1, .long y2, u3, .int y4, .int (y4 - (nI 1))]) (st' := []) (h' := zHp s t) rfl ?_
        exact (ih s 0 0 (y4 - (nI 1)) _).2 u1 y2 u3 y4 hF
    · intro u1 u2 u3 u4 hF
      unfold l_X4_writeDigits at hF
      (try dsimp only at hF)
      refine zX_go (c := 2) (pc' := if y5 < 0 then 99 else 79) (lv' := [.ref 5, .int u1, .long u2, u3, .int u4, .int y5]) (st' := []) (h' := zHp s t) rfl ?_
      refine zX_ite hF (fun c0 hF => ?_) (fun c0 hF => ?_)
      · obtain rfl := Option.some.inj hF
        exact zX_retv rfl
      · refine zX_go (c := 5) (pc' := 88) (lv' := [.ref 5, .int u1, .long u2, u3, .int u4, .int y5]) (st' := [.int y5, .ref 32, .int (nI 48), .ref 5]) (h' := zHp s t) rfl ?_
        refine zX_ial (n := 10) rfl rfl hF (fun hF => ?_)
        refine zX_go (c := 1) (pc' := 90) (lv' := [.ref 5, .int u1, .long u2, u3, .int u4, .int y5]) (st' := [.int ((nI 48) + (s 31 y5.toNatClampNeg)), .ref 5]) (h' := zHp s t) rfl ?_
        obtain ⟨q1, hq, hF⟩ := zbd_ok hF
        refine zX_inv (av := [.ref 5, .int ((nI 48) + (s 31 y5.toNatClampNeg))]) (st := []) (h' := zHp q1 t) rfl rfl rfl rfl rfl rfl (zcall_le (t_X4_writeByte M _ _ _ _ hq) (by decide)) ?_
        refine zX_go (c := 2) (pc' := 74) (lv' := [.ref 5, .int u1, .long u2, u3, .int u4, .int (y5 + (-1))]) (st' := []) (h' := zHp q1 t) rfl ?_
        exact (ih q1 0 0 (y5 + (-1)) _).2 u1 u2 u3 u4 hF
def f_X4_writeDigits (M : Nat) (s : zS) (x1 : Int32) : Option (zS) :=
  if x1 < 0 then
   zbd (f_X4_writeByte M s (nI 45)) (fun q1 =>
    l_X4_writeDigits M M 0 q1 (if 0 < x1.toInt64 then x1.toInt64 else -x1.toInt64) (nI 0) (nI 0))
  else
   l_X4_writeDigits M M 0 s (if 0 < x1.toInt64 then x1.toInt64 else -x1.toInt64) (nI 0) (nI 0)
set_option maxRecDepth 100000 in
set_option maxHeartbeats 4000000 in
theorem t_X4_writeDigits {L : Nat} {xs : Nat → Int32} (M : Nat) (s t : zS) (x1 : Int32) (R : zS) (hF : f_X4_writeDigits M s x1 = some R) : zcall (ztb L xs) 2 52 [.ref 5, .int x1] (zHp s t) = some (none, zHp R t) := by
  unfold f_X4_writeDigits at hF
  refine zcall_X (d := 1) (e := zm_X4_writeDigits) rfl rfl ?_
  show zX (ztb L xs) (zcall (ztb L xs) 1) 4 0 zk_X4_writeDigits 0 [.ref 5, .int x1, .retAddr 0, .retAddr 0, .retAddr 0, .retAddr 0] [] (zHp s t) _
  refine zX_go (c := 6) (pc' := if x1 < 0 then 10 else 16) (lv' := [.ref 5, .int x1, .long (if 0 < x1.toInt64 then x1.toInt64 else -x1.toInt64), .retAddr 0, .retAddr 0, .retAddr 0]) (st' := []) (h' := zHp s t) rfl ?_
  refine zX_ite hF (fun c0 hF => ?_) (fun c0 hF => ?_)
  · refine zX_go (c := 2) (pc' := 13) (lv' := [.ref 5, .int x1, .long (if 0 < x1.toInt64 then x1.toInt64 else -x1.toInt64), .retAddr 0, .retAddr 0, .retAddr 0]) (st' := [.int (nI 45), .ref 5]) (h' := zHp s t) rfl ?_
    obtain ⟨q1, hq, hF⟩ := zbd_ok hF
    refine zX_inv (av := [.ref 5, .int (nI 45)]) (st := []) (h' := zHp q1 t) rfl rfl rfl rfl rfl rfl (zcall_le (t_X4_writeByte M _ _ _ _ hq) (by decide)) ?_
    refine zX_go (c := 4) (pc' := 22) (lv' := [.ref 5, .int x1, .long (if 0 < x1.toInt64 then x1.toInt64 else -x1.toInt64), .retAddr 0, .int (nI 0), .int (nI 0)]) (st' := []) (h' := zHp q1 t) rfl ?_
    exact (tl_X4_writeDigits M t M q1 (if 0 < x1.toInt64 then x1.toInt64 else -x1.toInt64) (nI 0) (nI 0) _).1 x1 (.retAddr 0) hF
  · refine zX_go (c := 4) (pc' := 22) (lv' := [.ref 5, .int x1, .long (if 0 < x1.toInt64 then x1.toInt64 else -x1.toInt64), .retAddr 0, .int (nI 0), .int (nI 0)]) (st' := []) (h' := zHp s t) rfl ?_
    exact (tl_X4_writeDigits M t M s (if 0 < x1.toInt64 then x1.toInt64 else -x1.toInt64) (nI 0) (nI 0) _).1 x1 (.retAddr 0) hF
def f_X4_writeSimple (M : Nat) (s : zS) (x1 x2 : Int32) : Option (zS) :=
  if x1 = (nI 1) then
   zbd (f_X4_writeByte M s (nI 119)) (fun q1 =>
    zbd (f_X4_writeDigits M q1 x2) (fun q2 =>
     some q2))
  else
   if x1 = (nI 2) then
    zbd (f_X4_writeByte M s (nI 99)) (fun q3 =>
     zbd (f_X4_writeDigits M q3 x2) (fun q4 =>
      some q4))
   else
    if x1 = (nI 3) then
     zbd (f_X4_writeByte M s (nI 116)) (fun q5 =>
      zbd (f_X4_writeDigits M q5 x2) (fun q6 =>
       some q6))
    else
     zbd (f_X4_writeDigits M s x2) (fun q7 =>
      some q7)
set_option maxRecDepth 100000 in
set_option maxHeartbeats 4000000 in
theorem t_X4_writeSimple {L : Nat} {xs : Nat → Int32} (M : Nat) (s t : zS) (x1 x2 : Int32) (R : zS) (hF : f_X4_writeSimple M s x1 x2 = some R) : zcall (ztb L xs) 3 51 [.ref 5, .int x1, .int x2] (zHp s t) = some (none, zHp R t) := by
  unfold f_X4_writeSimple at hF
  refine zcall_X (d := 2) (e := zm_X4_writeSimple) rfl rfl ?_
  show zX (ztb L xs) (zcall (ztb L xs) 2) 4 0 zk_X4_writeSimple 0 [.ref 5, .int x1, .int x2] [] (zHp s t) _
  refine zX_go (c := 2) (pc' := if x1 = (nI 1) then 28 else if x1 = (nI 2) then 37 else if x1 = (nI 3) then 46 else 55) (lv' := [.ref 5, .int x1, .int x2]) (st' := []) (h' := zHp s t) rfl ?_
  refine zX_ite hF (fun c0 hF => ?_) (fun c0 hF => ?_)
  · refine zX_go (c := 2) (pc' := 31) (lv' := [.ref 5, .int x1, .int x2]) (st' := [.int (nI 119), .ref 5]) (h' := zHp s t) rfl ?_
    obtain ⟨q1, hq, hF⟩ := zbd_ok hF
    refine zX_inv (av := [.ref 5, .int (nI 119)]) (st := []) (h' := zHp q1 t) rfl rfl rfl rfl rfl rfl (zcall_le (t_X4_writeByte M _ _ _ _ hq) (by decide)) ?_
    refine zX_go (c := 3) (pc' := 57) (lv' := [.ref 5, .int x1, .int x2]) (st' := [.int x2, .ref 5]) (h' := zHp q1 t) rfl ?_
    obtain ⟨q2, hq, hF⟩ := zbd_ok hF
    refine zX_inv (av := [.ref 5, .int x2]) (st := []) (h' := zHp q2 t) rfl rfl rfl rfl rfl rfl (zcall_le (t_X4_writeDigits M _ _ _ _ hq) (by decide)) ?_
    obtain rfl := Option.some.inj hF
    exact zX_retv rfl
  · refine zX_ite hF (fun c0 hF => ?_) (fun c0 hF => ?_)
    · refine zX_go (c := 2) (pc' := 40) (lv' := [.ref 5, .int x1, .int x2]) (st' := [.int (nI 99), .ref 5]) (h' := zHp s t) rfl ?_
      obtain ⟨q3, hq, hF⟩ := zbd_ok hF
      refine zX_inv (av := [.ref 5, .int (nI 99)]) (st := []) (h' := zHp q3 t) rfl rfl rfl rfl rfl rfl (zcall_le (t_X4_writeByte M _ _ _ _ hq) (by decide)) ?_
      refine zX_go (c := 3) (pc' := 57) (lv' := [.ref 5, .int x1, .int x2]) (st' := [.int x2, .ref 5]) (h' := zHp q3 t) rfl ?_
      obtain ⟨q4, hq, hF⟩ := zbd_ok hF
      refine zX_inv (av := [.ref 5, .int x2]) (st := []) (h' := zHp q4 t) rfl rfl rfl rfl rfl rfl (zcall_le (t_X4_writeDigits M _ _ _ _ hq) (by decide)) ?_
      obtain rfl := Option.some.inj hF
      exact zX_retv rfl
    · refine zX_ite hF (fun c0 hF => ?_) (fun c0 hF => ?_)
      · refine zX_go (c := 2) (pc' := 49) (lv' := [.ref 5, .int x1, .int x2]) (st' := [.int (nI 116), .ref 5]) (h' := zHp s t) rfl ?_
        obtain ⟨q5, hq, hF⟩ := zbd_ok hF
        refine zX_inv (av := [.ref 5, .int (nI 116)]) (st := []) (h' := zHp q5 t) rfl rfl rfl rfl rfl rfl (zcall_le (t_X4_writeByte M _ _ _ _ hq) (by decide)) ?_
        refine zX_go (c := 3) (pc' := 57) (lv' := [.ref 5, .int x1, .int x2]) (st' := [.int x2, .ref 5]) (h' := zHp q5 t) rfl ?_
        obtain ⟨q6, hq, hF⟩ := zbd_ok hF
        refine zX_inv (av := [.ref 5, .int x2]) (st := []) (h' := zHp q6 t) rfl rfl rfl rfl rfl rfl (zcall_le (t_X4_writeDigits M _ _ _ _ hq) (by decide)) ?_
        obtain rfl := Option.some.inj hF
        exact zX_retv rfl
      · refine zX_go (c := 2) (pc' := 57) (lv' := [.ref 5, .int x1, .int x2]) (st' := [.int x2, .ref 5]) (h' := zHp s t) rfl ?_
        obtain ⟨q7, hq, hF⟩ := zbd_ok hF
        refine zX_inv (av := [.ref 5, .int x2]) (st := []) (h' := zHp q7 t) rfl rfl rfl rfl rfl rfl (zcall_le (t_X4_writeDigits M _ _ _ _ hq) (by decide)) ?_
        obtain rfl := Option.some.inj hF
        exact zX_retv rfl
def b_X4_writeValue (M : Nat) (rec : Nat → zS → Int32 → Int32 → Option (zS)) (s : zS) (x1 x2 : Int32) : Option (zS) :=
  zbd (f_X3_has M s x1) (fun q1 =>
   if q1 = 0 then
    some s
   else
    if (nI 16) < x2 then
     some s
    else
     if (nI 2000) < (s 32 0) then
      some s
     else
      zq (zin x1 100) <|
      if (s 20 x1.toNatClampNeg) = (nI 1) then
       zbd (rec 1 s x1 x2) (fun q2 =>
        some q2)
      else
       if (s 20 x1.toNatClampNeg) = (nI 2) then
        zbd (rec 2 s x1 x2) (fun q3 =>
         some q3)
       else
        zq (zin x1 100) <|
        zq (zin x1 100) <|
        zbd (f_X4_writeSimple M s (s 21 x1.toNatClampNeg) (s 22 x1.toNatClampNeg)) (fun q4 =>
         some q4))
set_option maxRecDepth 100000 in
set_option maxHeartbeats 4000000 in
theorem tb_X4_writeValue {L : Nat} {xs : Nat → Int32} (M d : Nat) (rec : Nat → zS → Int32 → Int32 → Option (zS)) (hd : 3 ≤ d) (s t : zS) (hr_X4_writeRow : ∀ {s : zS} {a0 a1 : Int32} {R : zS}, rec 1 s a0 a1 = some R → zcall (ztb L xs) d 49 [.ref 5, .int a0, .int a1] (zHp s t) = some (none, zHp R t)) (hr_X4_writeInstance : ∀ {s : zS} {a0 a1 : Int32} {R : zS}, rec 2 s a0 a1 = some R → zcall (ztb L xs) d 50 [.ref 5, .int a0, .int a1] (zHp s t) = some (none, zHp R t)) (x1 x2 : Int32) (R : zS) (hF : b_X4_writeValue M rec s x1 x2 = some R) : zcall (ztb L xs) (d + 1) 48 [.ref 5, .int x1, .int x2] (zHp s t) = some (none, zHp R t) := by
  unfold b_X4_writeValue at hF
  refine zcall_X (d := d) (e := zm_X4_writeValue) rfl rfl ?_
  show zX (ztb L xs) (zcall (ztb L xs) d) 4 0 zk_X4_writeValue 0 [.ref 5, .int x1, .int x2] [] (zHp s t) _
  refine zX_go (c := 3) (pc' := 5) (lv' := [.ref 5, .int x1, .int x2]) (st' := [.int x1, .ref 3]) (h' := zHp s t) rfl ?_
  obtain ⟨q1, hq, hF⟩ := zbd_ok hF
  refine zX_inv (av := [.ref 3, .int x1]) (st := []) (h' := zHp s t) rfl rfl rfl rfl rfl rfl (zcall_le (t_X3_has M _ _ _ _ hq) (by omega)) ?_
  refine zX_go (c := 1) (pc' := if q1 = 0 then 27 else 11) (lv' := [.ref 5, .int x1, .int x2]) (st' := []) (h' := zHp s t) rfl ?_
  refine zX_ite hF (fun c0 hF => ?_) (fun c0 hF => ?_)
  · obtain rfl := Option.some.inj hF
    exact zX_retv rfl
  · refine zX_go (c := 3) (pc' := if (nI 16) < x2 then 27 else 17) (lv' := [.ref 5, .int x1, .int x2]) (st' := []) (h' := zHp s t) rfl ?_
    refine zX_ite hF (fun c0 hF => ?_) (fun c0 hF => ?_)
    · obtain rfl := Option.some.inj hF
      exact zX_retv rfl
    · refine zX_go (c := 4) (pc' := if (nI 2000) < (s 32 0) then 27 else 28) (lv' := [.ref 5, .int x1, .int x2]) (st' := []) (h' := zHp s t) rfl ?_
      refine zX_ite hF (fun c0 hF => ?_) (fun c0 hF => ?_)
      · obtain rfl := Option.some.inj hF
        exact zX_retv rfl
      · refine zX_go (c := 4) (pc' := 36) (lv' := [.ref 5, .int x1, .int x2]) (st' := [.int x1, .ref 23]) (h' := zHp s t) rfl ?_
        refine zX_ial (n := 100) rfl rfl hF (fun hF => ?_)
        refine zX_go (c := 1) (pc' := if (s 20 x1.toNatClampNeg) = (nI 1) then 64 else if (s 20 x1.toNatClampNeg) = (nI 2) then 73 else 82) (lv' := [.ref 5, .int x1, .int x2]) (st' := []) (h' := zHp s t) rfl ?_
        refine zX_ite hF (fun c0 hF => ?_) (fun c0 hF => ?_)
        · refine zX_go (c := 3) (pc' := 67) (lv' := [.ref 5, .int x1, .int x2]) (st' := [.int x2, .int x1, .ref 5]) (h' := zHp s t) rfl ?_
          obtain ⟨q2, hq, hF⟩ := zbd_ok hF
          refine zX_inv (av := [.ref 5, .int x1, .int x2]) (st := []) (h' := zHp q2 t) rfl rfl rfl rfl rfl rfl (hr_X4_writeRow hq) ?_
          refine zX_go (c := 1) (pc' := 104) (lv' := [.ref 5, .int x1, .int x2]) (st' := []) (h' := zHp q2 t) rfl ?_
          obtain rfl := Option.some.inj hF
          exact zX_retv rfl
        · refine zX_ite hF (fun c0 hF => ?_) (fun c0 hF => ?_)
          · refine zX_go (c := 3) (pc' := 76) (lv' := [.ref 5, .int x1, .int x2]) (st' := [.int x2, .int x1, .ref 5]) (h' := zHp s t) rfl ?_
            obtain ⟨q3, hq, hF⟩ := zbd_ok hF
            refine zX_inv (av := [.ref 5, .int x1, .int x2]) (st := []) (h' := zHp q3 t) rfl rfl rfl rfl rfl rfl (hr_X4_writeInstance hq) ?_
            refine zX_go (c := 1) (pc' := 104) (lv' := [.ref 5, .int x1, .int x2]) (st' := []) (h' := zHp q3 t) rfl ?_
            obtain rfl := Option.some.inj hF
            exact zX_retv rfl
          · refine zX_go (c := 5) (pc' := 91) (lv' := [.ref 5, .int x1, .int x2]) (st' := [.int x1, .ref 24, .ref 5]) (h' := zHp s t) rfl ?_
            refine zX_ial (n := 100) rfl rfl hF (fun hF => ?_)
            refine zX_go (c := 4) (pc' := 100) (lv' := [.ref 5, .int x1, .int x2]) (st' := [.int x1, .ref 25, .int (s 21 x1.toNatClampNeg), .ref 5]) (h' := zHp s t) rfl ?_
            refine zX_ial (n := 100) rfl rfl hF (fun hF => ?_)
            obtain ⟨q4, hq, hF⟩ := zbd_ok hF
            refine zX_inv (av := [.ref 5, .int (s 21 x1.toNatClampNeg), .int (s 22 x1.toNatClampNeg)]) (st := []) (h' := zHp q4 t) rfl rfl rfl rfl rfl rfl (zcall_le (t_X4_writeSimple M _ _ _ _ _ hq) (by omega)) ?_
            obtain rfl := Option.some.inj hF
            exact zX_retv rfl
def l_X4_writeRow (M : Nat) (rec : Nat → zS → Int32 → Int32 → Option (zS)) : Nat → zS → Int32 → Int32 → Int32 → Option (zS)
  | 0, _, _, _, _ => none
  | N + 1, s, y1, y2, y3 =>
    zq (zin y1 100) <|
    if y3 < (s 22 y1.toNatClampNeg) then
     if 0 < y3 then
      zbd (f_X4_writeByte M s (nI 44)) (fun q1 =>
       zbd (f_X3_partAt M q1 y1 y3) (fun q2 =>
        zbd (rec 0 q1 q2 (y2 + (nI 1))) (fun q3 =>
         l_X4_writeRow M rec N q3 y1 y2 (y3 + (nI 1)))))
     else
      zbd (f_X3_partAt M s y1 y3) (fun q4 =>
       zbd (rec 0 s q4 (y2 + (nI 1))) (fun q5 =>
        l_X4_writeRow M rec N q5 y1 y2 (y3 + (nI 1))))
    else
     zbd (f_X4_writeByte M s (nI 125)) (fun q6 =>
      some q6)
set_option maxRecDepth 100000 in
set_option maxHeartbeats 4000000 in
theorem tl_X4_writeRow {L : Nat} {xs : Nat → Int32} (M d : Nat) (rec : Nat → zS → Int32 → Int32 → Option (zS)) (hd : 3 ≤ d) (t : zS) (hr_X4_writeValue : ∀ {s : zS} {a0 a1 : Int32} {R : zS}, rec 0 s a0 a1 = some R → zcall (ztb L xs) d 48 [.ref 5, .int a0, .int a1] (zHp s t) = some (none, zHp R t)) : ∀ (N : Nat) (s : zS) (y1 : Int32) (y2 : Int32) (y3 : Int32) (R : zS) (hF : l_X4_writeRow M rec N s y1 y2 y3 = some R), zX (ztb L xs) (zcall (ztb L xs) d) 4 0 zk_X4_writeRow 8 [.ref 5, .int y1, .int y2, .int y3] [] (zHp s t) (none, zHp R t) := by
  intro N
  induction N with
  | zero => intro s y1 y2 y3 R hF; cases hF
  | succ N ih =>
    intro s y1 y2 y3 R hF
    unfold l_X4_writeRow at hF
    refine zX_go (c := 5) (pc' := 17) (lv' := [.ref 5, .int y1, .int y2, .int y3]) (st' := [.int y1, .ref 25, .int y3]) (h' := zHp s t) rfl ?_
    refine zX_ial (n := 100) rfl rfl hF (fun hF => ?_)
    refine zX_go (c := 1) (pc' := if y3 < (s 22 y1.toNatClampNeg) then 21 else 53) (lv' := [.ref 5, .int y1, .int y2, .int y3]) (st' := []) (h' := zHp s t) rfl ?_
    refine zX_ite hF (fun c0 hF => ?_) (fun c0 hF => ?_)
    · refine zX_go (c := 2) (pc' := if 0 < y3 then 25 else 31) (lv' := [.ref 5, .int y1, .int y2, .int y3]) (st' := []) (h' := zHp s t) rfl ?_
      refine zX_ite hF (fun c0 hF => ?_) (fun c0 hF => ?_)
      · refine zX_go (c := 2) (pc' := 28) (lv' := [.ref 5, .int y1, .int y2, .int y3]) (st' := [.int (nI 44), .ref 5]) (h' := zHp s t) rfl ?_
        obtain ⟨q1, hq, hF⟩ := zbd_ok hF
        refine zX_inv (av := [.ref 5, .int (nI 44)]) (st := []) (h' := zHp q1 t) rfl rfl rfl rfl rfl rfl (zcall_le (t_X4_writeByte M _ _ _ _ hq) (by omega)) ?_
        refine zX_go (c := 5) (pc' := 38) (lv' := [.ref 5, .int y1, .int y2, .int y3]) (st' := [.int y3, .int y1, .ref 3, .ref 5]) (h' := zHp q1 t) rfl ?_
        obtain ⟨q2, hq, hF⟩ := zbd_ok hF
        refine zX_inv (av := [.ref 3, .int y1, .int y3]) (st := [.ref 5]) (h' := zHp q1 t) rfl rfl rfl rfl rfl rfl (zcall_le (t_X3_partAt M _ _ _ _ _ hq) (by omega)) ?_
        refine zX_go (c := 3) (pc' := 44) (lv' := [.ref 5, .int y1, .int y2, .int y3]) (st' := [.int (y2 + (nI 1)), .int q2, .ref 5]) (h' := zHp q1 t) rfl ?_
        obtain ⟨q3, hq, hF⟩ := zbd_ok hF
        refine zX_inv (av := [.ref 5, .int q2, .int (y2 + (nI 1))]) (st := []) (h' := zHp q3 t) rfl rfl rfl rfl rfl rfl (hr_X4_writeValue hq) ?_
        refine zX_go (c := 2) (pc' := 8) (lv' := [.ref 5, .int y1, .int y2, .int (y3 + (nI 1))]) (st' := []) (h' := zHp q3 t) rfl ?_
        exact ih q3 y1 y2 (y3 + (nI 1)) _ hF
      · refine zX_go (c := 5) (pc' := 38) (lv' := [.ref 5, .int y1, .int y2, .int y3]) (st' := [.int y3, .int y1, .ref 3, .ref 5]) (h' := zHp s t) rfl ?_
        obtain ⟨q4, hq, hF⟩ := zbd_ok hF
        refine zX_inv (av := [.ref 3, .int y1, .int y3]) (st := [.ref 5]) (h' := zHp s t) rfl rfl rfl rfl rfl rfl (zcall_le (t_X3_partAt M _ _ _ _ _ hq) (by omega)) ?_
        refine zX_go (c := 3) (pc' := 44) (lv' := [.ref 5, .int y1, .int y2, .int y3]) (st' := [.int (y2 + (nI 1)), .int q4, .ref 5]) (h' := zHp s t) rfl ?_
        obtain ⟨q5, hq, hF⟩ := zbd_ok hF
        refine zX_inv (av := [.ref 5, .int q4, .int (y2 + (nI 1))]) (st := []) (h' := zHp q5 t) rfl rfl rfl rfl rfl rfl (hr_X4_writeValue hq) ?_
        refine zX_go (c := 2) (pc' := 8) (lv' := [.ref 5, .int y1, .int y2, .int (y3 + (nI 1))]) (st' := []) (h' := zHp q5 t) rfl ?_
        exact ih q5 y1 y2 (y3 + (nI 1)) _ hF
    · refine zX_go (c := 2) (pc' := 56) (lv' := [.ref 5, .int y1, .int y2, .int y3]) (st' := [.int (nI 125), .ref 5]) (h' := zHp s t) rfl ?_
      obtain ⟨q6, hq, hF⟩ := zbd_ok hF
      refine zX_inv (av := [.ref 5, .int (nI 125)]) (st := []) (h' := zHp q6 t) rfl rfl rfl rfl rfl rfl (zcall_le (t_X4_writeByte M _ _ _ _ hq) (by omega)) ?_
      obtain rfl := Option.some.inj hF
      exact zX_retv rfl
def b_X4_writeRow (M : Nat) (rec : Nat → zS → Int32 → Int32 → Option (zS)) (s : zS) (x1 x2 : Int32) : Option (zS) :=
  zbd (f_X4_writeByte M s (nI 123)) (fun q1 =>
   l_X4_writeRow M rec M q1 x1 x2 (nI 0))
set_option maxRecDepth 100000 in
set_option maxHeartbeats 4000000 in
theorem tb_X4_writeRow {L : Nat} {xs : Nat → Int32} (M d : Nat) (rec : Nat → zS → Int32 → Int32 → Option (zS)) (hd : 3 ≤ d) (s t : zS) (hr_X4_writeValue : ∀ {s : zS} {a0 a1 : Int32} {R : zS}, rec 0 s a0 a1 = some R → zcall (ztb L xs) d 48 [.ref 5, .int a0, .int a1] (zHp s t) = some (none, zHp R t)) (x1 x2 : Int32) (R : zS) (hF : b_X4_writeRow M rec s x1 x2 = some R) : zcall (ztb L xs) (d + 1) 49 [.ref 5, .int x1, .int x2] (zHp s t) = some (none, zHp R t) := by
  unfold b_X4_writeRow at hF
  refine zcall_X (d := d) (e := zm_X4_writeRow) rfl rfl ?_
  show zX (ztb L xs) (zcall (ztb L xs) d) 4 0 zk_X4_writeRow 0 [.ref 5, .int x1, .int x2, .retAddr 0] [] (zHp s t) _
  refine zX_go (c := 2) (pc' := 3) (lv' := [.ref 5, .int x1, .int x2, .retAddr 0]) (st' := [.int (nI 123), .ref 5]) (h' := zHp s t) rfl ?_
  obtain ⟨q1, hq, hF⟩ := zbd_ok hF
  refine zX_inv (av := [.ref 5, .int (nI 123)]) (st := []) (h' := zHp q1 t) rfl rfl rfl rfl rfl rfl (zcall_le (t_X4_writeByte M _ _ _ _ hq) (by omega)) ?_
  refine zX_go (c := 2) (pc' := 8) (lv' := [.ref 5, .int x1, .int x2, .int (nI 0)]) (st' := []) (h' := zHp q1 t) rfl ?_
  exact tl_X4_writeRow M _ rec hd t hr_X4_writeValue M q1 x1 x2 (nI 0) _ hF
def l_X4_writeInstance (M : Nat) (rec : Nat → zS → Int32 → Int32 → Option (zS)) : Nat → zS → Int32 → Int32 → Int32 → Int32 → Int32 → Option (zS)
  | 0, _, _, _, _, _, _ => none
  | N + 1, s, y1, y2, y3, y4, y5 =>
    zq (zin y3 12) <|
    if y5 < (s 6 y3.toNatClampNeg) then
     zbd (f_X3_elementAt M s y1 y5) (fun q1 =>
      if q1 = (-1) then
       l_X4_writeInstance M rec N s y1 y2 y3 y4 (y5 + (nI 1))
      else
       if y4 = 0 then
        zbd (f_X4_writeByte M s (nI 44)) (fun q2 =>
         zq (zin ((y3 * (nI 5)) + y5) 60) <|
         zbd (f_X4_writeDigits M q2 (q2 12 ((y3 * (nI 5)) + y5).toNatClampNeg)) (fun q3 =>
          zbd (f_X4_writeByte M q3 (nI 61)) (fun q4 =>
           zbd (rec 0 q4 q1 (y2 + (nI 1))) (fun q5 =>
            l_X4_writeInstance M rec N q5 y1 y2 y3 (nI 0) (y5 + (nI 1))))))
       else
        zq (zin ((y3 * (nI 5)) + y5) 60) <|
        zbd (f_X4_writeDigits M s (s 12 ((y3 * (nI 5)) + y5).toNatClampNeg)) (fun q6 =>
         zbd (f_X4_writeByte M q6 (nI 61)) (fun q7 =>
          zbd (rec 0 q7 q1 (y2 + (nI 1))) (fun q8 =>
           l_X4_writeInstance M rec N q8 y1 y2 y3 (nI 0) (y5 + (nI 1))))))
    else
     zbd (f_X4_writeByte M s (nI 41)) (fun q9 =>
      some q9)
set_option maxRecDepth 100000 in
set_option maxHeartbeats 4000000 in
theorem tl_X4_writeInstance {L : Nat} {xs : Nat → Int32} (M d : Nat) (rec : Nat → zS → Int32 → Int32 → Option (zS)) (hd : 3 ≤ d) (t : zS) (hr_X4_writeValue : ∀ {s : zS} {a0 a1 : Int32} {R : zS}, rec 0 s a0 a1 = some R → zcall (ztb L xs) d 48 [.ref 5, .int a0, .int a1] (zHp s t) = some (none, zHp R t)) : ∀ (N : Nat) (s : zS) (y1 : Int32) (y2 : Int32) (y3 : Int32) (y4 : Int32) (y5 : Int32) (R : zS) (u6 : Value) (hF : l_X4_writeInstance M rec N s y1 y2 y3 y4 y5 = some R), zX (ztb L xs) (zcall (ztb L xs) d) 4 0 zk_X4_writeInstance 32 [.ref 5, .int y1, .int y2, .int y3, .int y4, .int y5, u6] [] (zHp s t) (none, zHp R t) := by
  intro N
  induction N with
  | zero => intro s y1 y2 y3 y4 y5 R u6 hF; cases hF
  | succ N ih =>
    intro s y1 y2 y3 y4 y5 R u6 hF
    unfold l_X4_writeInstance at hF
    refine zX_go (c := 5) (pc' := 42) (lv' := [.ref 5, .int y1, .int y2, .int y3, .int y4, .int y5, u6]) (st' := [.int y3, .ref 11, .int y5]) (h' := zHp s t) rfl ?_
    refine zX_ial (n := 12) rfl rfl hF (fun hF => ?_)
    refine zX_go (c := 1) (pc' := if y5 < (s 6 y3.toNatClampNeg) then 46 else 120) (lv' := [.ref 5, .int y1, .int y2, .int y3, .int y4, .int y5, u6]) (st' := []) (h' := zHp s t) rfl ?_
    refine zX_ite hF (fun c0 hF => ?_) (fun c0 hF => ?_)
    · refine zX_go (c := 4) (pc' := 53) (lv' := [.ref 5, .int y1, .int y2, .int y3, .int y4, .int y5, u6]) (st' := [.int y5, .int y1, .ref 3]) (h' := zHp s t) rfl ?_
      obtain ⟨q1, hq, hF⟩ := zbd_ok hF
      refine zX_inv (av := [.ref 3, .int y1, .int y5]) (st := []) (h' := zHp s t) rfl rfl rfl rfl rfl rfl (zcall_le (t_X3_elementAt M _ _ _ _ _ hq) (by omega)) ?_
      refine zX_go (c := 4) (pc' := if q1 = (-1) then 64 else 67) (lv' := [.ref 5, .int y1, .int y2, .int y3, .int y4, .int y5, .int q1]) (st' := []) (h' := zHp s t) rfl ?_
      refine zX_ite hF (fun c0 hF => ?_) (fun c0 hF => ?_)
      · refine zX_go (c := 3) (pc' := 32) (lv' := [.ref 5, .int y1, .int y2, .int y3, .int y4, .int (y5 + (nI 1)), .int q1]) (st' := []) (h' := zHp s t) rfl ?_
        exact ih s y1 y2 y3 y4 (y5 + (nI 1)) _ (.int q1) hF
      · refine zX_go (c := 2) (pc' := if y4 = 0 then 72 else 78) (lv' := [.ref 5, .int y1, .int y2, .int y3, .int y4, .int y5, .int q1]) (st' := []) (h' := zHp s t) rfl ?_
        refine zX_ite hF (fun c0 hF => ?_) (fun c0 hF => ?_)
        · refine zX_go (c := 2) (pc' := 75) (lv' := [.ref 5, .int y1, .int y2, .int y3, .int y4, .int y5, .int q1]) (st' := [.int (nI 44), .ref 5]) (h' := zHp s t) rfl ?_
          obtain ⟨q2, hq, hF⟩ := zbd_ok hF
          refine zX_inv (av := [.ref 5, .int (nI 44)]) (st := []) (h' := zHp q2 t) rfl rfl rfl rfl rfl rfl (zcall_le (t_X4_writeByte M _ _ _ _ hq) (by omega)) ?_
          refine zX_go (c := 11) (pc' := 95) (lv' := [.ref 5, .int y1, .int y2, .int y3, .int (nI 0), .int y5, .int q1]) (st' := [.int ((y3 * (nI 5)) + y5), .ref 17, .ref 5]) (h' := zHp q2 t) rfl ?_
          refine zX_ial (n := 60) rfl rfl hF (fun hF => ?_)
          obtain ⟨q3, hq, hF⟩ := zbd_ok hF
          refine zX_inv (av := [.ref 5, .int (q2 12 ((y3 * (nI 5)) + y5).toNatClampNeg)]) (st := []) (h' := zHp q3 t) rfl rfl rfl rfl rfl rfl (zcall_le (t_X4_writeDigits M _ _ _ _ hq) (by omega)) ?_
          refine zX_go (c := 2) (pc' := 102) (lv' := [.ref 5, .int y1, .int y2, .int y3, .int (nI 0), .int y5, .int q1]) (st' := [.int (nI 61), .ref 5]) (h' := zHp q3 t) rfl ?_
          obtain ⟨q4, hq, hF⟩ := zbd_ok hF
          refine zX_inv (av := [.ref 5, .int (nI 61)]) (st := []) (h' := zHp q4 t) rfl rfl rfl rfl rfl rfl (zcall_le (t_X4_writeByte M _ _ _ _ hq) (by omega)) ?_
          refine zX_go (c := 5) (pc' := 111) (lv' := [.ref 5, .int y1, .int y2, .int y3, .int (nI 0), .int y5, .int q1]) (st' := [.int (y2 + (nI 1)), .int q1, .ref 5]) (h' := zHp q4 t) rfl ?_
          obtain ⟨q5, hq, hF⟩ := zbd_ok hF
          refine zX_inv (av := [.ref 5, .int q1, .int (y2 + (nI 1))]) (st := []) (h' := zHp q5 t) rfl rfl rfl rfl rfl rfl (hr_X4_writeValue hq) ?_
          refine zX_go (c := 2) (pc' := 32) (lv' := [.ref 5, .int y1, .int y2, .int y3, .int (nI 0), .int (y5 + (nI 1)), .int q1]) (st' := []) (h' := zHp q5 t) rfl ?_
          exact ih q5 y1 y2 y3 (nI 0) (y5 + (nI 1)) _ (.int q1) hF
        · refine zX_go (c := 11) (pc' := 95) (lv' := [.ref 5, .int y1, .int y2, .int y3, .int (nI 0), .int y5, .int q1]) (st' := [.int ((y3 * (nI 5)) + y5), .ref 17, .ref 5]) (h' := zHp s t) rfl ?_
          refine zX_ial (n := 60) rfl rfl hF (fun hF => ?_)
          obtain ⟨q6, hq, hF⟩ := zbd_ok hF
          refine zX_inv (av := [.ref 5, .int (s 12 ((y3 * (nI 5)) + y5).toNatClampNeg)]) (st := []) (h' := zHp q6 t) rfl rfl rfl rfl rfl rfl (zcall_le (t_X4_writeDigits M _ _ _ _ hq) (by omega)) ?_
          refine zX_go (c := 2) (pc' := 102) (lv' := [.ref 5, .int y1, .int y2, .int y3, .int (nI 0), .int y5, .int q1]) (st' := [.int (nI 61), .ref 5]) (h' := zHp q6 t) rfl ?_
          obtain ⟨q7, hq, hF⟩ := zbd_ok hF
          refine zX_inv (av := [.ref 5, .int (nI 61)]) (st := []) (h' := zHp q7 t) rfl rfl rfl rfl rfl rfl (zcall_le (t_X4_writeByte M _ _ _ _ hq) (by omega)) ?_
          refine zX_go (c := 5) (pc' := 111) (lv' := [.ref 5, .int y1, .int y2, .int y3, .int (nI 0), .int y5, .int q1]) (st' := [.int (y2 + (nI 1)), .int q1, .ref 5]) (h' := zHp q7 t) rfl ?_
          obtain ⟨q8, hq, hF⟩ := zbd_ok hF
          refine zX_inv (av := [.ref 5, .int q1, .int (y2 + (nI 1))]) (st := []) (h' := zHp q8 t) rfl rfl rfl rfl rfl rfl (hr_X4_writeValue hq) ?_
          refine zX_go (c := 2) (pc' := 32) (lv' := [.ref 5, .int y1, .int y2, .int y3, .int (nI 0), .int (y5 + (nI 1)), .int q1]) (st' := []) (h' := zHp q8 t) rfl ?_
          exact ih q8 y1 y2 y3 (nI 0) (y5 + (nI 1)) _ (.int q1) hF
    · refine zX_go (c := 2) (pc' := 123) (lv' := [.ref 5, .int y1, .int y2, .int y3, .int y4, .int y5, u6]) (st' := [.int (nI 41), .ref 5]) (h' := zHp s t) rfl ?_
      obtain ⟨q9, hq, hF⟩ := zbd_ok hF
      refine zX_inv (av := [.ref 5, .int (nI 41)]) (st := []) (h' := zHp q9 t) rfl rfl rfl rfl rfl rfl (zcall_le (t_X4_writeByte M _ _ _ _ hq) (by omega)) ?_
      obtain rfl := Option.some.inj hF
      exact zX_retv rfl
def b_X4_writeInstance (M : Nat) (rec : Nat → zS → Int32 → Int32 → Option (zS)) (s : zS) (x1 x2 : Int32) : Option (zS) :=
  zbd (f_X3_markOf M s x1) (fun q1 =>
   zbd (f_X4_writeByte M s (nI 64)) (fun q2 =>
    zbd (f_X4_writeDigits M q2 q1) (fun q3 =>
     zbd (f_X4_writeByte M q3 (nI 40)) (fun q4 =>
      l_X4_writeInstance M rec M q4 x1 x2 q1 (nI 1) (nI 0)))))
set_option maxRecDepth 100000 in
set_option maxHeartbeats 4000000 in
theorem tb_X4_writeInstance {L : Nat} {xs : Nat → Int32} (M d : Nat) (rec : Nat → zS → Int32 → Int32 → Option (zS)) (hd : 3 ≤ d) (s t : zS) (hr_X4_writeValue : ∀ {s : zS} {a0 a1 : Int32} {R : zS}, rec 0 s a0 a1 = some R → zcall (ztb L xs) d 48 [.ref 5, .int a0, .int a1] (zHp s t) = some (none, zHp R t)) (x1 x2 : Int32) (R : zS) (hF : b_X4_writeInstance M rec s x1 x2 = some R) : zcall (ztb L xs) (d + 1) 50 [.ref 5, .int x1, .int x2] (zHp s t) = some (none, zHp R t) := by
  unfold b_X4_writeInstance at hF
  refine zcall_X (d := d) (e := zm_X4_writeInstance) rfl rfl ?_
  show zX (ztb L xs) (zcall (ztb L xs) d) 4 0 zk_X4_writeInstance 0 [.ref 5, .int x1, .int x2, .retAddr 0, .retAddr 0, .retAddr 0, .retAddr 0] [] (zHp s t) _
  refine zX_go (c := 3) (pc' := 5) (lv' := [.ref 5, .int x1, .int x2, .retAddr 0, .retAddr 0, .retAddr 0, .retAddr 0]) (st' := [.int x1, .ref 3]) (h' := zHp s t) rfl ?_
  obtain ⟨q1, hq, hF⟩ := zbd_ok hF
  refine zX_inv (av := [.ref 3, .int x1]) (st := []) (h' := zHp s t) rfl rfl rfl rfl rfl rfl (zcall_le (t_X3_markOf M _ _ _ _ hq) (by omega)) ?_
  refine zX_go (c := 5) (pc' := 15) (lv' := [.ref 5, .int x1, .int x2, .int q1, .int (nI 1), .retAddr 0, .retAddr 0]) (st' := [.int (nI 64), .ref 5]) (h' := zHp s t) rfl ?_
  obtain ⟨q2, hq, hF⟩ := zbd_ok hF
  refine zX_inv (av := [.ref 5, .int (nI 64)]) (st := []) (h' := zHp q2 t) rfl rfl rfl rfl rfl rfl (zcall_le (t_X4_writeByte M _ _ _ _ hq) (by omega)) ?_
  refine zX_go (c := 2) (pc' := 20) (lv' := [.ref 5, .int x1, .int x2, .int q1, .int (nI 1), .retAddr 0, .retAddr 0]) (st' := [.int q1, .ref 5]) (h' := zHp q2 t) rfl ?_
  obtain ⟨q3, hq, hF⟩ := zbd_ok hF
  refine zX_inv (av := [.ref 5, .int q1]) (st := []) (h' := zHp q3 t) rfl rfl rfl rfl rfl rfl (zcall_le (t_X4_writeDigits M _ _ _ _ hq) (by omega)) ?_
  refine zX_go (c := 2) (pc' := 26) (lv' := [.ref 5, .int x1, .int x2, .int q1, .int (nI 1), .retAddr 0, .retAddr 0]) (st' := [.int (nI 40), .ref 5]) (h' := zHp q3 t) rfl ?_
  obtain ⟨q4, hq, hF⟩ := zbd_ok hF
  refine zX_inv (av := [.ref 5, .int (nI 40)]) (st := []) (h' := zHp q4 t) rfl rfl rfl rfl rfl rfl (zcall_le (t_X4_writeByte M _ _ _ _ hq) (by omega)) ?_
  refine zX_go (c := 2) (pc' := 32) (lv' := [.ref 5, .int x1, .int x2, .int q1, .int (nI 1), .int (nI 0), .retAddr 0]) (st' := []) (h' := zHp q4 t) rfl ?_
  exact tl_X4_writeInstance M _ rec hd t hr_X4_writeValue M q4 x1 x2 q1 (nI 1) (nI 0) _ (.retAddr 0) hF
def g_X4_writeValue (M : Nat) : Nat → Nat → zS → Int32 → Int32 → Option (zS)
  | 0, _, _, _, _ => none
  | K + 1, w, s, x1, x2 => match w with
    | 0 => b_X4_writeValue M (g_X4_writeValue M K) s x1 x2
    | 1 => b_X4_writeRow M (g_X4_writeValue M K) s x1 x2
    | 2 => b_X4_writeInstance M (g_X4_writeValue M K) s x1 x2
    | _ => none
set_option maxRecDepth 100000 in
set_option maxHeartbeats 4000000 in
theorem tg_X4_writeValue {L : Nat} {xs : Nat → Int32} (M : Nat) : ∀ (K : Nat), (∀ (s t : zS) (x1 x2 : Int32) (R : zS), g_X4_writeValue M K 0 s x1 x2 = some R → zcall (ztb L xs) (3 + K) 48 [.ref 5, .int x1, .int x2] (zHp s t) = some (none, zHp R t)) ∧ (∀ (s t : zS) (x1 x2 : Int32) (R : zS), g_X4_writeValue M K 1 s x1 x2 = some R → zcall (ztb L xs) (3 + K) 49 [.ref 5, .int x1, .int x2] (zHp s t) = some (none, zHp R t)) ∧ (∀ (s t : zS) (x1 x2 : Int32) (R : zS), g_X4_writeValue M K 2 s x1 x2 = some R → zcall (ztb L xs) (3 + K) 50 [.ref 5, .int x1, .int x2] (zHp s t) = some (none, zHp R t)) := by
  intro K
  induction K with
  | zero => exact ⟨(by intros; rename_i hF; cases hF), (by intros; rename_i hF; cases hF), (by intros; rename_i hF; cases hF)⟩
  | succ K ih =>
    refine ⟨?_, ?_, ?_⟩
    · intro s t x1 x2 R hF
      exact tb_X4_writeValue M (3 + K) (g_X4_writeValue M K) (by omega) s t (fun hq => ih.2.1 _ t _ _ _ hq) (fun hq => ih.2.2 _ t _ _ _ hq) x1 x2 R hF
    · intro s t x1 x2 R hF
      exact tb_X4_writeRow M (3 + K) (g_X4_writeValue M K) (by omega) s t (fun hq => ih.1 _ t _ _ _ hq) x1 x2 R hF
    · intro s t x1 x2 R hF
      exact tb_X4_writeInstance M (3 + K) (g_X4_writeValue M K) (by omega) s t (fun hq => ih.1 _ t _ _ _ hq) x1 x2 R hF
theorem t_X4_writeValue {L : Nat} {xs : Nat → Int32} (M K : Nat) (s t : zS) (x1 x2 : Int32) (R : zS) (hF : g_X4_writeValue M K 0 s x1 x2 = some R) : zcall (ztb L xs) (3 + K) 48 [.ref 5, .int x1, .int x2] (zHp s t) = some (none, zHp R t) := (tg_X4_writeValue M K).1 s t x1 x2 R hF
theorem t_X4_writeRow {L : Nat} {xs : Nat → Int32} (M K : Nat) (s t : zS) (x1 x2 : Int32) (R : zS) (hF : g_X4_writeValue M K 1 s x1 x2 = some R) : zcall (ztb L xs) (3 + K) 49 [.ref 5, .int x1, .int x2] (zHp s t) = some (none, zHp R t) := (tg_X4_writeValue M K).2.1 s t x1 x2 R hF
theorem t_X4_writeInstance {L : Nat} {xs : Nat → Int32} (M K : Nat) (s t : zS) (x1 x2 : Int32) (R : zS) (hF : g_X4_writeValue M K 2 s x1 x2 = some R) : zcall (ztb L xs) (3 + K) 50 [.ref 5, .int x1, .int x2] (zHp s t) = some (none, zHp R t) := (tg_X4_writeValue M K).2.2 s t x1 x2 R hF
def f_X4_write (M : Nat) (s : zS) (x1 : Int32) : Option (Int32 × zS) :=
  zbd (f_X4_begin M s (nI 0)) (fun q1 =>
   zbd (g_X4_writeValue M 20 0 q1 x1 (nI 0)) (fun q2 =>
    if (nI 2000) < (q2 32 0) then
     some ((-3), q2)
    else
     zbd (f_X4_begin M q2 (nI 1)) (fun q3 =>
      zbd (g_X4_writeValue M 20 0 q3 x1 (nI 0)) (fun q4 =>
       some (q4 32 0, zup q4 30 0 (q4 32 0))))))
set_option maxRecDepth 100000 in
set_option maxHeartbeats 4000000 in
theorem t_X4_write {L : Nat} {xs : Nat → Int32} (M : Nat) (s t : zS) (x1 : Int32) (R : Int32 × zS) (hF : f_X4_write M s x1 = some R) : zcall (ztb L xs) 24 45 [.ref 5, .int x1] (zHp s t) = some (some (.int R.1), zHp R.2 t) := by
  unfold f_X4_write at hF
  refine zcall_X (d := 23) (e := zm_X4_write) rfl rfl ?_
  show zX (ztb L xs) (zcall (ztb L xs) 23) 4 1 zk_X4_write 0 [.ref 5, .int x1] [] (zHp s t) _
  refine zX_go (c := 2) (pc' := 2) (lv' := [.ref 5, .int x1]) (st' := [.int (nI 0), .ref 5]) (h' := zHp s t) rfl ?_
  obtain ⟨q1, hq, hF⟩ := zbd_ok hF
  refine zX_inv (av := [.ref 5, .int (nI 0)]) (st := []) (h' := zHp q1 t) rfl rfl rfl rfl rfl rfl (zcall_le (t_X4_begin M _ _ _ _ hq) (by decide)) ?_
  refine zX_go (c := 3) (pc' := 8) (lv' := [.ref 5, .int x1]) (st' := [.int (nI 0), .int x1, .ref 5]) (h' := zHp q1 t) rfl ?_
  obtain ⟨q2, hq, hF⟩ := zbd_ok hF
  refine zX_inv (av := [.ref 5, .int x1, .int (nI 0)]) (st := []) (h' := zHp q2 t) rfl rfl rfl rfl rfl rfl (zcall_le (t_X4_writeValue M 20 _ _ _ _ _ hq) (by decide)) ?_
  refine zX_go (c := 4) (pc' := if (nI 2000) < (q2 32 0) then 21 else 24) (lv' := [.ref 5, .int x1]) (st' := []) (h' := zHp q2 t) rfl ?_
  refine zX_ite hF (fun c0 hF => ?_) (fun c0 hF => ?_)
  · refine zX_go (c := 1) (pc' := 23) (lv' := [.ref 5, .int x1]) (st' := [.int (-3)]) (h' := zHp q2 t) rfl ?_
    obtain rfl := Option.some.inj hF
    exact zX_reti rfl
  · refine zX_go (c := 2) (pc' := 26) (lv' := [.ref 5, .int x1]) (st' := [.int (nI 1), .ref 5]) (h' := zHp q2 t) rfl ?_
    obtain ⟨q3, hq, hF⟩ := zbd_ok hF
    refine zX_inv (av := [.ref 5, .int (nI 1)]) (st := []) (h' := zHp q3 t) rfl rfl rfl rfl rfl rfl (zcall_le (t_X4_begin M _ _ _ _ hq) (by decide)) ?_
    refine zX_go (c := 3) (pc' := 32) (lv' := [.ref 5, .int x1]) (st' := [.int (nI 0), .int x1, .ref 5]) (h' := zHp q3 t) rfl ?_
    obtain ⟨q4, hq, hF⟩ := zbd_ok hF
    refine zX_inv (av := [.ref 5, .int x1, .int (nI 0)]) (st := []) (h' := zHp q4 t) rfl rfl rfl rfl rfl rfl (zcall_le (t_X4_writeValue M 20 _ _ _ _ _ hq) (by decide)) ?_
    refine zX_go (c := 3) (pc' := 40) (lv' := [.ref 5, .int x1]) (st' := [.int (q4 32 0), .ref 5]) (h' := zHp q4 t) rfl ?_
    refine zX_pfi (h' := zHp (zup q4 30 0 (q4 32 0)) t) rfl rfl rfl rfl (zst_5_3 _ _ _) ?_
    refine zX_go (c := 2) (pc' := 47) (lv' := [.ref 5, .int x1]) (st' := [.int (q4 32 0)]) (h' := zHp (zup q4 30 0 (q4 32 0)) t) rfl ?_
    obtain rfl := Option.some.inj hF
    exact zX_reti rfl
