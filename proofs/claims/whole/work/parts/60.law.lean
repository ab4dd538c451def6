/-! THE LAW'S LOOP, by program (gen3.py): each call answers as the reference does. -/
def zY (L : Nat) (xs : Nat → Int32) (pc : Nat) (i : Int32) (st : List Value) (h : zH) : Prop := ∃ h', zX (ztb L xs) (zcall (ztb L xs) 30) 7 2 zk_L_law pc [.ref 1001, .ref 0, .ref 6, .int i] st h (some (.int (nI 1)), h')
theorem zX_il {tb : zTb} {cal : zCal} {own rt : Nat} {cd : zCd} {pc : Nat} {lv st : List Value} {h : zH} {r : Option Value × zH} {len n k : Nat} {f : Nat → Int32} {i : Int32} (h1 : zfe cd pc = some (.iaload, len)) (h2 : zrd tb h k = some (n, f)) (hz : zin i n = true) (kk : zX tb cal own rt cd (pc + len) lv (.int (f i.toNatClampNeg) :: st) h r) : zX tb cal own rt cd pc lv (.int i :: .ref k :: st) h r :=
  zX_step h1 rfl (by
    show zial tb len pc lv (.int i :: .ref k :: st) h = _
    unfold zial
    simp only [h2, hz, if_true]) kk
theorem zX_bz {tb : zTb} {cal : zCal} {own rt : Nat} {cd : zCd} {lv st : List Value} {h : zH} {r : Option Value × zH} {c : Prop} [Decidable c] {p1 p2 p3 : Nat} {b0 b1 : Int32} (h0 : zX tb cal own rt cd p3 lv (.int b0 :: st) h r → zX tb cal own rt cd p1 lv st h r) (h1 : zX tb cal own rt cd p3 lv (.int b1 :: st) h r → zX tb cal own rt cd p2 lv st h r) (kk : zX tb cal own rt cd p3 lv (.int (if c then b0 else b1) :: st) h r) : zX tb cal own rt cd (if c then p1 else p2) lv st h r := by
  by_cases z : c
  · rw [if_pos z] at kk ⊢
    exact h0 kk
  · rw [if_neg z] at kk ⊢
    exact h1 kk
theorem zY_sw {L : Nat} {xs : Nat → Int32} {pc : Nat} {i : Int32} {st : List Value} {h : zH} {k o : Int} {r : List (Int × Int)} {d : Int} {x : Int32} (h1 : zY L xs (zto pc o) i st h) (h2 : zY L xs (zsw pc r d x) i st h) : zY L xs (zsw pc ((k, o) :: r) d x) i st h := by
  unfold zsw
  by_cases c : x = zki k
  · rw [if_pos c]
    exact h1
  · rw [if_neg c]
    exact h2
set_option maxRecDepth 100000 in
set_option maxHeartbeats 4000000 in
theorem lw_c0 {L N : Nat} {xs : Nat → Int32} (hN : 9000000 ≤ N) {s t : zS} (h : Iv s t) (i : Int32) (hz : ∀ k, k < 5 → zin (i + nI k) L = true) (nx : ∀ s' t', Iv s' t' → zY L xs 900 i [] (zHp s' t')) : zY L xs 136 i [] (zHp s t) := by
  obtain ⟨r, s', t', h1, h2, h3⟩ := o_mark (M := N + 3000) h ((xs (i + (nI 1)).toNatClampNeg)) ((xs (i + (nI 2)).toNatClampNeg)) ((if (xs (i + (nI 3)).toNatClampNeg) = 0 then nI 0 else nI 1))
  obtain ⟨h', hk⟩ := nx s' t' h3
  generalize N + 3000 = MM at h1 h2
  refine ⟨h', ?_⟩
  refine zX_go (c := 5) (pc' := 141) (lv' := [.ref 1001, .ref 0, .ref 6, .int i]) (st' := [.int (i + (nI 1)), .ref 1001, .ref 0]) (h' := zHp s t) rfl ?_
  refine zX_il (len := 1) (n := L) (f := xs) (k := 1001) rfl rfl (hz 1 (by decide)) ?_
  refine zX_go (c := 4) (pc' := 146) (lv' := [.ref 1001, .ref 0, .ref 6, .int i]) (st' := [.int (i + (nI 2)), .ref 1001, .int (xs (i + (nI 1)).toNatClampNeg), .ref 0]) (h' := zHp s t) rfl ?_
  refine zX_il (len := 1) (n := L) (f := xs) (k := 1001) rfl rfl (hz 2 (by decide)) ?_
  refine zX_go (c := 4) (pc' := 151) (lv' := [.ref 1001, .ref 0, .ref 6, .int i]) (st' := [.int (i + (nI 3)), .ref 1001, .int (xs (i + (nI 2)).toNatClampNeg), .int (xs (i + (nI 1)).toNatClampNeg), .ref 0]) (h' := zHp s t) rfl ?_
  refine zX_il (len := 1) (n := L) (f := xs) (k := 1001) rfl rfl (hz 3 (by decide)) ?_
  refine zX_go (c := 1) (pc' := if (xs (i + (nI 3)).toNatClampNeg) = 0 then 159 else 155) (lv' := [.ref 1001, .ref 0, .ref 6, .int i]) (st' := [.int (xs (i + (nI 2)).toNatClampNeg), .int (xs (i + (nI 1)).toNatClampNeg), .ref 0]) (h' := zHp s t) rfl ?_
  refine zX_bz (p3 := 160) (b0 := nI 0) (b1 := nI 1) (zX_go (c := 1) (lv' := [.ref 1001, .ref 0, .ref 6, .int i]) (h' := zHp s t) rfl) (zX_go (c := 2) (lv' := [.ref 1001, .ref 0, .ref 6, .int i]) (h' := zHp s t) rfl) ?_
  refine zX_inv (av := [.ref 0, .int (xs (i + (nI 1)).toNatClampNeg), .int (xs (i + (nI 2)).toNatClampNeg), .int (if (xs (i + (nI 3)).toNatClampNeg) = 0 then nI 0 else nI 1)]) (st := []) (v := some (.int r)) (h' := zHp s' t) rfl rfl rfl rfl rfl rfl (zcall_le (t_X5_mark MM _ _ _ _ _ _ h1) (by decide)) ?_
  refine zX_go (c := 5) (pc' := 168) (lv' := [.ref 1001, .ref 0, .ref 6, .int i]) (st' := [.int (i + (nI 1)), .ref 1001, .ref 6, .int r]) (h' := zHp s' t) rfl ?_
  refine zX_il (len := 1) (n := L) (f := xs) (k := 1001) rfl rfl (hz 1 (by decide)) ?_
  refine zX_go (c := 4) (pc' := 173) (lv' := [.ref 1001, .ref 0, .ref 6, .int i]) (st' := [.int (i + (nI 2)), .ref 1001, .int (xs (i + (nI 1)).toNatClampNeg), .ref 6, .int r]) (h' := zHp s' t) rfl ?_
  refine zX_il (len := 1) (n := L) (f := xs) (k := 1001) rfl rfl (hz 2 (by decide)) ?_
  refine zX_go (c := 4) (pc' := 178) (lv' := [.ref 1001, .ref 0, .ref 6, .int i]) (st' := [.int (i + (nI 3)), .ref 1001, .int (xs (i + (nI 2)).toNatClampNeg), .int (xs (i + (nI 1)).toNatClampNeg), .ref 6, .int r]) (h' := zHp s' t) rfl ?_
  refine zX_il (len := 1) (n := L) (f := xs) (k := 1001) rfl rfl (hz 3 (by decide)) ?_
  refine zX_go (c := 1) (pc' := if (xs (i + (nI 3)).toNatClampNeg) = 0 then 186 else 182) (lv' := [.ref 1001, .ref 0, .ref 6, .int i]) (st' := [.int (xs (i + (nI 2)).toNatClampNeg), .int (xs (i + (nI 1)).toNatClampNeg), .ref 6, .int r]) (h' := zHp s' t) rfl ?_
  refine zX_bz (p3 := 187) (b0 := nI 0) (b1 := nI 1) (zX_go (c := 1) (lv' := [.ref 1001, .ref 0, .ref 6, .int i]) (h' := zHp s' t) rfl) (zX_go (c := 2) (lv' := [.ref 1001, .ref 0, .ref 6, .int i]) (h' := zHp s' t) rfl) ?_
  refine zX_inv (av := [.ref 6, .int (xs (i + (nI 1)).toNatClampNeg), .int (xs (i + (nI 2)).toNatClampNeg), .int (if (xs (i + (nI 3)).toNatClampNeg) = 0 then nI 0 else nI 1)]) (st := [.int r]) (v := some (.int r)) (h' := zHp s' t') rfl rfl rfl rfl rfl rfl (zcall_le (t_X6_mark MM _ _ _ _ _ _ h2) (by decide)) ?_
  refine zX_go (c := 1) (pc' := if r = r then 900 else 193) (lv' := [.ref 1001, .ref 0, .ref 6, .int i]) (st' := []) (h' := zHp s' t') rfl ?_
  rw [if_pos rfl]
  exact hk
set_option maxRecDepth 100000 in
set_option maxHeartbeats 4000000 in
theorem lw_c1 {L N : Nat} {xs : Nat → Int32} (hN : 9000000 ≤ N) {s t : zS} (h : Iv s t) (i : Int32) (hz : ∀ k, k < 5 → zin (i + nI k) L = true) (nx : ∀ s' t', Iv s' t' → zY L xs 900 i [] (zHp s' t')) : zY L xs 195 i [] (zHp s t) := by
  obtain ⟨r, s', t', h1, h2, h3⟩ := o_element (N := N) h ((xs (i + (nI 1)).toNatClampNeg)) ((xs (i + (nI 2)).toNatClampNeg)) ((xs (i + (nI 3)).toNatClampNeg)) ((if (xs (i + (nI 4)).toNatClampNeg) = 0 then nI 0 else nI 1))
  obtain ⟨h', hk⟩ := nx s' t' h3
  generalize N + 3000 = MM at h1 h2
  refine ⟨h', ?_⟩
  refine zX_go (c := 5) (pc' := 200) (lv' := [.ref 1001, .ref 0, .ref 6, .int i]) (st' := [.int (i + (nI 1)), .ref 1001, .ref 0]) (h' := zHp s t) rfl ?_
  refine zX_il (len := 1) (n := L) (f := xs) (k := 1001) rfl rfl (hz 1 (by decide)) ?_
  refine zX_go (c := 4) (pc' := 205) (lv' := [.ref 1001, .ref 0, .ref 6, .int i]) (st' := [.int (i + (nI 2)), .ref 1001, .int (xs (i + (nI 1)).toNatClampNeg), .ref 0]) (h' := zHp s t) rfl ?_
  refine zX_il (len := 1) (n := L) (f := xs) (k := 1001) rfl rfl (hz 2 (by decide)) ?_
  refine zX_go (c := 4) (pc' := 210) (lv' := [.ref 1001, .ref 0, .ref 6, .int i]) (st' := [.int (i + (nI 3)), .ref 1001, .int (xs (i + (nI 2)).toNatClampNeg), .int (xs (i + (nI 1)).toNatClampNeg), .ref 0]) (h' := zHp s t) rfl ?_
  refine zX_il (len := 1) (n := L) (f := xs) (k := 1001) rfl rfl (hz 3 (by decide)) ?_
  refine zX_go (c := 4) (pc' := 215) (lv' := [.ref 1001, .ref 0, .ref 6, .int i]) (st' := [.int (i + (nI 4)), .ref 1001, .int (xs (i + (nI 3)).toNatClampNeg), .int (xs (i + (nI 2)).toNatClampNeg), .int (xs (i + (nI 1)).toNatClampNeg), .ref 0]) (h' := zHp s t) rfl ?_
  refine zX_il (len := 1) (n := L) (f := xs) (k := 1001) rfl rfl (hz 4 (by decide)) ?_
  refine zX_go (c := 1) (pc' := if (xs (i + (nI 4)).toNatClampNeg) = 0 then 223 else 219) (lv' := [.ref 1001, .ref 0, .ref 6, .int i]) (st' := [.int (xs (i + (nI 3)).toNatClampNeg), .int (xs (i + (nI 2)).toNatClampNeg), .int (xs (i + (nI 1)).toNatClampNeg), .ref 0]) (h' := zHp s t) rfl ?_
  refine zX_bz (p3 := 224) (b0 := nI 0) (b1 := nI 1) (zX_go (c := 1) (lv' := [.ref 1001, .ref 0, .ref 6, .int i]) (h' := zHp s t) rfl) (zX_go (c := 2) (lv' := [.ref 1001, .ref 0, .ref 6, .int i]) (h' := zHp s t) rfl) ?_
  refine zX_inv (av := [.ref 0, .int (xs (i + (nI 1)).toNatClampNeg), .int (xs (i + (nI 2)).toNatClampNeg), .int (xs (i + (nI 3)).toNatClampNeg), .int (if (xs (i + (nI 4)).toNatClampNeg) = 0 then nI 0 else nI 1)]) (st := []) (v := some (.int r)) (h' := zHp s' t) rfl rfl rfl rfl rfl rfl (zcall_le (t_X5_element MM _ _ _ _ _ _ _ h1) (by decide)) ?_
  refine zX_go (c := 5) (pc' := 232) (lv' := [.ref 1001, .ref 0, .ref 6, .int i]) (st' := [.int (i + (nI 1)), .ref 1001, .ref 6, .int r]) (h' := zHp s' t) rfl ?_
  refine zX_il (len := 1) (n := L) (f := xs) (k := 1001) rfl rfl (hz 1 (by decide)) ?_
  refine zX_go (c := 4) (pc' := 237) (lv' := [.ref 1001, .ref 0, .ref 6, .int i]) (st' := [.int (i + (nI 2)), .ref 1001, .int (xs (i + (nI 1)).toNatClampNeg), .ref 6, .int r]) (h' := zHp s' t) rfl ?_
  refine zX_il (len := 1) (n := L) (f := xs) (k := 1001) rfl rfl (hz 2 (by decide)) ?_
  refine zX_go (c := 4) (pc' := 242) (lv' := [.ref 1001, .ref 0, .ref 6, .int i]) (st' := [.int (i + (nI 3)), .ref 1001, .int (xs (i + (nI 2)).toNatClampNeg), .int (xs (i + (nI 1)).toNatClampNeg), .ref 6, .int r]) (h' := zHp s' t) rfl ?_
  refine zX_il (len := 1) (n := L) (f := xs) (k := 1001) rfl rfl (hz 3 (by decide)) ?_
  refine zX_go (c := 4) (pc' := 247) (lv' := [.ref 1001, .ref 0, .ref 6, .int i]) (st' := [.int (i + (nI 4)), .ref 1001, .int (xs (i + (nI 3)).toNatClampNeg), .int (xs (i + (nI 2)).toNatClampNeg), .int (xs (i + (nI 1)).toNatClampNeg), .ref 6, .int r]) (h' := zHp s' t) rfl ?_
  refine zX_il (len := 1) (n := L) (f := xs) (k := 1001) rfl rfl (hz 4 (by decide)) ?_
  refine zX_go (c := 1) (pc' := if (xs (i + (nI 4)).toNatClampNeg) = 0 then 255 else 251) (lv' := [.ref 1001, .ref 0, .ref 6, .int i]) (st' := [.int (xs (i + (nI 3)).toNatClampNeg), .int (xs (i + (nI 2)).toNatClampNeg), .int (xs (i + (nI 1)).toNatClampNeg), .ref 6, .int r]) (h' := zHp s' t) rfl ?_
  refine zX_bz (p3 := 256) (b0 := nI 0) (b1 := nI 1) (zX_go (c := 1) (lv' := [.ref 1001, .ref 0, .ref 6, .int i]) (h' := zHp s' t) rfl) (zX_go (c := 2) (lv' := [.ref 1001, .ref 0, .ref 6, .int i]) (h' := zHp s' t) rfl) ?_
  refine zX_inv (av := [.ref 6, .int (xs (i + (nI 1)).toNatClampNeg), .int (xs (i + (nI 2)).toNatClampNeg), .int (xs (i + (nI 3)).toNatClampNeg), .int (if (xs (i + (nI 4)).toNatClampNeg) = 0 then nI 0 else nI 1)]) (st := [.int r]) (v := some (.int r)) (h' := zHp s' t') rfl rfl rfl rfl rfl rfl (zcall_le (t_X6_element MM _ _ _ _ _ _ _ h2) (by decide)) ?_
  refine zX_go (c := 1) (pc' := if r = r then 900 else 262) (lv' := [.ref 1001, .ref 0, .ref 6, .int i]) (st' := []) (h' := zHp s' t') rfl ?_
  rw [if_pos rfl]
  exact hk
set_option maxRecDepth 100000 in
set_option maxHeartbeats 4000000 in
theorem lw_c2 {L N : Nat} {xs : Nat → Int32} (hN : 9000000 ≤ N) {s t : zS} (h : Iv s t) (i : Int32) (hz : ∀ k, k < 5 → zin (i + nI k) L = true) (nx : ∀ s' t', Iv s' t' → zY L xs 900 i [] (zHp s' t')) : zY L xs 264 i [] (zHp s t) := by
  obtain ⟨r, s', t', h1, h2, h3⟩ := o_fallback (N := N) hN h ((xs (i + (nI 1)).toNatClampNeg)) ((xs (i + (nI 2)).toNatClampNeg)) ((xs (i + (nI 3)).toNatClampNeg))
  obtain ⟨h', hk⟩ := nx s' t' h3
  generalize N + 3000 = MM at h1 h2
  refine ⟨h', ?_⟩
  refine zX_go (c := 5) (pc' := 269) (lv' := [.ref 1001, .ref 0, .ref 6, .int i]) (st' := [.int (i + (nI 1)), .ref 1001, .ref 0]) (h' := zHp s t) rfl ?_
  refine zX_il (len := 1) (n := L) (f := xs) (k := 1001) rfl rfl (hz 1 (by decide)) ?_
  refine zX_go (c := 4) (pc' := 274) (lv' := [.ref 1001, .ref 0, .ref 6, .int i]) (st' := [.int (i + (nI 2)), .ref 1001, .int (xs (i + (nI 1)).toNatClampNeg), .ref 0]) (h' := zHp s t) rfl ?_
  refine zX_il (len := 1) (n := L) (f := xs) (k := 1001) rfl rfl (hz 2 (by decide)) ?_
  refine zX_go (c := 4) (pc' := 279) (lv' := [.ref 1001, .ref 0, .ref 6, .int i]) (st' := [.int (i + (nI 3)), .ref 1001, .int (xs (i + (nI 2)).toNatClampNeg), .int (xs (i + (nI 1)).toNatClampNeg), .ref 0]) (h' := zHp s t) rfl ?_
  refine zX_il (len := 1) (n := L) (f := xs) (k := 1001) rfl rfl (hz 3 (by decide)) ?_
  refine zX_inv (av := [.ref 0, .int (xs (i + (nI 1)).toNatClampNeg), .int (xs (i + (nI 2)).toNatClampNeg), .int (xs (i + (nI 3)).toNatClampNeg)]) (st := []) (v := some (.int r)) (h' := zHp s' t) rfl rfl rfl rfl rfl rfl (zcall_le (t_X5_fallback MM _ _ _ _ _ _ h1) (by decide)) ?_
  refine zX_go (c := 5) (pc' := 288) (lv' := [.ref 1001, .ref 0, .ref 6, .int i]) (st' := [.int (i + (nI 1)), .ref 1001, .ref 6, .int r]) (h' := zHp s' t) rfl ?_
  refine zX_il (len := 1) (n := L) (f := xs) (k := 1001) rfl rfl (hz 1 (by decide)) ?_
  refine zX_go (c := 4) (pc' := 293) (lv' := [.ref 1001, .ref 0, .ref 6, .int i]) (st' := [.int (i + (nI 2)), .ref 1001, .int (xs (i + (nI 1)).toNatClampNeg), .ref 6, .int r]) (h' := zHp s' t) rfl ?_
  refine zX_il (len := 1) (n := L) (f := xs) (k := 1001) rfl rfl (hz 2 (by decide)) ?_
  refine zX_go (c := 4) (pc' := 298) (lv' := [.ref 1001, .ref 0, .ref 6, .int i]) (st' := [.int (i + (nI 3)), .ref 1001, .int (xs (i + (nI 2)).toNatClampNeg), .int (xs (i + (nI 1)).toNatClampNeg), .ref 6, .int r]) (h' := zHp s' t) rfl ?_
  refine zX_il (len := 1) (n := L) (f := xs) (k := 1001) rfl rfl (hz 3 (by decide)) ?_
  refine zX_inv (av := [.ref 6, .int (xs (i + (nI 1)).toNatClampNeg), .int (xs (i + (nI 2)).toNatClampNeg), .int (xs (i + (nI 3)).toNatClampNeg)]) (st := [.int r]) (v := some (.int r)) (h' := zHp s' t') rfl rfl rfl rfl rfl rfl (zcall_le (t_X6_fallback MM _ _ _ _ _ _ h2) (by decide)) ?_
  refine zX_go (c := 1) (pc' := if r = r then 900 else 305) (lv' := [.ref 1001, .ref 0, .ref 6, .int i]) (st' := []) (h' := zHp s' t') rfl ?_
  rw [if_pos rfl]
  exact hk
set_option maxRecDepth 100000 in
set_option maxHeartbeats 4000000 in
theorem lw_c3 {L N : Nat} {xs : Nat → Int32} (hN : 9000000 ≤ N) {s t : zS} (h : Iv s t) (i : Int32) (hz : ∀ k, k < 5 → zin (i + nI k) L = true) (nx : ∀ s' t', Iv s' t' → zY L xs 900 i [] (zHp s' t')) : zY L xs 307 i [] (zHp s t) := by
  obtain ⟨r, s', t', h1, h2, h3⟩ := o_container (N := N) h ((xs (i + (nI 1)).toNatClampNeg)) ((xs (i + (nI 2)).toNatClampNeg))
  obtain ⟨h', hk⟩ := nx s' t' h3
  generalize N + 3000 = MM at h1 h2
  refine ⟨h', ?_⟩
  refine zX_go (c := 5) (pc' := 312) (lv' := [.ref 1001, .ref 0, .ref 6, .int i]) (st' := [.int (i + (nI 1)), .ref 1001, .ref 0]) (h' := zHp s t) rfl ?_
  refine zX_il (len := 1) (n := L) (f := xs) (k := 1001) rfl rfl (hz 1 (by decide)) ?_
  refine zX_go (c := 4) (pc' := 317) (lv' := [.ref 1001, .ref 0, .ref 6, .int i]) (st' := [.int (i + (nI 2)), .ref 1001, .int (xs (i + (nI 1)).toNatClampNeg), .ref 0]) (h' := zHp s t) rfl ?_
  refine zX_il (len := 1) (n := L) (f := xs) (k := 1001) rfl rfl (hz 2 (by decide)) ?_
  refine zX_inv (av := [.ref 0, .int (xs (i + (nI 1)).toNatClampNeg), .int (xs (i + (nI 2)).toNatClampNeg)]) (st := []) (v := some (.int r)) (h' := zHp s' t) rfl rfl rfl rfl rfl rfl (zcall_le (t_X5_container MM _ _ _ _ _ h1) (by decide)) ?_
  refine zX_go (c := 5) (pc' := 326) (lv' := [.ref 1001, .ref 0, .ref 6, .int i]) (st' := [.int (i + (nI 1)), .ref 1001, .ref 6, .int r]) (h' := zHp s' t) rfl ?_
  refine zX_il (len := 1) (n := L) (f := xs) (k := 1001) rfl rfl (hz 1 (by decide)) ?_
  refine zX_go (c := 4) (pc' := 331) (lv' := [.ref 1001, .ref 0, .ref 6, .int i]) (st' := [.int (i + (nI 2)), .ref 1001, .int (xs (i + (nI 1)).toNatClampNeg), .ref 6, .int r]) (h' := zHp s' t) rfl ?_
  refine zX_il (len := 1) (n := L) (f := xs) (k := 1001) rfl rfl (hz 2 (by decide)) ?_
  refine zX_inv (av := [.ref 6, .int (xs (i + (nI 1)).toNatClampNeg), .int (xs (i + (nI 2)).toNatClampNeg)]) (st := [.int r]) (v := some (.int r)) (h' := zHp s' t') rfl rfl rfl rfl rfl rfl (zcall_le (t_X6_container MM _ _ _ _ _ h2) (by decide)) ?_
  refine zX_go (c := 1) (pc' := if r = r then 900 else 338) (lv' := [.ref 1001, .ref 0, .ref 6, .int i]) (st' := []) (h' := zHp s' t') rfl ?_
  rw [if_pos rfl]
  exact hk
set_option maxRecDepth 100000 in
set_option maxHeartbeats 4000000 in
theorem lw_c4 {L N : Nat} {xs : Nat → Int32} (hN : 9000000 ≤ N) {s t : zS} (h : Iv s t) (i : Int32) (hz : ∀ k, k < 5 → zin (i + nI k) L = true) (nx : ∀ s' t', Iv s' t' → zY L xs 900 i [] (zHp s' t')) : zY L xs 340 i [] (zHp s t) := by
  obtain ⟨r, s', t', h1, h2, h3⟩ := o_place (M := N + 3000) h ((xs (i + (nI 1)).toNatClampNeg)) ((xs (i + (nI 2)).toNatClampNeg))
  obtain ⟨h', hk⟩ := nx s' t' h3
  generalize N + 3000 = MM at h1 h2
  refine ⟨h', ?_⟩
  refine zX_go (c := 5) (pc' := 345) (lv' := [.ref 1001, .ref 0, .ref 6, .int i]) (st' := [.int (i + (nI 1)), .ref 1001, .ref 0]) (h' := zHp s t) rfl ?_
  refine zX_il (len := 1) (n := L) (f := xs) (k := 1001) rfl rfl (hz 1 (by decide)) ?_
  refine zX_go (c := 4) (pc' := 350) (lv' := [.ref 1001, .ref 0, .ref 6, .int i]) (st' := [.int (i + (nI 2)), .ref 1001, .int (xs (i + (nI 1)).toNatClampNeg), .ref 0]) (h' := zHp s t) rfl ?_
  refine zX_il (len := 1) (n := L) (f := xs) (k := 1001) rfl rfl (hz 2 (by decide)) ?_
  refine zX_inv (av := [.ref 0, .int (xs (i + (nI 1)).toNatClampNeg), .int (xs (i + (nI 2)).toNatClampNeg)]) (st := []) (v := some (.int r)) (h' := zHp s' t) rfl rfl rfl rfl rfl rfl (zcall_le (t_X5_place MM _ _ _ _ _ h1) (by decide)) ?_
  refine zX_go (c := 5) (pc' := 359) (lv' := [.ref 1001, .ref 0, .ref 6, .int i]) (st' := [.int (i + (nI 1)), .ref 1001, .ref 6, .int r]) (h' := zHp s' t) rfl ?_
  refine zX_il (len := 1) (n := L) (f := xs) (k := 1001) rfl rfl (hz 1 (by decide)) ?_
  refine zX_go (c := 4) (pc' := 364) (lv' := [.ref 1001, .ref 0, .ref 6, .int i]) (st' := [.int (i + (nI 2)), .ref 1001, .int (xs (i + (nI 1)).toNatClampNeg), .ref 6, .int r]) (h' := zHp s' t) rfl ?_
  refine zX_il (len := 1) (n := L) (f := xs) (k := 1001) rfl rfl (hz 2 (by decide)) ?_
  refine zX_inv (av := [.ref 6, .int (xs (i + (nI 1)).toNatClampNeg), .int (xs (i + (nI 2)).toNatClampNeg)]) (st := [.int r]) (v := some (.int r)) (h' := zHp s' t') rfl rfl rfl rfl rfl rfl (zcall_le (t_X6_place MM _ _ _ _ _ h2) (by decide)) ?_
  refine zX_go (c := 1) (pc' := if r = r then 900 else 371) (lv' := [.ref 1001, .ref 0, .ref 6, .int i]) (st' := []) (h' := zHp s' t') rfl ?_
  rw [if_pos rfl]
  exact hk
set_option maxRecDepth 100000 in
set_option maxHeartbeats 4000000 in
theorem lw_c5 {L N : Nat} {xs : Nat → Int32} (hN : 9000000 ≤ N) {s t : zS} (h : Iv s t) (i : Int32) (hz : ∀ k, k < 5 → zin (i + nI k) L = true) (nx : ∀ s' t', Iv s' t' → zY L xs 900 i [] (zHp s' t')) : zY L xs 373 i [] (zHp s t) := by
  obtain ⟨r, s', t', h1, h2, h3⟩ := o_value (N := N) h ((xs (i + (nI 1)).toNatClampNeg)) ((xs (i + (nI 2)).toNatClampNeg))
  obtain ⟨h', hk⟩ := nx s' t' h3
  generalize N + 3000 = MM at h1 h2
  refine ⟨h', ?_⟩
  refine zX_go (c := 5) (pc' := 378) (lv' := [.ref 1001, .ref 0, .ref 6, .int i]) (st' := [.int (i + (nI 1)), .ref 1001, .ref 0]) (h' := zHp s t) rfl ?_
  refine zX_il (len := 1) (n := L) (f := xs) (k := 1001) rfl rfl (hz 1 (by decide)) ?_
  refine zX_go (c := 4) (pc' := 383) (lv' := [.ref 1001, .ref 0, .ref 6, .int i]) (st' := [.int (i + (nI 2)), .ref 1001, .int (xs (i + (nI 1)).toNatClampNeg), .ref 0]) (h' := zHp s t) rfl ?_
  refine zX_il (len := 1) (n := L) (f := xs) (k := 1001) rfl rfl (hz 2 (by decide)) ?_
  refine zX_inv (av := [.ref 0, .int (xs (i + (nI 1)).toNatClampNeg), .int (xs (i + (nI 2)).toNatClampNeg)]) (st := []) (v := some (.int r)) (h' := zHp s' t) rfl rfl rfl rfl rfl rfl (zcall_le (t_X5_value MM _ _ _ _ _ h1) (by decide)) ?_
  refine zX_go (c := 5) (pc' := 392) (lv' := [.ref 1001, .ref 0, .ref 6, .int i]) (st' := [.int (i + (nI 1)), .ref 1001, .ref 6, .int r]) (h' := zHp s' t) rfl ?_
  refine zX_il (len := 1) (n := L) (f := xs) (k := 1001) rfl rfl (hz 1 (by decide)) ?_
  refine zX_go (c := 4) (pc' := 397) (lv' := [.ref 1001, .ref 0, .ref 6, .int i]) (st' := [.int (i + (nI 2)), .ref 1001, .int (xs (i + (nI 1)).toNatClampNeg), .ref 6, .int r]) (h' := zHp s' t) rfl ?_
  refine zX_il (len := 1) (n := L) (f := xs) (k := 1001) rfl rfl (hz 2 (by decide)) ?_
  refine zX_inv (av := [.ref 6, .int (xs (i + (nI 1)).toNatClampNeg), .int (xs (i + (nI 2)).toNatClampNeg)]) (st := [.int r]) (v := some (.int r)) (h' := zHp s' t') rfl rfl rfl rfl rfl rfl (zcall_le (t_X6_value MM _ _ _ _ _ h2) (by decide)) ?_
  refine zX_go (c := 1) (pc' := if r = r then 900 else 404) (lv' := [.ref 1001, .ref 0, .ref 6, .int i]) (st' := []) (h' := zHp s' t') rfl ?_
  rw [if_pos rfl]
  exact hk
set_option maxRecDepth 100000 in
set_option maxHeartbeats 4000000 in
theorem lw_c6 {L N : Nat} {xs : Nat → Int32} (hN : 9000000 ≤ N) {s t : zS} (h : Iv s t) (i : Int32) (hz : ∀ k, k < 5 → zin (i + nI k) L = true) (nx : ∀ s' t', Iv s' t' → zY L xs 900 i [] (zHp s' t')) : zY L xs 406 i [] (zHp s t) := by
  obtain ⟨r, s', t', h1, h2, h3⟩ := o_row (N := N) h ((xs (i + (nI 1)).toNatClampNeg))
  obtain ⟨h', hk⟩ := nx s' t' h3
  generalize N + 3000 = MM at h1 h2
  refine ⟨h', ?_⟩
  refine zX_go (c := 5) (pc' := 411) (lv' := [.ref 1001, .ref 0, .ref 6, .int i]) (st' := [.int (i + (nI 1)), .ref 1001, .ref 0]) (h' := zHp s t) rfl ?_
  refine zX_il (len := 1) (n := L) (f := xs) (k := 1001) rfl rfl (hz 1 (by decide)) ?_
  refine zX_inv (av := [.ref 0, .int (xs (i + (nI 1)).toNatClampNeg)]) (st := []) (v := some (.int r)) (h' := zHp s' t) rfl rfl rfl rfl rfl rfl (zcall_le (t_X5_row MM _ _ _ _ h1) (by decide)) ?_
  refine zX_go (c := 5) (pc' := 420) (lv' := [.ref 1001, .ref 0, .ref 6, .int i]) (st' := [.int (i + (nI 1)), .ref 1001, .ref 6, .int r]) (h' := zHp s' t) rfl ?_
  refine zX_il (len := 1) (n := L) (f := xs) (k := 1001) rfl rfl (hz 1 (by decide)) ?_
  refine zX_inv (av := [.ref 6, .int (xs (i + (nI 1)).toNatClampNeg)]) (st := [.int r]) (v := some (.int r)) (h' := zHp s' t') rfl rfl rfl rfl rfl rfl (zcall_le (t_X6_row MM _ _ _ _ h2) (by decide)) ?_
  refine zX_go (c := 1) (pc' := if r = r then 900 else 427) (lv' := [.ref 1001, .ref 0, .ref 6, .int i]) (st' := []) (h' := zHp s' t') rfl ?_
  rw [if_pos rfl]
  exact hk
set_option maxRecDepth 100000 in
set_option maxHeartbeats 4000000 in
theorem lw_c7 {L N : Nat} {xs : Nat → Int32} (hN : 9000000 ≤ N) {s t : zS} (h : Iv s t) (i : Int32) (hz : ∀ k, k < 5 → zin (i + nI k) L = true) (nx : ∀ s' t', Iv s' t' → zY L xs 900 i [] (zHp s' t')) : zY L xs 429 i [] (zHp s t) := by
  obtain ⟨r, s', t', h1, h2, h3⟩ := o_push (N := N) h ((xs (i + (nI 1)).toNatClampNeg)) ((xs (i + (nI 2)).toNatClampNeg))
  obtain ⟨h', hk⟩ := nx s' t' h3
  generalize N + 3000 = MM at h1 h2
  refine ⟨h', ?_⟩
  refine zX_go (c := 5) (pc' := 434) (lv' := [.ref 1001, .ref 0, .ref 6, .int i]) (st' := [.int (i + (nI 1)), .ref 1001, .ref 0]) (h' := zHp s t) rfl ?_
  refine zX_il (len := 1) (n := L) (f := xs) (k := 1001) rfl rfl (hz 1 (by decide)) ?_
  refine zX_go (c := 4) (pc' := 439) (lv' := [.ref 1001, .ref 0, .ref 6, .int i]) (st' := [.int (i + (nI 2)), .ref 1001, .int (xs (i + (nI 1)).toNatClampNeg), .ref 0]) (h' := zHp s t) rfl ?_
  refine zX_il (len := 1) (n := L) (f := xs) (k := 1001) rfl rfl (hz 2 (by decide)) ?_
  refine zX_inv (av := [.ref 0, .int (xs (i + (nI 1)).toNatClampNeg), .int (xs (i + (nI 2)).toNatClampNeg)]) (st := []) (v := some (.int r)) (h' := zHp s' t) rfl rfl rfl rfl rfl rfl (zcall_le (t_X5_push MM _ _ _ _ _ h1) (by decide)) ?_
  refine zX_go (c := 5) (pc' := 448) (lv' := [.ref 1001, .ref 0, .ref 6, .int i]) (st' := [.int (i + (nI 1)), .ref 1001, .ref 6, .int r]) (h' := zHp s' t) rfl ?_
  refine zX_il (len := 1) (n := L) (f := xs) (k := 1001) rfl rfl (hz 1 (by decide)) ?_
  refine zX_go (c := 4) (pc' := 453) (lv' := [.ref 1001, .ref 0, .ref 6, .int i]) (st' := [.int (i + (nI 2)), .ref 1001, .int (xs (i + (nI 1)).toNatClampNeg), .ref 6, .int r]) (h' := zHp s' t) rfl ?_
  refine zX_il (len := 1) (n := L) (f := xs) (k := 1001) rfl rfl (hz 2 (by decide)) ?_
  refine zX_inv (av := [.ref 6, .int (xs (i + (nI 1)).toNatClampNeg), .int (xs (i + (nI 2)).toNatClampNeg)]) (st := [.int r]) (v := some (.int r)) (h' := zHp s' t') rfl rfl rfl rfl rfl rfl (zcall_le (t_X6_push MM _ _ _ _ _ h2) (by decide)) ?_
  refine zX_go (c := 1) (pc' := if r = r then 900 else 460) (lv' := [.ref 1001, .ref 0, .ref 6, .int i]) (st' := []) (h' := zHp s' t') rfl ?_
  rw [if_pos rfl]
  exact hk
set_option maxRecDepth 100000 in
set_option maxHeartbeats 4000000 in
theorem lw_c8 {L N : Nat} {xs : Nat → Int32} (hN : 9000000 ≤ N) {s t : zS} (h : Iv s t) (i : Int32) (hz : ∀ k, k < 5 → zin (i + nI k) L = true) (nx : ∀ s' t', Iv s' t' → zY L xs 900 i [] (zHp s' t')) : zY L xs 462 i [] (zHp s t) := by
  obtain ⟨r, s', t', h1, h2, h3⟩ := o_instance (N := N) h ((xs (i + (nI 1)).toNatClampNeg))
  obtain ⟨h', hk⟩ := nx s' t' h3
  generalize N + 3000 = MM at h1 h2
  refine ⟨h', ?_⟩
  refine zX_go (c := 5) (pc' := 467) (lv' := [.ref 1001, .ref 0, .ref 6, .int i]) (st' := [.int (i + (nI 1)), .ref 1001, .ref 0]) (h' := zHp s t) rfl ?_
  refine zX_il (len := 1) (n := L) (f := xs) (k := 1001) rfl rfl (hz 1 (by decide)) ?_
  refine zX_inv (av := [.ref 0, .int (xs (i + (nI 1)).toNatClampNeg)]) (st := []) (v := some (.int r)) (h' := zHp s' t) rfl rfl rfl rfl rfl rfl (zcall_le (t_X5_instance MM _ _ _ _ h1) (by decide)) ?_
  refine zX_go (c := 5) (pc' := 476) (lv' := [.ref 1001, .ref 0, .ref 6, .int i]) (st' := [.int (i + (nI 1)), .ref 1001, .ref 6, .int r]) (h' := zHp s' t) rfl ?_
  refine zX_il (len := 1) (n := L) (f := xs) (k := 1001) rfl rfl (hz 1 (by decide)) ?_
  refine zX_inv (av := [.ref 6, .int (xs (i + (nI 1)).toNatClampNeg)]) (st := [.int r]) (v := some (.int r)) (h' := zHp s' t') rfl rfl rfl rfl rfl rfl (zcall_le (t_X6_instance MM _ _ _ _ h2) (by decide)) ?_
  refine zX_go (c := 1) (pc' := if r = r then 900 else 483) (lv' := [.ref 1001, .ref 0, .ref 6, .int i]) (st' := []) (h' := zHp s' t') rfl ?_
  rw [if_pos rfl]
  exact hk
set_option maxRecDepth 100000 in
set_option maxHeartbeats 4000000 in
theorem lw_c9 {L N : Nat} {xs : Nat → Int32} (hN : 9000000 ≤ N) {s t : zS} (h : Iv s t) (i : Int32) (hz : ∀ k, k < 5 → zin (i + nI k) L = true) (nx : ∀ s' t', Iv s' t' → zY L xs 900 i [] (zHp s' t')) : zY L xs 485 i [] (zHp s t) := by
  obtain ⟨r, s', t', h1, h2, h3⟩ := o_give (N := N) h ((xs (i + (nI 1)).toNatClampNeg)) ((xs (i + (nI 2)).toNatClampNeg)) ((xs (i + (nI 3)).toNatClampNeg))
  obtain ⟨h', hk⟩ := nx s' t' h3
  generalize N + 3000 = MM at h1 h2
  refine ⟨h', ?_⟩
  refine zX_go (c := 5) (pc' := 490) (lv' := [.ref 1001, .ref 0, .ref 6, .int i]) (st' := [.int (i + (nI 1)), .ref 1001, .ref 0]) (h' := zHp s t) rfl ?_
  refine zX_il (len := 1) (n := L) (f := xs) (k := 1001) rfl rfl (hz 1 (by decide)) ?_
  refine zX_go (c := 4) (pc' := 495) (lv' := [.ref 1001, .ref 0, .ref 6, .int i]) (st' := [.int (i + (nI 2)), .ref 1001, .int (xs (i + (nI 1)).toNatClampNeg), .ref 0]) (h' := zHp s t) rfl ?_
  refine zX_il (len := 1) (n := L) (f := xs) (k := 1001) rfl rfl (hz 2 (by decide)) ?_
  refine zX_go (c := 4) (pc' := 500) (lv' := [.ref 1001, .ref 0, .ref 6, .int i]) (st' := [.int (i + (nI 3)), .ref 1001, .int (xs (i + (nI 2)).toNatClampNeg), .int (xs (i + (nI 1)).toNatClampNeg), .ref 0]) (h' := zHp s t) rfl ?_
  refine zX_il (len := 1) (n := L) (f := xs) (k := 1001) rfl rfl (hz 3 (by decide)) ?_
  refine zX_inv (av := [.ref 0, .int (xs (i + (nI 1)).toNatClampNeg), .int (xs (i + (nI 2)).toNatClampNeg), .int (xs (i + (nI 3)).toNatClampNeg)]) (st := []) (v := some (.int r)) (h' := zHp s' t) rfl rfl rfl rfl rfl rfl (zcall_le (t_X5_give MM _ _ _ _ _ _ h1) (by decide)) ?_
  refine zX_go (c := 5) (pc' := 509) (lv' := [.ref 1001, .ref 0, .ref 6, .int i]) (st' := [.int (i + (nI 1)), .ref 1001, .ref 6, .int r]) (h' := zHp s' t) rfl ?_
  refine zX_il (len := 1) (n := L) (f := xs) (k := 1001) rfl rfl (hz 1 (by decide)) ?_
  refine zX_go (c := 4) (pc' := 514) (lv' := [.ref 1001, .ref 0, .ref 6, .int i]) (st' := [.int (i + (nI 2)), .ref 1001, .int (xs (i + (nI 1)).toNatClampNeg), .ref 6, .int r]) (h' := zHp s' t) rfl ?_
  refine zX_il (len := 1) (n := L) (f := xs) (k := 1001) rfl rfl (hz 2 (by decide)) ?_
  refine zX_go (c := 4) (pc' := 519) (lv' := [.ref 1001, .ref 0, .ref 6, .int i]) (st' := [.int (i + (nI 3)), .ref 1001, .int (xs (i + (nI 2)).toNatClampNeg), .int (xs (i + (nI 1)).toNatClampNeg), .ref 6, .int r]) (h' := zHp s' t) rfl ?_
  refine zX_il (len := 1) (n := L) (f := xs) (k := 1001) rfl rfl (hz 3 (by decide)) ?_
  refine zX_inv (av := [.ref 6, .int (xs (i + (nI 1)).toNatClampNeg), .int (xs (i + (nI 2)).toNatClampNeg), .int (xs (i + (nI 3)).toNatClampNeg)]) (st := [.int r]) (v := some (.int r)) (h' := zHp s' t') rfl rfl rfl rfl rfl rfl (zcall_le (t_X6_give MM _ _ _ _ _ _ h2) (by decide)) ?_
  refine zX_go (c := 1) (pc' := if r = r then 900 else 526) (lv' := [.ref 1001, .ref 0, .ref 6, .int i]) (st' := []) (h' := zHp s' t') rfl ?_
  rw [if_pos rfl]
  exact hk
set_option maxRecDepth 100000 in
set_option maxHeartbeats 4000000 in
theorem lw_c10 {L N : Nat} {xs : Nat → Int32} (hN : 9000000 ≤ N) {s t : zS} (h : Iv s t) (i : Int32) (hz : ∀ k, k < 5 → zin (i + nI k) L = true) (nx : ∀ s' t', Iv s' t' → zY L xs 900 i [] (zHp s' t')) : zY L xs 528 i [] (zHp s t) := by
  obtain ⟨r, s', t', h1, h2, h3⟩ := o_put (N := N) hN h ((xs (i + (nI 1)).toNatClampNeg)) ((xs (i + (nI 2)).toNatClampNeg))
  obtain ⟨h', hk⟩ := nx s' t' h3
  generalize N + 3000 = MM at h1 h2
  refine ⟨h', ?_⟩
  refine zX_go (c := 5) (pc' := 533) (lv' := [.ref 1001, .ref 0, .ref 6, .int i]) (st' := [.int (i + (nI 1)), .ref 1001, .ref 0]) (h' := zHp s t) rfl ?_
  refine zX_il (len := 1) (n := L) (f := xs) (k := 1001) rfl rfl (hz 1 (by decide)) ?_
  refine zX_go (c := 4) (pc' := 538) (lv' := [.ref 1001, .ref 0, .ref 6, .int i]) (st' := [.int (i + (nI 2)), .ref 1001, .int (xs (i + (nI 1)).toNatClampNeg), .ref 0]) (h' := zHp s t) rfl ?_
  refine zX_il (len := 1) (n := L) (f := xs) (k := 1001) rfl rfl (hz 2 (by decide)) ?_
  refine zX_inv (av := [.ref 0, .int (xs (i + (nI 1)).toNatClampNeg), .int (xs (i + (nI 2)).toNatClampNeg)]) (st := []) (v := some (.int r)) (h' := zHp s' t) rfl rfl rfl rfl rfl rfl (zcall_le (t_X5_put MM _ _ _ _ _ h1) (by decide)) ?_
  refine zX_go (c := 5) (pc' := 547) (lv' := [.ref 1001, .ref 0, .ref 6, .int i]) (st' := [.int (i + (nI 1)), .ref 1001, .ref 6, .int r]) (h' := zHp s' t) rfl ?_
  refine zX_il (len := 1) (n := L) (f := xs) (k := 1001) rfl rfl (hz 1 (by decide)) ?_
  refine zX_go (c := 4) (pc' := 552) (lv' := [.ref 1001, .ref 0, .ref 6, .int i]) (st' := [.int (i + (nI 2)), .ref 1001, .int (xs (i + (nI 1)).toNatClampNeg), .ref 6, .int r]) (h' := zHp s' t) rfl ?_
  refine zX_il (len := 1) (n := L) (f := xs) (k := 1001) rfl rfl (hz 2 (by decide)) ?_
  refine zX_inv (av := [.ref 6, .int (xs (i + (nI 1)).toNatClampNeg), .int (xs (i + (nI 2)).toNatClampNeg)]) (st := [.int r]) (v := some (.int r)) (h' := zHp s' t') rfl rfl rfl rfl rfl rfl (zcall_le (t_X6_put MM _ _ _ _ _ h2) (by decide)) ?_
  refine zX_go (c := 1) (pc' := if r = r then 900 else 559) (lv' := [.ref 1001, .ref 0, .ref 6, .int i]) (st' := []) (h' := zHp s' t') rfl ?_
  rw [if_pos rfl]
  exact hk
set_option maxRecDepth 100000 in
set_option maxHeartbeats 4000000 in
theorem lw_c11 {L N : Nat} {xs : Nat → Int32} (hN : 9000000 ≤ N) {s t : zS} (h : Iv s t) (i : Int32) (hz : ∀ k, k < 5 → zin (i + nI k) L = true) (nx : ∀ s' t', Iv s' t' → zY L xs 900 i [] (zHp s' t')) : zY L xs 561 i [] (zHp s t) := by
  obtain ⟨r, h1, h2⟩ := o_cause (M := N + 3000) h 
  obtain ⟨h', hk⟩ := nx s t h
  generalize N + 3000 = MM at h1 h2
  refine ⟨h', ?_⟩
  refine zX_go (c := 1) (pc' := 562) (lv' := [.ref 1001, .ref 0, .ref 6, .int i]) (st' := [.ref 0]) (h' := zHp s t) rfl ?_
  refine zX_inv (av := [.ref 0]) (st := []) (v := some (.int r)) (h' := zHp s t) rfl rfl rfl rfl rfl rfl (zcall_le (t_X5_cause MM _ _ _ h1) (by decide)) ?_
  refine zX_go (c := 1) (pc' := 566) (lv' := [.ref 1001, .ref 0, .ref 6, .int i]) (st' := [.ref 6, .int r]) (h' := zHp s t) rfl ?_
  refine zX_inv (av := [.ref 6]) (st := [.int r]) (v := some (.int r)) (h' := zHp s t) rfl rfl rfl rfl rfl rfl (zcall_le (t_X6_cause MM _ _ _ h2) (by decide)) ?_
  refine zX_go (c := 1) (pc' := if r = r then 900 else 572) (lv' := [.ref 1001, .ref 0, .ref 6, .int i]) (st' := []) (h' := zHp s t) rfl ?_
  rw [if_pos rfl]
  exact hk
set_option maxRecDepth 100000 in
set_option maxHeartbeats 4000000 in
theorem lw_c12 {L N : Nat} {xs : Nat → Int32} (hN : 9000000 ≤ N) {s t : zS} (h : Iv s t) (i : Int32) (hz : ∀ k, k < 5 → zin (i + nI k) L = true) (nx : ∀ s' t', Iv s' t' → zY L xs 900 i [] (zHp s' t')) : zY L xs 574 i [] (zHp s t) := by
  obtain ⟨r, t', h1, h2, h3⟩ := o_told (N := N) hN h ((xs (i + (nI 1)).toNatClampNeg)) ((xs (i + (nI 2)).toNatClampNeg))
  obtain ⟨h', hk⟩ := nx s t' h3
  generalize N + 3000 = MM at h1 h2
  refine ⟨h', ?_⟩
  refine zX_go (c := 5) (pc' := 579) (lv' := [.ref 1001, .ref 0, .ref 6, .int i]) (st' := [.int (i + (nI 1)), .ref 1001, .ref 0]) (h' := zHp s t) rfl ?_
  refine zX_il (len := 1) (n := L) (f := xs) (k := 1001) rfl rfl (hz 1 (by decide)) ?_
  refine zX_go (c := 4) (pc' := 584) (lv' := [.ref 1001, .ref 0, .ref 6, .int i]) (st' := [.int (i + (nI 2)), .ref 1001, .int (xs (i + (nI 1)).toNatClampNeg), .ref 0]) (h' := zHp s t) rfl ?_
  refine zX_il (len := 1) (n := L) (f := xs) (k := 1001) rfl rfl (hz 2 (by decide)) ?_
  refine zX_inv (av := [.ref 0, .int (xs (i + (nI 1)).toNatClampNeg), .int (xs (i + (nI 2)).toNatClampNeg)]) (st := []) (v := some (.int r)) (h' := zHp s t) rfl rfl rfl rfl rfl rfl (zcall_le (t_X5_told MM _ _ _ _ _ h1) (by decide)) ?_
  refine zX_go (c := 5) (pc' := 593) (lv' := [.ref 1001, .ref 0, .ref 6, .int i]) (st' := [.int (i + (nI 1)), .ref 1001, .ref 6, .int r]) (h' := zHp s t) rfl ?_
  refine zX_il (len := 1) (n := L) (f := xs) (k := 1001) rfl rfl (hz 1 (by decide)) ?_
  refine zX_go (c := 4) (pc' := 598) (lv' := [.ref 1001, .ref 0, .ref 6, .int i]) (st' := [.int (i + (nI 2)), .ref 1001, .int (xs (i + (nI 1)).toNatClampNeg), .ref 6, .int r]) (h' := zHp s t) rfl ?_
  refine zX_il (len := 1) (n := L) (f := xs) (k := 1001) rfl rfl (hz 2 (by decide)) ?_
  refine zX_inv (av := [.ref 6, .int (xs (i + (nI 1)).toNatClampNeg), .int (xs (i + (nI 2)).toNatClampNeg)]) (st := [.int r]) (v := some (.int r)) (h' := zHp s t') rfl rfl rfl rfl rfl rfl (zcall_le (t_X6_told MM _ _ _ _ _ h2) (by decide)) ?_
  refine zX_go (c := 1) (pc' := if r = r then 900 else 605) (lv' := [.ref 1001, .ref 0, .ref 6, .int i]) (st' := []) (h' := zHp s t') rfl ?_
  rw [if_pos rfl]
  exact hk
set_option maxRecDepth 100000 in
set_option maxHeartbeats 4000000 in
theorem lw_c13 {L N : Nat} {xs : Nat → Int32} (hN : 9000000 ≤ N) {s t : zS} (h : Iv s t) (i : Int32) (hz : ∀ k, k < 5 → zin (i + nI k) L = true) (nx : ∀ s' t', Iv s' t' → zY L xs 900 i [] (zHp s' t')) : zY L xs 607 i [] (zHp s t) := by
  obtain ⟨r, h1, h2⟩ := o_part (N := N) h ((xs (i + (nI 1)).toNatClampNeg)) ((xs (i + (nI 2)).toNatClampNeg))
  obtain ⟨h', hk⟩ := nx s t h
  generalize N + 3000 = MM at h1 h2
  refine ⟨h', ?_⟩
  refine zX_go (c := 5) (pc' := 612) (lv' := [.ref 1001, .ref 0, .ref 6, .int i]) (st' := [.int (i + (nI 1)), .ref 1001, .ref 0]) (h' := zHp s t) rfl ?_
  refine zX_il (len := 1) (n := L) (f := xs) (k := 1001) rfl rfl (hz 1 (by decide)) ?_
  refine zX_go (c := 4) (pc' := 617) (lv' := [.ref 1001, .ref 0, .ref 6, .int i]) (st' := [.int (i + (nI 2)), .ref 1001, .int (xs (i + (nI 1)).toNatClampNeg), .ref 0]) (h' := zHp s t) rfl ?_
  refine zX_il (len := 1) (n := L) (f := xs) (k := 1001) rfl rfl (hz 2 (by decide)) ?_
  refine zX_inv (av := [.ref 0, .int (xs (i + (nI 1)).toNatClampNeg), .int (xs (i + (nI 2)).toNatClampNeg)]) (st := []) (v := some (.int r)) (h' := zHp s t) rfl rfl rfl rfl rfl rfl (zcall_le (t_X5_part MM _ _ _ _ _ h1) (by decide)) ?_
  refine zX_go (c := 5) (pc' := 626) (lv' := [.ref 1001, .ref 0, .ref 6, .int i]) (st' := [.int (i + (nI 1)), .ref 1001, .ref 6, .int r]) (h' := zHp s t) rfl ?_
  refine zX_il (len := 1) (n := L) (f := xs) (k := 1001) rfl rfl (hz 1 (by decide)) ?_
  refine zX_go (c := 4) (pc' := 631) (lv' := [.ref 1001, .ref 0, .ref 6, .int i]) (st' := [.int (i + (nI 2)), .ref 1001, .int (xs (i + (nI 1)).toNatClampNeg), .ref 6, .int r]) (h' := zHp s t) rfl ?_
  refine zX_il (len := 1) (n := L) (f := xs) (k := 1001) rfl rfl (hz 2 (by decide)) ?_
  refine zX_inv (av := [.ref 6, .int (xs (i + (nI 1)).toNatClampNeg), .int (xs (i + (nI 2)).toNatClampNeg)]) (st := [.int r]) (v := some (.int r)) (h' := zHp s t) rfl rfl rfl rfl rfl rfl (zcall_le (t_X6_part MM _ _ _ _ _ h2) (by decide)) ?_
  refine zX_go (c := 1) (pc' := if r = r then 900 else 638) (lv' := [.ref 1001, .ref 0, .ref 6, .int i]) (st' := []) (h' := zHp s t) rfl ?_
  rw [if_pos rfl]
  exact hk
set_option maxRecDepth 100000 in
set_option maxHeartbeats 4000000 in
theorem lw_c14 {L N : Nat} {xs : Nat → Int32} (hN : 9000000 ≤ N) {s t : zS} (h : Iv s t) (i : Int32) (hz : ∀ k, k < 5 → zin (i + nI k) L = true) (nx : ∀ s' t', Iv s' t' → zY L xs 900 i [] (zHp s' t')) : zY L xs 640 i [] (zHp s t) := by
  obtain ⟨r, t', h1, h2, h3⟩ := o_equal (N := N) hN h ((xs (i + (nI 1)).toNatClampNeg)) ((xs (i + (nI 2)).toNatClampNeg))
  obtain ⟨h', hk⟩ := nx s t' h3
  generalize N + 3000 = MM at h1 h2
  refine ⟨h', ?_⟩
  refine zX_go (c := 5) (pc' := 645) (lv' := [.ref 1001, .ref 0, .ref 6, .int i]) (st' := [.int (i + (nI 1)), .ref 1001, .ref 0]) (h' := zHp s t) rfl ?_
  refine zX_il (len := 1) (n := L) (f := xs) (k := 1001) rfl rfl (hz 1 (by decide)) ?_
  refine zX_go (c := 4) (pc' := 650) (lv' := [.ref 1001, .ref 0, .ref 6, .int i]) (st' := [.int (i + (nI 2)), .ref 1001, .int (xs (i + (nI 1)).toNatClampNeg), .ref 0]) (h' := zHp s t) rfl ?_
  refine zX_il (len := 1) (n := L) (f := xs) (k := 1001) rfl rfl (hz 2 (by decide)) ?_
  refine zX_inv (av := [.ref 0, .int (xs (i + (nI 1)).toNatClampNeg), .int (xs (i + (nI 2)).toNatClampNeg)]) (st := []) (v := some (.int r)) (h' := zHp s t) rfl rfl rfl rfl rfl rfl (zcall_le (t_X5_equal MM _ _ _ _ _ h1) (by decide)) ?_
  refine zX_go (c := 5) (pc' := 659) (lv' := [.ref 1001, .ref 0, .ref 6, .int i]) (st' := [.int (i + (nI 1)), .ref 1001, .ref 6, .int r]) (h' := zHp s t) rfl ?_
  refine zX_il (len := 1) (n := L) (f := xs) (k := 1001) rfl rfl (hz 1 (by decide)) ?_
  refine zX_go (c := 4) (pc' := 664) (lv' := [.ref 1001, .ref 0, .ref 6, .int i]) (st' := [.int (i + (nI 2)), .ref 1001, .int (xs (i + (nI 1)).toNatClampNeg), .ref 6, .int r]) (h' := zHp s t) rfl ?_
  refine zX_il (len := 1) (n := L) (f := xs) (k := 1001) rfl rfl (hz 2 (by decide)) ?_
  refine zX_inv (av := [.ref 6, .int (xs (i + (nI 1)).toNatClampNeg), .int (xs (i + (nI 2)).toNatClampNeg)]) (st := [.int r]) (v := some (.int r)) (h' := zHp s t') rfl rfl rfl rfl rfl rfl (zcall_le (t_X6_equal MM _ _ _ _ _ h2) (by decide)) ?_
  refine zX_go (c := 1) (pc' := if r = r then 900 else 671) (lv' := [.ref 1001, .ref 0, .ref 6, .int i]) (st' := []) (h' := zHp s t') rfl ?_
  rw [if_pos rfl]
  exact hk
set_option maxRecDepth 100000 in
set_option maxHeartbeats 4000000 in
theorem lw_c15 {L N : Nat} {xs : Nat → Int32} (hN : 9000000 ≤ N) {s t : zS} (h : Iv s t) (i : Int32) (hz : ∀ k, k < 5 → zin (i + nI k) L = true) (nx : ∀ s' t', Iv s' t' → zY L xs 900 i [] (zHp s' t')) : zY L xs 673 i [] (zHp s t) := by
  obtain ⟨r, s', t', h1, h2, h3⟩ := o_written (N := N) hN h ((xs (i + (nI 1)).toNatClampNeg))
  obtain ⟨h', hk⟩ := nx s' t' h3
  generalize N + 3000 = MM at h1 h2
  refine ⟨h', ?_⟩
  refine zX_go (c := 5) (pc' := 678) (lv' := [.ref 1001, .ref 0, .ref 6, .int i]) (st' := [.int (i + (nI 1)), .ref 1001, .ref 0]) (h' := zHp s t) rfl ?_
  refine zX_il (len := 1) (n := L) (f := xs) (k := 1001) rfl rfl (hz 1 (by decide)) ?_
  refine zX_inv (av := [.ref 0, .int (xs (i + (nI 1)).toNatClampNeg)]) (st := []) (v := some (.int r)) (h' := zHp s' t) rfl rfl rfl rfl rfl rfl (zcall_le (t_X5_written MM _ _ _ _ h1) (by decide)) ?_
  refine zX_go (c := 5) (pc' := 687) (lv' := [.ref 1001, .ref 0, .ref 6, .int i]) (st' := [.int (i + (nI 1)), .ref 1001, .ref 6, .int r]) (h' := zHp s' t) rfl ?_
  refine zX_il (len := 1) (n := L) (f := xs) (k := 1001) rfl rfl (hz 1 (by decide)) ?_
  refine zX_inv (av := [.ref 6, .int (xs (i + (nI 1)).toNatClampNeg)]) (st := [.int r]) (v := some (.int r)) (h' := zHp s' t') rfl rfl rfl rfl rfl rfl (zcall_le (t_X6_written MM _ _ _ _ h2) (by decide)) ?_
  refine zX_go (c := 1) (pc' := if r = r then 900 else 694) (lv' := [.ref 1001, .ref 0, .ref 6, .int i]) (st' := []) (h' := zHp s' t') rfl ?_
  rw [if_pos rfl]
  exact hk
set_option maxRecDepth 100000 in
set_option maxHeartbeats 4000000 in
theorem lw_c16 {L N : Nat} {xs : Nat → Int32} (hN : 9000000 ≤ N) {s t : zS} (h : Iv s t) (i : Int32) (hz : ∀ k, k < 5 → zin (i + nI k) L = true) (nx : ∀ s' t', Iv s' t' → zY L xs 900 i [] (zHp s' t')) : zY L xs 696 i [] (zHp s t) := by
  obtain ⟨r, h1, h2⟩ := o_letter (M := N + 3000) h ((xs (i + (nI 1)).toNatClampNeg))
  obtain ⟨h', hk⟩ := nx s t h
  generalize N + 3000 = MM at h1 h2
  refine ⟨h', ?_⟩
  refine zX_go (c := 5) (pc' := 701) (lv' := [.ref 1001, .ref 0, .ref 6, .int i]) (st' := [.int (i + (nI 1)), .ref 1001, .ref 0]) (h' := zHp s t) rfl ?_
  refine zX_il (len := 1) (n := L) (f := xs) (k := 1001) rfl rfl (hz 1 (by decide)) ?_
  refine zX_inv (av := [.ref 0, .int (xs (i + (nI 1)).toNatClampNeg)]) (st := []) (v := some (.int r)) (h' := zHp s t) rfl rfl rfl rfl rfl rfl (zcall_le (t_X5_letter MM _ _ _ _ h1) (by decide)) ?_
  refine zX_go (c := 5) (pc' := 710) (lv' := [.ref 1001, .ref 0, .ref 6, .int i]) (st' := [.int (i + (nI 1)), .ref 1001, .ref 6, .int r]) (h' := zHp s t) rfl ?_
  refine zX_il (len := 1) (n := L) (f := xs) (k := 1001) rfl rfl (hz 1 (by decide)) ?_
  refine zX_inv (av := [.ref 6, .int (xs (i + (nI 1)).toNatClampNeg)]) (st := [.int r]) (v := some (.int r)) (h' := zHp s t) rfl rfl rfl rfl rfl rfl (zcall_le (t_X6_letter MM _ _ _ _ h2) (by decide)) ?_
  refine zX_go (c := 1) (pc' := if r = r then 900 else 717) (lv' := [.ref 1001, .ref 0, .ref 6, .int i]) (st' := []) (h' := zHp s t) rfl ?_
  rw [if_pos rfl]
  exact hk
set_option maxRecDepth 100000 in
set_option maxHeartbeats 4000000 in
theorem lw_c17 {L N : Nat} {xs : Nat → Int32} (hN : 9000000 ≤ N) {s t : zS} (h : Iv s t) (i : Int32) (hz : ∀ k, k < 5 → zin (i + nI k) L = true) (nx : ∀ s' t', Iv s' t' → zY L xs 900 i [] (zHp s' t')) : zY L xs 719 i [] (zHp s t) := by
  obtain ⟨r, h1, h2⟩ := o_ask (N := N) h ((xs (i + (nI 1)).toNatClampNeg)) ((xs (i + (nI 2)).toNatClampNeg)) ((if (xs (i + (nI 3)).toNatClampNeg) = 0 then nI 0 else nI 1))
  obtain ⟨h', hk⟩ := nx s t h
  generalize N + 3000 = MM at h1 h2
  refine ⟨h', ?_⟩
  refine zX_go (c := 5) (pc' := 724) (lv' := [.ref 1001, .ref 0, .ref 6, .int i]) (st' := [.int (i + (nI 1)), .ref 1001, .ref 0]) (h' := zHp s t) rfl ?_
  refine zX_il (len := 1) (n := L) (f := xs) (k := 1001) rfl rfl (hz 1 (by decide)) ?_
  refine zX_go (c := 4) (pc' := 729) (lv' := [.ref 1001, .ref 0, .ref 6, .int i]) (st' := [.int (i + (nI 2)), .ref 1001, .int (xs (i + (nI 1)).toNatClampNeg), .ref 0]) (h' := zHp s t) rfl ?_
  refine zX_il (len := 1) (n := L) (f := xs) (k := 1001) rfl rfl (hz 2 (by decide)) ?_
  refine zX_go (c := 4) (pc' := 734) (lv' := [.ref 1001, .ref 0, .ref 6, .int i]) (st' := [.int (i + (nI 3)), .ref 1001, .int (xs (i + (nI 2)).toNatClampNeg), .int (xs (i + (nI 1)).toNatClampNeg), .ref 0]) (h' := zHp s t) rfl ?_
  refine zX_il (len := 1) (n := L) (f := xs) (k := 1001) rfl rfl (hz 3 (by decide)) ?_
  refine zX_go (c := 1) (pc' := if (xs (i + (nI 3)).toNatClampNeg) = 0 then 742 else 738) (lv' := [.ref 1001, .ref 0, .ref 6, .int i]) (st' := [.int (xs (i + (nI 2)).toNatClampNeg), .int (xs (i + (nI 1)).toNatClampNeg), .ref 0]) (h' := zHp s t) rfl ?_
  refine zX_bz (p3 := 743) (b0 := nI 0) (b1 := nI 1) (zX_go (c := 1) (lv' := [.ref 1001, .ref 0, .ref 6, .int i]) (h' := zHp s t) rfl) (zX_go (c := 2) (lv' := [.ref 1001, .ref 0, .ref 6, .int i]) (h' := zHp s t) rfl) ?_
  refine zX_inv (av := [.ref 0, .int (xs (i + (nI 1)).toNatClampNeg), .int (xs (i + (nI 2)).toNatClampNeg), .int (if (xs (i + (nI 3)).toNatClampNeg) = 0 then nI 0 else nI 1)]) (st := []) (v := some (.int r)) (h' := zHp s t) rfl rfl rfl rfl rfl rfl (zcall_le (t_X5_ask MM _ _ _ _ _ _ h1) (by decide)) ?_
  refine zX_go (c := 5) (pc' := 751) (lv' := [.ref 1001, .ref 0, .ref 6, .int i]) (st' := [.int (i + (nI 1)), .ref 1001, .ref 6, .int r]) (h' := zHp s t) rfl ?_
  refine zX_il (len := 1) (n := L) (f := xs) (k := 1001) rfl rfl (hz 1 (by decide)) ?_
  refine zX_go (c := 4) (pc' := 756) (lv' := [.ref 1001, .ref 0, .ref 6, .int i]) (st' := [.int (i + (nI 2)), .ref 1001, .int (xs (i + (nI 1)).toNatClampNeg), .ref 6, .int r]) (h' := zHp s t) rfl ?_
  refine zX_il (len := 1) (n := L) (f := xs) (k := 1001) rfl rfl (hz 2 (by decide)) ?_
  refine zX_go (c := 4) (pc' := 761) (lv' := [.ref 1001, .ref 0, .ref 6, .int i]) (st' := [.int (i + (nI 3)), .ref 1001, .int (xs (i + (nI 2)).toNatClampNeg), .int (xs (i + (nI 1)).toNatClampNeg), .ref 6, .int r]) (h' := zHp s t) rfl ?_
  refine zX_il (len := 1) (n := L) (f := xs) (k := 1001) rfl rfl (hz 3 (by decide)) ?_
  refine zX_go (c := 1) (pc' := if (xs (i + (nI 3)).toNatClampNeg) = 0 then 769 else 765) (lv' := [.ref 1001, .ref 0, .ref 6, .int i]) (st' := [.int (xs (i + (nI 2)).toNatClampNeg), .int (xs (i + (nI 1)).toNatClampNeg), .ref 6, .int r]) (h' := zHp s t) rfl ?_
  refine zX_bz (p3 := 770) (b0 := nI 0) (b1 := nI 1) (zX_go (c := 1) (lv' := [.ref 1001, .ref 0, .ref 6, .int i]) (h' := zHp s t) rfl) (zX_go (c := 2) (lv' := [.ref 1001, .ref 0, .ref 6, .int i]) (h' := zHp s t) rfl) ?_
  refine zX_inv (av := [.ref 6, .int (xs (i + (nI 1)).toNatClampNeg), .int (xs (i + (nI 2)).toNatClampNeg), .int (if (xs (i + (nI 3)).toNatClampNeg) = 0 then nI 0 else nI 1)]) (st := [.int r]) (v := some (.int r)) (h' := zHp s t) rfl rfl rfl rfl rfl rfl (zcall_le (t_X6_ask MM _ _ _ _ _ _ h2) (by decide)) ?_
  refine zX_go (c := 1) (pc' := if r = r then 900 else 776) (lv' := [.ref 1001, .ref 0, .ref 6, .int i]) (st' := []) (h' := zHp s t) rfl ?_
  rw [if_pos rfl]
  exact hk
set_option maxRecDepth 100000 in
set_option maxHeartbeats 4000000 in
theorem lw_c18 {L N : Nat} {xs : Nat → Int32} (hN : 9000000 ≤ N) {s t : zS} (h : Iv s t) (i : Int32) (hz : ∀ k, k < 5 → zin (i + nI k) L = true) (nx : ∀ s' t', Iv s' t' → zY L xs 900 i [] (zHp s' t')) : zY L xs 778 i [] (zHp s t) := by
  obtain ⟨r, h1, h2⟩ := o_all (N := N) h ((xs (i + (nI 1)).toNatClampNeg)) ((xs (i + (nI 2)).toNatClampNeg))
  obtain ⟨h', hk⟩ := nx s t h
  generalize N + 3000 = MM at h1 h2
  refine ⟨h', ?_⟩
  refine zX_go (c := 5) (pc' := 783) (lv' := [.ref 1001, .ref 0, .ref 6, .int i]) (st' := [.int (i + (nI 1)), .ref 1001, .ref 0]) (h' := zHp s t) rfl ?_
  refine zX_il (len := 1) (n := L) (f := xs) (k := 1001) rfl rfl (hz 1 (by decide)) ?_
  refine zX_go (c := 4) (pc' := 788) (lv' := [.ref 1001, .ref 0, .ref 6, .int i]) (st' := [.int (i + (nI 2)), .ref 1001, .int (xs (i + (nI 1)).toNatClampNeg), .ref 0]) (h' := zHp s t) rfl ?_
  refine zX_il (len := 1) (n := L) (f := xs) (k := 1001) rfl rfl (hz 2 (by decide)) ?_
  refine zX_inv (av := [.ref 0, .int (xs (i + (nI 1)).toNatClampNeg), .int (xs (i + (nI 2)).toNatClampNeg)]) (st := []) (v := some (.int r)) (h' := zHp s t) rfl rfl rfl rfl rfl rfl (zcall_le (t_X5_all MM _ _ _ _ _ h1) (by decide)) ?_
  refine zX_go (c := 5) (pc' := 797) (lv' := [.ref 1001, .ref 0, .ref 6, .int i]) (st' := [.int (i + (nI 1)), .ref 1001, .ref 6, .int r]) (h' := zHp s t) rfl ?_
  refine zX_il (len := 1) (n := L) (f := xs) (k := 1001) rfl rfl (hz 1 (by decide)) ?_
  refine zX_go (c := 4) (pc' := 802) (lv' := [.ref 1001, .ref 0, .ref 6, .int i]) (st' := [.int (i + (nI 2)), .ref 1001, .int (xs (i + (nI 1)).toNatClampNeg), .ref 6, .int r]) (h' := zHp s t) rfl ?_
  refine zX_il (len := 1) (n := L) (f := xs) (k := 1001) rfl rfl (hz 2 (by decide)) ?_
  refine zX_inv (av := [.ref 6, .int (xs (i + (nI 1)).toNatClampNeg), .int (xs (i + (nI 2)).toNatClampNeg)]) (st := [.int r]) (v := some (.int r)) (h' := zHp s t) rfl rfl rfl rfl rfl rfl (zcall_le (t_X6_all MM _ _ _ _ _ h2) (by decide)) ?_
  refine zX_go (c := 1) (pc' := if r = r then 900 else 809) (lv' := [.ref 1001, .ref 0, .ref 6, .int i]) (st' := []) (h' := zHp s t) rfl ?_
  rw [if_pos rfl]
  exact hk
set_option maxRecDepth 100000 in
set_option maxHeartbeats 4000000 in
theorem lw_c19 {L N : Nat} {xs : Nat → Int32} (hN : 9000000 ≤ N) {s t : zS} (h : Iv s t) (i : Int32) (hz : ∀ k, k < 5 → zin (i + nI k) L = true) (nx : ∀ s' t', Iv s' t' → zY L xs 900 i [] (zHp s' t')) : zY L xs 811 i [] (zHp s t) := by
  obtain ⟨r, h1, h2⟩ := o_of (N := N) h ((xs (i + (nI 1)).toNatClampNeg)) ((xs (i + (nI 2)).toNatClampNeg)) ((xs (i + (nI 3)).toNatClampNeg))
  obtain ⟨h', hk⟩ := nx s t h
  generalize N + 3000 = MM at h1 h2
  refine ⟨h', ?_⟩
  refine zX_go (c := 5) (pc' := 816) (lv' := [.ref 1001, .ref 0, .ref 6, .int i]) (st' := [.int (i + (nI 1)), .ref 1001, .ref 0]) (h' := zHp s t) rfl ?_
  refine zX_il (len := 1) (n := L) (f := xs) (k := 1001) rfl rfl (hz 1 (by decide)) ?_
  refine zX_go (c := 4) (pc' := 821) (lv' := [.ref 1001, .ref 0, .ref 6, .int i]) (st' := [.int (i + (nI 2)), .ref 1001, .int (xs (i + (nI 1)).toNatClampNeg), .ref 0]) (h' := zHp s t) rfl ?_
  refine zX_il (len := 1) (n := L) (f := xs) (k := 1001) rfl rfl (hz 2 (by decide)) ?_
  refine zX_go (c := 4) (pc' := 826) (lv' := [.ref 1001, .ref 0, .ref 6, .int i]) (st' := [.int (i + (nI 3)), .ref 1001, .int (xs (i + (nI 2)).toNatClampNeg), .int (xs (i + (nI 1)).toNatClampNeg), .ref 0]) (h' := zHp s t) rfl ?_
  refine zX_il (len := 1) (n := L) (f := xs) (k := 1001) rfl rfl (hz 3 (by decide)) ?_
  refine zX_inv (av := [.ref 0, .int (xs (i + (nI 1)).toNatClampNeg), .int (xs (i + (nI 2)).toNatClampNeg), .int (xs (i + (nI 3)).toNatClampNeg)]) (st := []) (v := some (.int r)) (h' := zHp s t) rfl rfl rfl rfl rfl rfl (zcall_le (t_X5_of MM _ _ _ _ _ _ h1) (by decide)) ?_
  refine zX_go (c := 5) (pc' := 835) (lv' := [.ref 1001, .ref 0, .ref 6, .int i]) (st' := [.int (i + (nI 1)), .ref 1001, .ref 6, .int r]) (h' := zHp s t) rfl ?_
  refine zX_il (len := 1) (n := L) (f := xs) (k := 1001) rfl rfl (hz 1 (by decide)) ?_
  refine zX_go (c := 4) (pc' := 840) (lv' := [.ref 1001, .ref 0, .ref 6, .int i]) (st' := [.int (i + (nI 2)), .ref 1001, .int (xs (i + (nI 1)).toNatClampNeg), .ref 6, .int r]) (h' := zHp s t) rfl ?_
  refine zX_il (len := 1) (n := L) (f := xs) (k := 1001) rfl rfl (hz 2 (by decide)) ?_
  refine zX_go (c := 4) (pc' := 845) (lv' := [.ref 1001, .ref 0, .ref 6, .int i]) (st' := [.int (i + (nI 3)), .ref 1001, .int (xs (i + (nI 2)).toNatClampNeg), .int (xs (i + (nI 1)).toNatClampNeg), .ref 6, .int r]) (h' := zHp s t) rfl ?_
  refine zX_il (len := 1) (n := L) (f := xs) (k := 1001) rfl rfl (hz 3 (by decide)) ?_
  refine zX_inv (av := [.ref 6, .int (xs (i + (nI 1)).toNatClampNeg), .int (xs (i + (nI 2)).toNatClampNeg), .int (xs (i + (nI 3)).toNatClampNeg)]) (st := [.int r]) (v := some (.int r)) (h' := zHp s t) rfl rfl rfl rfl rfl rfl (zcall_le (t_X6_of MM _ _ _ _ _ _ h2) (by decide)) ?_
  refine zX_go (c := 1) (pc' := if r = r then 900 else 852) (lv' := [.ref 1001, .ref 0, .ref 6, .int i]) (st' := []) (h' := zHp s t) rfl ?_
  rw [if_pos rfl]
  exact hk
set_option maxRecDepth 100000 in
set_option maxHeartbeats 4000000 in
theorem lw_c20 {L N : Nat} {xs : Nat → Int32} (hN : 9000000 ≤ N) {s t : zS} (h : Iv s t) (i : Int32) (hz : ∀ k, k < 5 → zin (i + nI k) L = true) (nx : ∀ s' t', Iv s' t' → zY L xs 900 i [] (zHp s' t')) : zY L xs 854 i [] (zHp s t) := by
  obtain ⟨r, h1, h2⟩ := o_stands (N := N) h ((xs (i + (nI 1)).toNatClampNeg))
  obtain ⟨h', hk⟩ := nx s t h
  generalize N + 3000 = MM at h1 h2
  refine ⟨h', ?_⟩
  refine zX_go (c := 5) (pc' := 859) (lv' := [.ref 1001, .ref 0, .ref 6, .int i]) (st' := [.int (i + (nI 1)), .ref 1001, .ref 0]) (h' := zHp s t) rfl ?_
  refine zX_il (len := 1) (n := L) (f := xs) (k := 1001) rfl rfl (hz 1 (by decide)) ?_
  refine zX_inv (av := [.ref 0, .int (xs (i + (nI 1)).toNatClampNeg)]) (st := []) (v := some (.int r)) (h' := zHp s t) rfl rfl rfl rfl rfl rfl (zcall_le (t_X5_stands MM _ _ _ _ h1) (by decide)) ?_
  refine zX_go (c := 5) (pc' := 868) (lv' := [.ref 1001, .ref 0, .ref 6, .int i]) (st' := [.int (i + (nI 1)), .ref 1001, .ref 6, .int r]) (h' := zHp s t) rfl ?_
  refine zX_il (len := 1) (n := L) (f := xs) (k := 1001) rfl rfl (hz 1 (by decide)) ?_
  refine zX_inv (av := [.ref 6, .int (xs (i + (nI 1)).toNatClampNeg)]) (st := [.int r]) (v := some (.int r)) (h' := zHp s t) rfl rfl rfl rfl rfl rfl (zcall_le (t_X6_stands MM _ _ _ _ h2) (by decide)) ?_
  refine zX_go (c := 1) (pc' := if r = r then 900 else 875) (lv' := [.ref 1001, .ref 0, .ref 6, .int i]) (st' := []) (h' := zHp s t) rfl ?_
  rw [if_pos rfl]
  exact hk
set_option maxRecDepth 100000 in
set_option maxHeartbeats 4000000 in
theorem lw_c21 {L N : Nat} {xs : Nat → Int32} (hN : 9000000 ≤ N) {s t : zS} (h : Iv s t) (i : Int32) (hz : ∀ k, k < 5 → zin (i + nI k) L = true) (nx : ∀ s' t', Iv s' t' → zY L xs 900 i [] (zHp s' t')) : zY L xs 877 i [] (zHp s t) := by
  obtain ⟨r, h1, h2⟩ := o_count (M := N + 3000) h ((xs (i + (nI 1)).toNatClampNeg))
  obtain ⟨h', hk⟩ := nx s t h
  generalize N + 3000 = MM at h1 h2
  refine ⟨h', ?_⟩
  refine zX_go (c := 5) (pc' := 882) (lv' := [.ref 1001, .ref 0, .ref 6, .int i]) (st' := [.int (i + (nI 1)), .ref 1001, .ref 0]) (h' := zHp s t) rfl ?_
  refine zX_il (len := 1) (n := L) (f := xs) (k := 1001) rfl rfl (hz 1 (by decide)) ?_
  refine zX_inv (av := [.ref 0, .int (xs (i + (nI 1)).toNatClampNeg)]) (st := []) (v := some (.int r)) (h' := zHp s t) rfl rfl rfl rfl rfl rfl (zcall_le (t_X5_count MM _ _ _ _ h1) (by decide)) ?_
  refine zX_go (c := 5) (pc' := 891) (lv' := [.ref 1001, .ref 0, .ref 6, .int i]) (st' := [.int (i + (nI 1)), .ref 1001, .ref 6, .int r]) (h' := zHp s t) rfl ?_
  refine zX_il (len := 1) (n := L) (f := xs) (k := 1001) rfl rfl (hz 1 (by decide)) ?_
  refine zX_inv (av := [.ref 6, .int (xs (i + (nI 1)).toNatClampNeg)]) (st := [.int r]) (v := some (.int r)) (h' := zHp s t) rfl rfl rfl rfl rfl rfl (zcall_le (t_X6_count MM _ _ _ _ h2) (by decide)) ?_
  refine zX_go (c := 1) (pc' := if r = r then 900 else 898) (lv' := [.ref 1001, .ref 0, .ref 6, .int i]) (st' := []) (h' := zHp s t) rfl ?_
  rw [if_pos rfl]
  exact hk
theorem lw_cmp {L k : Nat} (hL : L ≤ 2560) (hk : k ≤ 3000) : (nI L - nI 5 < nI k) ↔ L < k + 5 := by
  rw [Int32.lt_iff_toInt_lt, Int32.toInt_sub, nI_toInt (by omega), nI_toInt (by omega), nI_toInt (by omega), Int.bmod_eq_of_le (by omega) (by omega)]
  omega
set_option maxRecDepth 100000 in
set_option maxHeartbeats 4000000 in
theorem lw_loop {L N : Nat} {xs : Nat → Int32} (hL : L ≤ 2560) (hN : 9000000 ≤ N) : ∀ (c k : Nat) (s t : zS), L ≤ k + 5 * c → k ≤ L → Iv s t → zY L xs 18 (nI k) [] (zHp s t) := by
  have stop : ∀ (k : Nat) (s t : zS), L < k + 5 → k ≤ L → zY L xs 18 (nI k) [] (zHp s t) := by
    intro k s t h1 h2
    refine ⟨zHp s t, ?_⟩
    refine zX_go (c := 6) (pc' := if nI L - nI 5 < nI k then 906 else 26) (lv' := [.ref 1001, .ref 0, .ref 6, .int (nI k)]) (st' := []) (h' := zHp s t) rfl ?_
    rw [if_pos ((lw_cmp hL (by omega)).mpr h1)]
    refine zX_go (c := 1) (pc' := 907) (lv' := [.ref 1001, .ref 0, .ref 6, .int (nI k)]) (st' := [.int (nI 1)]) (h' := zHp s t) rfl ?_
    exact zX_retz rfl (by decide)
  intro c
  induction c with
  | zero =>
    intro k s t h1 h2 _
    exact stop k s t (by omega) h2
  | succ c ih =>
    intro k s t h1 h2 h
    by_cases hc : L < k + 5
    · exact stop k s t hc h2
    have hz : ∀ j, j < 5 → zin (nI k + nI j) L = true := by
      intro j hj
      rw [nI_add]
      exact zin_t (by omega) (by omega)
    have hz0 : zin (nI k) L = true := zin_t (by omega) (by omega)
    have nx : ∀ s' t', Iv s' t' → zY L xs 900 (nI k) [] (zHp s' t') := by
      intro s' t' h'
      obtain ⟨h2', hk⟩ := ih (k + 5) s' t' (by omega) (by omega) h'
      refine ⟨h2', ?_⟩
      refine zX_go (c := 2) (pc' := 18) (lv' := [.ref 1001, .ref 0, .ref 6, .int (nI k + nI 5)]) (st' := []) (h' := zHp s' t') rfl ?_
      rw [nI_add]
      exact hk
    have body : zY L xs (zsw 32 (ztp 0 [104, 163, 232, 275, 308, 341, 374, 397, 430, 453, 496, 529, 542, 575, 608, 641, 664, 687, 746, 779, 822, 845]) 868 (xs k &&& nI 31)) (nI k) [] (zHp s t) := by
      show zY L xs (zsw 32 [(0, 104), (1, 163), (2, 232), (3, 275), (4, 308), (5, 341), (6, 374), (7, 397), (8, 430), (9, 453), (10, 496), (11, 529), (12, 542), (13, 575), (14, 608), (15, 641), (16, 664), (17, 687), (18, 746), (19, 779), (20, 822), (21, 845)] 868 (xs k &&& nI 31)) (nI k) [] (zHp s t)
      refine zY_sw (lw_c0 hN h _ hz nx) ?_
      refine zY_sw (lw_c1 hN h _ hz nx) ?_
      refine zY_sw (lw_c2 hN h _ hz nx) ?_
      refine zY_sw (lw_c3 hN h _ hz nx) ?_
      refine zY_sw (lw_c4 hN h _ hz nx) ?_
      refine zY_sw (lw_c5 hN h _ hz nx) ?_
      refine zY_sw (lw_c6 hN h _ hz nx) ?_
      refine zY_sw (lw_c7 hN h _ hz nx) ?_
      refine zY_sw (lw_c8 hN h _ hz nx) ?_
      refine zY_sw (lw_c9 hN h _ hz nx) ?_
      refine zY_sw (lw_c10 hN h _ hz nx) ?_
      refine zY_sw (lw_c11 hN h _ hz nx) ?_
      refine zY_sw (lw_c12 hN h _ hz nx) ?_
      refine zY_sw (lw_c13 hN h _ hz nx) ?_
      refine zY_sw (lw_c14 hN h _ hz nx) ?_
      refine zY_sw (lw_c15 hN h _ hz nx) ?_
      refine zY_sw (lw_c16 hN h _ hz nx) ?_
      refine zY_sw (lw_c17 hN h _ hz nx) ?_
      refine zY_sw (lw_c18 hN h _ hz nx) ?_
      refine zY_sw (lw_c19 hN h _ hz nx) ?_
      refine zY_sw (lw_c20 hN h _ hz nx) ?_
      refine zY_sw (lw_c21 hN h _ hz nx) ?_
      exact nx s t h
    obtain ⟨h', hk⟩ := body
    refine ⟨h', ?_⟩
    refine zX_go (c := 6) (pc' := if nI L - nI 5 < nI k then 906 else 26) (lv' := [.ref 1001, .ref 0, .ref 6, .int (nI k)]) (st' := []) (h' := zHp s t) rfl ?_
    rw [if_neg (fun z => hc ((lw_cmp hL (by omega)).mp z))]
    refine zX_go (c := 2) (pc' := 28) (lv' := [.ref 1001, .ref 0, .ref 6, .int (nI k)]) (st' := [.int (nI k), .ref 1001]) (h' := zHp s t) rfl ?_
    refine zX_il (len := 1) (n := L) (f := xs) (k := 1001) rfl rfl hz0 ?_
    rw [zcl (n := k) (by omega)]
    refine zX_go (c := 3) (pc' := zsw 32 (ztp 0 [104, 163, 232, 275, 308, 341, 374, 397, 430, 453, 496, 529, 542, 575, 608, 641, 664, 687, 746, 779, 822, 845]) 868 (xs k &&& nI 31)) (lv' := [.ref 1001, .ref 0, .ref 6, .int (nI k)]) (st' := []) (h' := zHp s t) rfl ?_
    exact hk
