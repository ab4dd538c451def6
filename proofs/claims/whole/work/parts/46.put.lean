/-! put. -/
theorem dnc_u {dn : Nat → Int32} {x : Nat} (h : dn x = nI 0) : ∀ n, (n ≤ x → dnc (upd dn x (nI 1)) n = dnc dn n) ∧ (x < n → dnc (upd dn x (nI 1)) n = dnc dn n + 1)
  | 0 => ⟨fun _ => rfl, fun h => absurd h (by omega)⟩
  | n + 1 => by
    obtain ⟨i1, i2⟩ := dnc_u h n
    constructor
    · intro hn
      unfold dnc
      rw [i1 (by omega), upd_n _ _ (by omega)]
    · intro hn
      unfold dnc
      by_cases c : x = n
      · subst c
        rw [i1 (by omega), upd_s, if_pos rfl, h, if_neg (by decide)]
      · rw [i2 (by omega), upd_n _ _ (by omega)]
        omega
theorem zeq_upd2 {u : Nat} {f g : Nat → Int32} {x : Int32} (h : zeq u f g) : zeq (u + 1) (upd f u x) (upd g u x) := by
  intro k hk
  by_cases c : k = u
  · rw [c, upd_s, upd_s]
  · rw [upd_n _ _ c, upd_n _ _ c]
    exact h k (by omega)
theorem inv_stand {m p v u : Nat} {s t S T : zS} (h : Inv m p v u s t) {x j : Nat} {q : Int32} (hx : x < v) (hj : j < m) (q1 : t 16 x = nI 2) (q2 : t 17 x = nI j) (x19 : t 19 x = nI 1) (hd : u + 1 ≤ dnc (t 19) v) (h4 : cnt u (t 17) (t 33) (t 34) q (nI j) < 4)
    (hS : S = zup (zup (zup (zup (zup s 11 j (nI 1)) 26 u q) 27 u (nI j)) 28 u (nI x)) 25 0 (nI (u + 1))) (hT : T = zup (zup (zup t 33 u q) 34 u (nI x)) 32 0 (nI (u + 1))) : Inv m p v (u + 1) S T := by
  obtain ⟨hA, hB, hC, hD, hE, hF, hG, hH, hJ, hK, hL, hM⟩ := h
  have a1 := hA.1
  have hv := hE.1
  subst hS hT
  have cx : (nI x).toNatClampNeg = x := zcl (by omega)
  refine ⟨hA, hB, ⟨hC.1, hC.2.1, ?_⟩, hD, hE, hF, hG, ⟨hd, by rw [zup_s, upd_s], by rw [zup_s, upd_s], zeq_upd2 hH.2.2.2.1, zeq_upd2 hH.2.2.2.2.1, ?_⟩, hJ, hK, hL, ?_⟩
  · intro j' hj'
    show (upd (s 11) j (nI 1) j' = nI 1 ∧ ∃ k, k < u + 1 ∧ t 17 (upd (t 34) u (nI x) k).toNatClampNeg = nI j') ∨ (upd (s 11) j (nI 1) j' = nI 0 ∧ ∀ k, k < u + 1 → ¬ t 17 (upd (t 34) u (nI x) k).toNatClampNeg = nI j')
    by_cases c : j' = j
    · left
      rw [c, upd_s]
      exact ⟨rfl, u, by omega, by rw [upd_s, cx]; exact q2⟩
    · rw [upd_n _ _ c]
      rcases hC.2.2 j' hj' with ⟨g1, k, g2, g3⟩ | ⟨g1, g2⟩
      · exact Or.inl ⟨g1, k, by omega, by rw [upd_n _ _ (by omega)]; exact g3⟩
      · refine Or.inr ⟨g1, fun k hk => ?_⟩
        by_cases c2 : k = u
        · rw [c2, upd_s, cx, q2]
          exact fun z => c (nI_inj (by omega) (by omega) z.symm)
        · rw [upd_n _ _ c2]
          exact g2 k (by omega)
  · intro k hk
    show ∃ x', x' < v ∧ upd (t 34) u (nI x) k = nI x' ∧ t 16 x' = nI 2 ∧ upd (s 27) u (nI j) k = t 17 x' ∧ t 19 x' = nI 1
    by_cases c2 : k = u
    · rw [c2, upd_s, upd_s]
      exact ⟨x, hx, rfl, q1, q2.symm, x19⟩
    · rw [upd_n _ _ c2, upd_n _ _ c2]
      exact hH.2.2.2.2.2 k (by omega)
  · intro q' j'
    show hmc (fun k => decide (upd (t 33) u q k = q' ∧ t 17 (upd (t 34) u (nI x) k).toNatClampNeg = j')) (u + 1) ≤ 4
    unfold hmc
    rw [hmc_c (g := fun k => decide (t 33 k = q' ∧ t 17 (t 34 k).toNatClampNeg = j')) u (fun k hk => by rw [upd_n _ _ (by omega), upd_n _ _ (by omega)])]
    have := hM q' j'
    simp only [upd_s, cx, q2]
    by_cases c : q = q' ∧ nI j = j'
    · obtain ⟨c1, c2⟩ := c
      subst c1 c2
      have h4' : hmc (fun k => decide (t 33 k = q ∧ t 17 (t 34 k).toNatClampNeg = nI j)) u < 4 := h4
      split <;> omega
    · rw [if_neg (by simpa using c)]
      omega
theorem c_may {M m p : Nat} {s t : zS} (hA : iA m (s 2) (s 3) (s 4) (s 5) (s 6) (s 8) (s 9) (s 12) (s 13) (s 14) (t 0) (t 1) (t 2) (t 3) (t 6) (t 4) (t 5) (t 7) (t 8) (t 9)) (hD : iD p (s 16) (s 17) (s 18) (t 12) (t 13) (t 14)) {q j : Nat} (hq : q < p) (hj : j < m) : ∃ w, f_X1_fittingTargets M s (nI q) = some w ∧ f_X6_mayStand M t (nI q) (nI j) = some (if (t 1 j) &&& w = 0 then nI 0 else nI 1) := by
  obtain ⟨d1, d2, d3, d4, d5, d6⟩ := hD
  have a1 := hA.1
  obtain ⟨k, hk, ek, -⟩ := d6 q hq
  have e17 : s 17 q = nI k := (d4 q (by omega)).trans ek
  unfold f_X1_fittingTargets f_X6_mayStand
  rw [zin_t (show q < 40 by omega), zcl (n := q) (by omega), e17, ek, zin_t (show k < 6 by omega), zcl (n := k) (by omega), zin_t (show j < 12 by omega), zcl (n := j) (by omega)]
  simp only [zq_t]
  refine ⟨_, rfl, ?_⟩
  rcases (show k = 0 ∨ k = 1 ∨ k = 2 ∨ k = 3 ∨ k = 4 ∨ k = 5 by omega) with rfl | rfl | rfl | rfl | rfl | rfl
  · rw [if_pos (by decide)]
    show (if t 1 j &&& nI 1 = 0 then some (nI 0) else some (nI 1)) = some (if t 1 j &&& nI 1 = 0 then nI 0 else nI 1)
    split <;> rfl
  · rw [if_pos (by decide)]
    show (if t 1 j &&& nI 1 = 0 then some (nI 0) else some (nI 1)) = some (if t 1 j &&& nI 1 = 0 then nI 0 else nI 1)
    split <;> rfl
  · rw [if_neg (by decide), if_pos rfl]
    show (if t 1 j &&& nI 18 = 0 then some (nI 0) else some (nI 1)) = some (if t 1 j &&& nI 18 = 0 then nI 0 else nI 1)
    split <;> rfl
  · rw [if_neg (by decide), if_neg (by decide), if_pos rfl]
    show (if t 1 j &&& nI 20 = 0 then some (nI 0) else some (nI 1)) = some (if t 1 j &&& nI 20 = 0 then nI 0 else nI 1)
    split <;> rfl
  · rw [if_neg (by decide), if_neg (by decide), if_neg (by decide), if_pos rfl]
    show (if t 1 j &&& nI 4 = 0 then some (nI 0) else some (nI 1)) = some (if t 1 j &&& nI 4 = 0 then nI 0 else nI 1)
    split <;> rfl
  · rw [if_neg (by decide), if_neg (by decide), if_neg (by decide), if_neg (by decide)]
    show (if t 1 j &&& nI 24 = 0 then some (nI 0) else some (nI 1)) = some (if t 1 j &&& nI 24 = 0 then nI 0 else nI 1)
    split <;> rfl
theorem o_put {N : Nat} (hN : 9000000 ≤ N) {s t : zS} (h : Iv s t) (x1 x2 : Int32) : ∃ r s' t', f_X5_put (N + 3000) s x1 x2 = some (r, s') ∧ f_X6_put (N + 3000) t x1 x2 = some (r, t') ∧ Iv s' t' := by
  obtain ⟨m, p, v, u, hI⟩ := id h
  obtain ⟨hA, hB, hC, hD, hE, hF, hG, hH, hJ, hK, hL, hM⟩ := id hI
  obtain ⟨a1, a2, a3, a4, a5, a6, a7, a8, a9, a10, a11, a12⟩ := id hA
  obtain ⟨f1, f2, f3, f4, f5, f6, f7, f8, f9, f10⟩ := id hE
  have n1z : ((nI 1 : Int32) = 0) = False := eq_false b_10
  have n0z : ((nI 0 : Int32) = 0) = True := eq_true b_00
  unfold f_X5_put f_X6_put
  rcases (c_plc (M := N + 3000) hD x1).symm with ⟨a, b, -⟩ | ⟨a, b, q, hq, rfl⟩
  · rw [a, b]
    exact ⟨_, _, _, rfl, rfl, h⟩
  rw [a, b, zbd_s, zbd_s, if_neg b_10, if_neg b_10]
  rcases (c_sort (M := N + 3000) hE x2 (nI 2)).symm with ⟨a, b, -⟩ | ⟨a, b, x, hx, rfl, x16⟩
  · rw [a, b]
    exact ⟨_, _, _, rfl, rfl, h⟩
  rw [a, b, zbd_s, zbd_s, if_neg b_10, if_neg b_10]
  obtain ⟨xd, qq⟩ := hF x hx
  obtain ⟨j, hj, x17⟩ : ∃ j, j < m ∧ t 17 x = nI j := by
    rcases qq with ⟨qq, -⟩ | ⟨qq, -⟩ | ⟨qq, j, g1, g2, g3⟩
    · exact absurd x16 (s_ne qq (by omega) (by omega) (by omega))
    · exact absurd x16 (s_ne qq (by omega) (by omega) (by omega))
    · exact ⟨j, g1, g2⟩
  have mk := c_mkof (M := N + 3000) hE a1 hx hj x16 x17
  have zx : zin (nI x) 100 = true := zin_t (by omega)
  have cx : (nI x).toNatClampNeg = x := zcl (by omega)
  have zj : zin (nI j) 12 = true := zin_t (by omega)
  have cj : (nI j).toNatClampNeg = j := zcl (by omega)
  have x23 : s 23 x = t 19 x := f6 x (by omega)
  have hm := fun y : Int32 => (c_hm (N := N) hH f1 (nI q) y).1
  have hs := fun y : Int32 => (c_hm (N := N) hH f1 (nI q) y).2
  obtain ⟨w, w1, w2⟩ := c_may (M := N + 3000) hA hD hq hj
  rcases xd.symm with xd | xd
  · simp only [zx, zq_t, cx, x23, xd, n1z, if_false]
    exact ⟨_, _, _, rfl, rfl, h⟩
  unfold f_X5_brokenRule
  simp only [zx, zq_t, cx, x23, xd, n0z, if_true, x17, hs, w2, zbd_s, mk, zj, cj, w1, a4 j (show j < 12 by omega), a8 j (show j < 12 by omega), a9 j (show j < 12 by omega), hm]
  by_cases cw : t 1 j &&& w = 0
  · simp only [cw, if_true, zbd_s, n1z, n0z, if_false]
    exact ⟨_, _, _, rfl, rfl, h⟩
  simp only [if_neg cw, n1z, if_false]
  rcases (c_whl (M := N + 3000) (by omega) hA hB hE hF hG hx).symm with ⟨-, g1, T, g2, g3⟩ | ⟨-, g1, T, g2, g3⟩
  · simp only [g1, g3, zbd_s, n0z, if_true, eq_false (show ¬ (nI 2 : Int32) = 0 by decide), if_false]
    exact ⟨_, _, _, rfl, rfl, m, p, v, u, inv_pT hI g2⟩
  simp only [g1, g3, zbd_s, n1z, if_false]
  have hT := inv_pT hI g2
  have hIT : Iv s T := ⟨m, p, v, u, hT⟩
  have hsT : ∀ y : Int32, f_X6_standing (N + 3000) T (nI q) y = some (nI (cnt u (t 17) (t 33) (t 34) (nI q) y)) := by
    intro y
    have := (c_hm (N := N) hT.2.2.2.2.2.2.2.1 f1 (nI q) y).2
    rw [g2 17 (by omega), g2 33 (by omega), g2 34 (by omega)] at this
    exact this
  have hu : u < 100 := by
    have h1 := (dnc_u xd v).2 hx
    have h2 := dnc_le (upd (t 19) x (nI 1)) v
    have := hH.1
    omega
  have hT32 : T 32 0 = nI u := by rw [g2 32 (by omega)]; exact hH.2.2.1
  have zu : zin (nI u) 100 = true := zin_t (by omega)
  have cu : (nI u).toNatClampNeg = u := zcl (by omega)
  simp only [hsT, zbd_s, g2 4 (show 4 < 23 ∨ 26 < 4 by omega), g2 5 (show 5 < 23 ∨ 26 < 5 by omega), hT32, zu, cu, zq_t]
  have n3z : ((nI 3 : Int32) = 0) = False := eq_false (by decide)
  have n4z : ((nI 4 : Int32) = 0) = False := eq_false (by decide)
  have n5z : ((nI 5 : Int32) = 0) = False := eq_false (by decide)
  have c100 : ∀ y, cnt u (t 17) (t 33) (t 34) (nI q) y ≤ 4 := fun y => hM (nI q) y
  -- what both do in the end
  have fin2 : ∃ r s' t', (if nI (cnt u (t 17) (t 33) (t 34) (nI q) (nI j)) < nI 4 then zbd (f_X2_add (N + 3000) (zup (zup s 23 x (zbn 1 (nI 1))) 11 j (zbn 1 (nI 1))) (nI q) (nI j) (nI x)) (fun q6 => zbd (f_X2_howMany (N + 3000) q6 (nI q) (nI j)) (fun q7 => some (q7, q6))) else some ((-3), s)) = some (r, s') ∧
      (if nI (cnt u (t 17) (t 33) (t 34) (nI q) (nI j)) = nI 4 then some ((-3), T) else zbd (f_X6_done (N + 3000) (zup (zup (zup T 33 u (nI q)) 34 u (nI x)) 32 0 (nI u + nI 1)) (nI x)) (fun q6 => some (nI (cnt u (t 17) (t 33) (t 34) (nI q) (nI j)) + nI 1, q6))) = some (r, t') ∧ Iv s' t' := by
    have h4 := c100 (nI j)
    by_cases c4 : cnt u (t 17) (t 33) (t 34) (nI q) (nI j) = 4
    · rw [c4, if_neg (by decide), if_pos rfl]
      exact ⟨_, _, _, rfl, rfl, hIT⟩
    · rw [if_pos (nI_lt (by omega) (by omega)), if_neg (fun z => c4 (nI_inj (by omega) (by omega) z)), show zbn 1 (nI 1) = nI 1 by decide]
      have d1 : dn1 (T 16) x = nI 1 := by
        unfold dn1
        rw [g2 16 (by omega), x16, if_neg (by decide)]
      have hd := inv_done hT (y := x) hx (by rw [g2 19 (by omega)]; exact xd) (S := zup s 23 x (nI 1)) (T := zup T 19 x (nI 1)) (fun r _ h2 => by rw [zup_n _ _ _ h2]) (fun r h1 _ _ => by rw [zup_n _ _ _ h1]) (by rw [d1]; rfl) (by rw [d1]; rfl) hT.2.2.2.2.2.2.2.2.1.2
      have hn := inv_stand hd (q := nI q) hx hj (by show T 16 x = _; rw [g2 16 (by omega)]; exact x16) (by show T 17 x = _; rw [g2 17 (by omega)]; exact x17) (by show upd _ _ _ _ = _; rw [upd_s]) (by
        show u + 1 ≤ dnc (upd (T 19) x (nI 1)) v
        rw [g2 19 (by omega), (dnc_u xd v).2 hx]
        have := hH.1
        omega) (by
        show cnt u (T 17) (T 33) (T 34) (nI q) (nI j) < 4
        rw [g2 17 (by omega), g2 33 (by omega), g2 34 (by omega)]
        omega) rfl rfl
      have e25 : (zup (zup s 23 x (nI 1)) 11 j (nI 1)) 25 0 = nI u := hH.2.1
      have ea : f_X2_add (N + 3000) (zup (zup s 23 x (nI 1)) 11 j (nI 1)) (nI q) (nI j) (nI x) = some (zup (zup (zup (zup (zup (zup s 23 x (nI 1)) 11 j (nI 1)) 26 u (nI q)) 27 u (nI j)) 28 u (nI x)) 25 0 (nI (u + 1))) := by
        unfold f_X2_add
        rw [e25, if_pos (nI_lt hu (by omega)), zu, cu, nI_add]
        rfl
      have ed : f_X6_done (N + 3000) (zup (zup (zup T 33 u (nI q)) 34 u (nI x)) 32 0 (nI u + nI 1)) (nI x) = some (zup (zup (zup (zup T 33 u (nI q)) 34 u (nI x)) 32 0 (nI (u + 1))) 19 x (nI 1)) := by
        unfold f_X6_done
        have e16 : (zup (zup (zup T 33 u (nI q)) 34 u (nI x)) 32 0 (nI u + nI 1)) 16 x = nI 2 := by
          show T 16 x = _
          rw [g2 16 (by omega)]
          exact x16
        rw [zx, cx, e16, zq_t, zq_t, zq_t, if_neg (by decide), nI_add, show zbn 1 (nI 1) = nI 1 by decide]
      have eo : zup (zup (zup (zup T 33 u (nI q)) 34 u (nI x)) 32 0 (nI (u + 1))) 19 x (nI 1) = zup (zup (zup (zup T 19 x (nI 1)) 33 u (nI q)) 34 u (nI x)) 32 0 (nI (u + 1)) := by
        funext r i
        unfold zup
        by_cases r19 : r = 19
        · subst r19
          simp
        · simp [r19]
      rw [← eo] at hn
      have e7 := (c_hm (N := N) hn.2.2.2.2.2.2.2.1 f1 (nI q) (nI j)).1
      have ec : cnt (u + 1) ((zup (zup (zup (zup T 33 u (nI q)) 34 u (nI x)) 32 0 (nI (u + 1))) 19 x (nI 1)) 17) ((zup (zup (zup (zup T 33 u (nI q)) 34 u (nI x)) 32 0 (nI (u + 1))) 19 x (nI 1)) 33) ((zup (zup (zup (zup T 33 u (nI q)) 34 u (nI x)) 32 0 (nI (u + 1))) 19 x (nI 1)) 34) (nI q) (nI j) = cnt u (t 17) (t 33) (t 34) (nI q) (nI j) + 1 := by
        show hmc (cnf (T 17) (upd (T 33) u (nI q)) (upd (T 34) u (nI x)) (nI q) (nI j)) (u + 1) = _
        rw [g2 17 (by omega), g2 33 (by omega), g2 34 (by omega), hmc, hmc_c (g := cnf (t 17) (t 33) (t 34) (nI q) (nI j)) u (fun k hk => by unfold cnf; rw [upd_n _ _ (by omega), upd_n _ _ (by omega)]), if_pos (cnf_t (upd_s _ _ _) (by rw [upd_s, cx]; exact x17))]
        rfl
      rw [ec] at e7
      rw [ea, ed, zbd_s, zbd_s, e7, zbd_s, nI_add]
      exact ⟨_, _, _, rfl, rfl, m, p, v, u + 1, hn⟩
  have g0 : ∀ n : Nat, n ≤ 4 → (0 < nI n) = (0 < n) := by
    intro n hn
    rcases (show n = 0 ∨ n = 1 ∨ n = 2 ∨ n = 3 ∨ n = 4 by omega) with rfl | rfl | rfl | rfl | rfl <;> simp <;> decide
  simp only [g0 _ (c100 _)]
  by_cases c4 : t 4 j = -1 <;> by_cases c5 : t 5 j = -1 <;> by_cases k1 : 0 < cnt u (t 17) (t 33) (t 34) (nI q) (nI j) <;> by_cases k2 : 0 < cnt u (t 17) (t 33) (t 34) (nI q) (t 4 j) <;> by_cases k3 : 0 < cnt u (t 17) (t 33) (t 34) (nI q) (t 5 j) <;> (first | simp only [if_pos c4, zbd_s] | simp only [if_neg c4, zbd_s]) <;> (first | simp only [if_pos c5, zbd_s] | simp only [if_neg c5, zbd_s] | skip) <;> (first | simp only [if_pos k1, zbd_s] | simp only [if_neg k1, zbd_s] | skip) <;> (first | simp only [if_pos k2, zbd_s] | simp only [if_neg k2, zbd_s] | skip) <;> (first | simp only [if_pos k3, zbd_s] | simp only [if_neg k3, zbd_s] | skip) <;> simp only [n3z, n4z, n5z, n0z, if_true, if_false] <;> first | exact fin2 | exact ⟨_, _, _, rfl, rfl, hIT⟩
