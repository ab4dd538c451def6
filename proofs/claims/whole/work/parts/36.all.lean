/-! ALL OF a MARK: all, of. -/
/-- the VALUE of an INSTANCE's ELEMENT -/
theorem c_inn {m v : Nat} {s t : zS} (hF : iF m v (t 6) (t 8) (t 9) (t 16) (t 17) (t 18) (t 19) (t 20)) (hG : iG m v (s 15) (t 6) (t 8) (t 9) (t 10) (t 16) (t 17) (t 18) (t 19) (t 20)) (hm : m ≤ 12) {x j e : Nat} (hx : x < v) (hj : j < m) (q1 : t 16 x = nI 2) (q2 : t 17 x = nI j) (he : e < enn (t 6) j) : inn (t 17) (t 20) (t 10) x e = -1 ∨ ∃ y, y < v ∧ inn (t 17) (t 20) (t 10) x e = nI y ∧ fts (t 16) (t 17) (t 8) (t 9) y (5 * j + e) ∧ fin (t 16) (t 19) y := by
  unfold inn
  rw [q2, zcl (by omega)]
  by_cases c : t 20 (5 * x + e) = -1
  · rw [if_pos c]
    rcases (hG.1 j e hj he).2 with g | ⟨y, y1, y2, y3, y4, y5⟩
    · exact Or.inl g
    · exact Or.inr ⟨y, y1, y2, y3, y4⟩
  · rw [if_neg c]
    obtain ⟨-, q⟩ := hF x hx
    rcases q with ⟨q, -⟩ | ⟨q, -⟩ | ⟨q, j', hj', ej, hc⟩
    · exact absurd q1 (s_ne q (by omega) (by omega) (by omega))
    · exact absurd q1 (s_ne q (by omega) (by omega) (by omega))
    · have : j' = j := nI_inj (by omega) (by omega) (ej.symm.trans q2)
      subst this
      rcases hc e he with g | ⟨y, y1, y2, y3, y4⟩
      · exact Or.inl g
      · exact Or.inr ⟨y, y1, y2, y3, y4⟩
theorem c_row {N m v u : Nat} {s t : zS} (hA : iA m (s 2) (s 3) (s 4) (s 5) (s 6) (s 8) (s 9) (s 12) (s 13) (s 14) (t 0) (t 1) (t 2) (t 3) (t 6) (t 4) (t 5) (t 7) (t 8) (t 9)) (hB : iB m (t 6) (t 7) (t 8) (t 4) (t 5)) (hE : iE v (s 19) (s 20) (s 21) (s 22) (s 23) (s 24) (t 15) (t 16) (t 17) (t 18) (t 19) (t 20)) (hF : iF m v (t 6) (t 8) (t 9) (t 16) (t 17) (t 18) (t 19) (t 20)) (hG : iG m v (s 15) (t 6) (t 8) (t 9) (t 10) (t 16) (t 17) (t 18) (t 19) (t 20)) (hH : iH v u (s 25) (s 26) (s 27) (s 28) (t 16) (t 17) (t 19) (t 32) (t 33) (t 34)) (hL : iL (t 2) (t 4) (t 5) (t 6) (t 7) (t 9)) (q : Int32) {j : Nat} (hj : j < m) (hk : t 2 j = nI 2) : ∃ r, f_X5_containerRowAt (N + 3000) s q (nI j) = some r ∧ f_X6_rowAt (N + 3000) t q (nI j) = some r ∧ (r = -1 ∨ ∃ y, y < v ∧ r = nI y ∧ t 16 y = nI 1) := by
  obtain ⟨a1, a2, a3, a4, a5, a6, a7, a8, a9, -⟩ := id hA
  have hv := hE.1
  have hu := dnc_100 hH.1 hv
  unfold f_X5_containerRowAt f_X6_rowAt
  rw [zin_t (show j < 12 by omega), zcl (n := j) (by omega), zq_t, zq_t, a8 j (by omega)]
  rcases hB.2.2.1 j (by omega) with g | ⟨c, g1, g2⟩
  · rw [g, if_pos rfl, if_pos rfl]
    exact ⟨-1, rfl, rfl, Or.inl rfl⟩
  obtain ⟨l1, l2, e, l3, l4, l5⟩ := hL.2 j c (by omega) (by omega) g2
  have kc : t 2 c = nI 2 := by
    obtain ⟨k, k1, k2⟩ := hL.1 c (by omega)
    rw [k2, hk] at l2
    have : k = 2 := by
      by_cases z : k < 2
      · exact absurd (nI_lt z (by omega)) l2
      · omega
    rw [k2, this]
  rw [g2, if_neg (nI_m1 (by omega)), if_neg (nI_m1 (by omega))]
  obtain ⟨r, r1, -, r3⟩ := c_own (N := N) hA hB hE hH q g1 kc
  have n2 := (c_hm (N := N) hH hv q (nI c)).2
  have hle : cnt u (t 17) (t 33) (t 34) q (nI c) ≤ u := hmc_le _ u
  rw [r1, n2, zbd_s, zbd_s]
  rcases r3 with ⟨z1, x, z2, z3, z4, z5⟩ | ⟨z1, z2⟩
  · obtain ⟨w, w1, w2, w3⟩ := c_nth (N := N) hH hv q (nI c) (nI 0)
    have hw : w = r := by
      unfold f_X5_ownAt at r1
      rw [zin_t (show c < 12 by omega), zcl (n := c) (by omega), zq_t, a5 c (by omega), kc, if_pos rfl, (c_hm (N := N) hH hv q (nI c)).1, z1, zbd_s, if_neg b_10, if_pos rfl, w1, zbd_s] at r1
      exact Option.some.inj r1
    subst hw
    have d2 : f_X3_isSort (N + 3000) s w (nI 2) = some (nI 1) := by
      rcases c_sort (M := N + 3000) hE w (nI 2) with ⟨a, -⟩ | ⟨-, -, b⟩
      · exact a
      · exact absurd z4 (b x z2 z3)
    rw [z1, if_pos rfl, w2, zbd_s, d2, zbd_s, if_neg b_10]
    unfold f_X3_elementByName
    rw [z3, c_mkof hE a1 z2 g1 z4 z5, zbd_s]
    rcases c_pos (N := N) hA hB g1 (nI 0) with ⟨e', he, he5, hn, p1, -, p3⟩ | ⟨hn, -⟩
    · have : e' = e := hB.2.2.2.2.2.1 c e' e g1 he l3 (hn.trans l4.symm)
      subst this
      rw [p1, p3, zbd_s, zbd_s, if_neg (nI_m1 (by omega)), pk_mul, pk_sub (by omega), Nat.add_sub_cancel_left, (c_elm (M := N + 3000) hE hB hG a1 z2 g1 z4 z5 he).1, (c_elm (M := N + 3000) hE hB hG a1 z2 g1 z4 z5 he).2]
      refine ⟨_, rfl, rfl, ?_⟩
      rcases c_inn hF hG a1 z2 g1 z4 z5 he with y | ⟨y, y1, y2, y3, y4⟩
      · exact Or.inl y
      · refine Or.inr ⟨y, y1, y2, ?_⟩
        rcases y3 with ⟨-, y3, -⟩ | ⟨y3, -⟩
        · exact y3
        · exact absurd y3 l5
    · exact absurd l4 (hn e l3)
  · have d2 : f_X3_isSort (N + 3000) s r (nI 2) = some (nI 0) := by
      rcases c_sort (M := N + 3000) hE r (nI 2) with ⟨-, -, y, hy, e, -⟩ | ⟨a, -⟩
      · exact absurd e (z2 y (by omega))
      · exact a
    rw [d2, zbd_s, if_pos b_00, if_neg (fun z => z1 (nI_inj (by omega) (by omega) z))]
    exact ⟨-1, rfl, rfl, Or.inl rfl⟩
theorem c_all {N m v u : Nat} {s t : zS} (hA : iA m (s 2) (s 3) (s 4) (s 5) (s 6) (s 8) (s 9) (s 12) (s 13) (s 14) (t 0) (t 1) (t 2) (t 3) (t 6) (t 4) (t 5) (t 7) (t 8) (t 9)) (hB : iB m (t 6) (t 7) (t 8) (t 4) (t 5)) (hE : iE v (s 19) (s 20) (s 21) (s 22) (s 23) (s 24) (t 15) (t 16) (t 17) (t 18) (t 19) (t 20)) (hF : iF m v (t 6) (t 8) (t 9) (t 16) (t 17) (t 18) (t 19) (t 20)) (hG : iG m v (s 15) (t 6) (t 8) (t 9) (t 10) (t 16) (t 17) (t 18) (t 19) (t 20)) (hH : iH v u (s 25) (s 26) (s 27) (s 28) (t 16) (t 17) (t 19) (t 32) (t 33) (t 34)) (hL : iL (t 2) (t 4) (t 5) (t 6) (t 7) (t 9)) (q : Int32) {j : Nat} (hj : j < m) (hk : t 2 j = nI 2) : ∃ n, n ≤ 100 ∧ f_X5_howManyHere (N + 3000) s q (nI j) = some (nI n) ∧ f_X6_allAt (N + 3000) t q (nI j) = some (nI n) ∧ (0 < cnt u (t 17) (t 33) (t 34) q (nI j) → n = cnt u (t 17) (t 33) (t 34) q (nI j)) ∧
    (cnt u (t 17) (t 33) (t 34) q (nI j) = 0 → (n = 0 ∧ f_X5_containerRowAt (N + 3000) s q (nI j) = some (-1)) ∨ ∃ y, y < v ∧ t 16 y = nI 1 ∧ t 18 y = nI n ∧ f_X5_containerRowAt (N + 3000) s q (nI j) = some (nI y) ∧ f_X6_rowAt (N + 3000) t q (nI j) = some (nI y)) := by
  have hv := hE.1
  have hu := dnc_100 hH.1 hv
  have hle : cnt u (t 17) (t 33) (t 34) q (nI j) ≤ u := hmc_le _ u
  obtain ⟨n1, n2⟩ := c_hm (N := N) hH hv q (nI j)
  unfold f_X5_howManyHere f_X6_allAt
  rw [n1, n2, zbd_s, zbd_s]
  by_cases c0 : cnt u (t 17) (t 33) (t 34) q (nI j) = 0
  · rw [c0, if_neg (show ¬ (0 : Int32) < nI 0 by decide), if_neg (show ¬ (0 : Int32) < nI 0 by decide)]
    obtain ⟨r, r1, r2, r3⟩ := c_row (N := N) hA hB hE hF hG hH hL q hj hk
    rw [r1, r2, zbd_s, zbd_s]
    rcases r3 with rfl | ⟨y, y1, rfl, y3⟩
    · rw [if_pos rfl, if_pos rfl]
      exact ⟨0, by omega, rfl, rfl, fun h => absurd h (by omega), fun _ => Or.inl ⟨rfl, rfl⟩⟩
    · obtain ⟨-, qq⟩ := hF y y1
      rcases qq with ⟨qq, -⟩ | ⟨qq, -, n, hn, en, hc⟩ | ⟨qq, -⟩
      · exact absurd y3 (s_ne qq (by omega) (by omega) (by omega))
      · rw [if_neg (nI_m1 (by omega)), if_neg (nI_m1 (by omega)), zin_t (by omega), zcl (by omega), zq_t, zq_t, hE.2.2.2.2.1 y (by omega), en]
        exact ⟨n, by omega, rfl, rfl, fun h => absurd h (by omega), fun _ => Or.inr ⟨y, y1, y3, en, rfl, rfl⟩⟩
      · exact absurd y3 (s_ne qq (by omega) (by omega) (by omega))
  · have hp : (0 : Int32) < nI (cnt u (t 17) (t 33) (t 34) q (nI j)) := nI_lt (a := 0) (by omega) (by omega)
    rw [if_pos hp, if_pos hp]
    exact ⟨_, by omega, rfl, rfl, fun _ => rfl, fun h => absurd h c0⟩
theorem l_src {N m p v u : Nat} {s t : zS} (hA : iA m (s 2) (s 3) (s 4) (s 5) (s 6) (s 8) (s 9) (s 12) (s 13) (s 14) (t 0) (t 1) (t 2) (t 3) (t 6) (t 4) (t 5) (t 7) (t 8) (t 9)) (hB : iB m (t 6) (t 7) (t 8) (t 4) (t 5)) (hD : iD p (s 16) (s 17) (s 18) (t 12) (t 13) (t 14)) (hE : iE v (s 19) (s 20) (s 21) (s 22) (s 23) (s 24) (t 15) (t 16) (t 17) (t 18) (t 19) (t 20)) (hF : iF m v (t 6) (t 8) (t 9) (t 16) (t 17) (t 18) (t 19) (t 20)) (hG : iG m v (s 15) (t 6) (t 8) (t 9) (t 10) (t 16) (t 17) (t 18) (t 19) (t 20)) (hH : iH v u (s 25) (s 26) (s 27) (s 28) (t 16) (t 17) (t 19) (t 32) (t 33) (t 34)) (hL : iL (t 2) (t 4) (t 5) (t 6) (t 7) (t 9)) {j : Nat} (hj : j < m) (hk : t 2 j = nI 2) : ∀ q, q < p → ∀ k K K', k + q < 40 → q + 1 < K → q < K' → ∃ q' n, q' < p ∧ n ≤ 100 ∧ l_X6_whereAll (N + 3000) K' t (nI j) (nI q) = some (nI q') ∧ f_X6_allAt (N + 3000) t (nI q') (nI j) = some (nI n) ∧ ((n = 0 ∧ l_X5_sourceOfAll (N + 3000) K s (nI j) (nI q) (nI k) = some (-1)) ∨ (0 < n ∧ l_X5_sourceOfAll (N + 3000) K s (nI j) (nI q) (nI k) = some (nI q'))) := by
  have hp := hD.1
  intro q
  induction q using Nat.strongRecOn with
  | _ q ih =>
    intro hq k K K' h1 h2 h3
    obtain ⟨K, rfl⟩ : ∃ K0, K = K0 + 1 := ⟨K - 1, by omega⟩
    obtain ⟨K', rfl⟩ : ∃ K0, K' = K0 + 1 := ⟨K' - 1, by omega⟩
    obtain ⟨n, n0, n1, n2, -, -⟩ := c_all (N := N) hA hB hE hF hG hH hL (nI q) hj hk
    rw [l_X5_sourceOfAll, l_X6_whereAll, if_pos (nI_lt (by omega) (by omega)), if_neg (nI_m1 (by omega)), n1, n2, zbd_s, zbd_s]
    by_cases c : n = 0
    · subst c
      rw [if_pos b_00, if_neg (show ¬ (0 : Int32) < nI 0 by decide)]
      rcases c_up (M := N + 3000) hA hD hq hj with ⟨q', z1, z2, z3, z4⟩ | ⟨z2, z3⟩
      · rw [z2, z3, zbd_s, zbd_s, if_neg b_10, zin_t (show q < 40 by omega), zcl (n := q) (by omega), zq_t, z4, nI_add]
        exact ih q' z1 (by omega) (k + 1) K K' (by omega) (by omega) (by omega)
      · rw [z2, z3, zbd_s, zbd_s, if_pos b_00, nI_add]
        obtain ⟨K, rfl⟩ : ∃ K0, K = K0 + 1 := ⟨K - 1, by omega⟩
        refine ⟨q, 0, hq, by omega, rfl, n2, Or.inl ⟨rfl, ?_⟩⟩
        rw [l_X5_sourceOfAll]
        by_cases c5 : nI (k + 1) < nI 40
        · rw [if_pos c5, if_pos rfl]
        · rw [if_neg c5]
    · have c' : ¬ nI n = 0 := fun z => c (nI_inj (b := 0) (by omega) (by omega) z)
      rw [if_neg c', if_pos (show (0 : Int32) < nI n from nI_lt (a := 0) (by omega) (by omega))]
      exact ⟨q, n, hq, n0, rfl, n2, Or.inr ⟨by omega, rfl⟩⟩
theorem o_all {N : Nat} {s t : zS} (h : Iv s t) (x1 x2 : Int32) : ∃ r, f_X5_all (N + 3000) s x1 x2 = some r ∧ f_X6_all (N + 3000) t x1 x2 = some r := by
  obtain ⟨m, p, v, u, hA, hB, hC, hD, hE, hF, hG, hH, hJ, hK, hL, hM⟩ := h
  have hm := hA.1
  have hp := hD.1
  unfold f_X5_all f_X6_all
  rcases c_plc (M := N + 3000) hD x1 with ⟨a, b, q, hq, rfl⟩ | ⟨a, b, -⟩
  · rw [a, b, zbd_s, zbd_s, if_neg b_10, if_neg b_10]
    rcases c_has (M := N + 3000) hA x2 with ⟨a, b, j, hj, rfl⟩ | ⟨a, b, -⟩
    · rw [a, b, zbd_s, zbd_s, if_neg b_10, if_neg b_10, zin_t (show j < 12 by omega), zcl (n := j) (by omega), zq_t]
      unfold f_X5_sourceOfAll f_X6_whereAll
      rw [zin_t (show j < 12 by omega), zcl (n := j) (by omega), zq_t, hA.2.2.2.2.1 j (by omega)]
      by_cases hk : t 2 j = nI 2
      · rw [if_pos hk, if_pos hk]
        obtain ⟨q', n, w1, w2, w3, w4, w5⟩ := l_src (N := N) hA hB hD hE hF hG hH hL hj hk q hq 0 (N + 3000) (N + 3000) (by omega) (by omega) (by omega)
        rw [w3, zbd_s, w4, zbd_s]
        rcases w5 with ⟨rfl, w6⟩ | ⟨-, w6⟩
        · rw [w6]
          exact ⟨nI 0, rfl, rfl⟩
        · obtain ⟨n', -, n1, n2, -⟩ := c_all (N := N) hA hB hE hF hG hH hL (nI q') hj hk
          have e : nI n' = nI n := Option.some.inj (n2.symm.trans w4)
          rw [w6, zbd_s, if_neg (nI_m1 (by omega)), n1, e]
          exact ⟨nI n, rfl, rfl⟩
      · rw [if_neg hk, if_neg hk]
        exact ⟨nI 0, rfl, rfl⟩
    · rw [a, b]
      exact ⟨-2, rfl, rfl⟩
  · rw [a, b]
    exact ⟨-2, rfl, rfl⟩
theorem o_of {N : Nat} {s t : zS} (h : Iv s t) (x1 x2 x3 : Int32) : ∃ r, f_X5_of (N + 3000) s x1 x2 x3 = some r ∧ f_X6_of (N + 3000) t x1 x2 x3 = some r := by
  obtain ⟨m, p, v, u, hA, hB, hC, hD, hE, hF, hG, hH, hJ, hK, hL, hM⟩ := h
  have hm := hA.1
  have hp := hD.1
  have hv := hE.1
  have hu := dnc_100 hH.1 hv
  unfold f_X5_of f_X6_of
  rcases c_plc (M := N + 3000) hD x1 with ⟨a, b, q, hq, rfl⟩ | ⟨a, b, -⟩
  · rw [a, b, zbd_s, zbd_s, if_neg b_10, if_neg b_10]
    rcases c_has (M := N + 3000) hA x2 with ⟨a, b, j, hj, rfl⟩ | ⟨a, b, -⟩
    · rw [a, b, zbd_s, zbd_s, if_neg b_10, if_neg b_10, zin_t (show j < 12 by omega), zcl (n := j) (by omega), zq_t]
      unfold f_X5_sourceOfAll f_X6_whereAll
      rw [zin_t (show j < 12 by omega), zcl (n := j) (by omega), zq_t, hA.2.2.2.2.1 j (by omega)]
      by_cases hk : t 2 j = nI 2
      · rw [if_pos hk, if_pos hk]
        obtain ⟨q', n, w1, w2, w3, w4, w5⟩ := l_src (N := N) hA hB hD hE hF hG hH hL hj hk q hq 0 (N + 3000) (N + 3000) (by omega) (by omega) (by omega)
        rw [w3, zbd_s, w4]
        rcases w5 with ⟨rfl, w6⟩ | ⟨hn, w6⟩
        · rw [w6, zbd_s, zbd_s, if_pos rfl]
          refine ⟨-1, rfl, ?_⟩
          by_cases c1 : x3 < 0
          · rw [if_pos c1]
          · rw [if_neg c1, if_neg (show ¬ x3 < nI 0 from c1)]
        · obtain ⟨n', n0', n1, n2, n3, n4⟩ := c_all (N := N) hA hB hE hF hG hH hL (nI q') hj hk
          have e : nI n' = nI n := Option.some.inj (n2.symm.trans w4)
          have e' : n' = n := nI_inj (by omega) (by omega) e
          subst e'
          have hle : cnt u (t 17) (t 33) (t 34) (nI q') (nI j) ≤ u := hmc_le _ u
          obtain ⟨m1, m2⟩ := c_hm (N := N) hH hv (nI q') (nI j)
          rw [w6, zbd_s, if_neg (nI_m1 (by omega)), m1, m2, zbd_s, zbd_s]
          by_cases c0 : cnt u (t 17) (t 33) (t 34) (nI q') (nI j) = 0
          · rw [c0, if_neg (show ¬ (0 : Int32) < nI 0 by decide)]
            rcases n4 c0 with ⟨z, -⟩ | ⟨y, y1, y2, y3, y4, y5⟩
            · omega
            · rw [y4, zbd_s]
              unfold f_X3_inRow
              have d1 : f_X3_isSort (N + 3000) s (nI y) (nI 1) = some (nI 1) := by
                rcases c_sort (M := N + 3000) hE (nI y) (nI 1) with ⟨a, -⟩ | ⟨-, -, b⟩
                · exact a
                · exact absurd y2 (b y y1 rfl)
              rw [d1, zbd_s, if_neg b_10, zin_t (show y < 100 by omega), zcl (n := y) (by omega), zq_t, hE.2.2.2.2.1 y (by omega), y3]
              by_cases c1 : x3 < 0
              · rw [if_pos c1, if_pos c1]
                exact ⟨-1, rfl, rfl⟩
              rw [if_neg c1, if_neg c1]
              have hn4 : n' ≤ 4 := by
                obtain ⟨-, qq⟩ := hF y y1
                rcases qq with ⟨qq, -⟩ | ⟨qq, -, k, hk4, ek, -⟩ | ⟨qq, -⟩
                · exact absurd y2 (s_ne qq (by omega) (by omega) (by omega))
                · have : k = n' := nI_inj (by omega) (by omega) (ek.symm.trans y3)
                  omega
                · exact absurd y2 (s_ne qq (by omega) (by omega) (by omega))
              rcases zix x3 n' with ⟨i, hi, rfl⟩ | hx
              · rw [if_pos (nI_lt hi (by omega)), if_pos (nI_lt hi (by omega)), c_prt hE y1 (by omega)]
                simp only [zbd_s]
                rw [if_neg (show ¬ (0 : Int32) < nI 0 by decide), y5, zbd_s, pk_mul, nI_add, zin_t (by omega), zcl (by omega)]
                exact ⟨_, rfl, rfl⟩
              · have c2 := (zix_out (by omega) hx).resolve_left c1
                rw [if_neg c2, if_neg c2]
                exact ⟨-1, rfl, rfl⟩
          · have hpos : (0 : Int32) < nI (cnt u (t 17) (t 33) (t 34) (nI q') (nI j)) := nI_lt (a := 0) (by omega) (by omega)
            have en := n3 (by omega)
            rw [if_pos hpos]
            obtain ⟨r, r1, r2, r3⟩ := c_nth (N := N) hH hv (nI q') (nI j) x3
            rw [r1, r2]
            refine ⟨r, rfl, ?_⟩
            rw [zbd_s, en]
            by_cases c1 : x3 < 0
            · rw [if_pos c1]
              rcases r3 with ⟨z, -⟩ | ⟨x, -, -, -, -, -, n, z1, z2⟩
              · rw [z]
              · rw [z2] at c1
                exact absurd c1 (nI_pos (by omega))
            · rw [if_neg c1]
              by_cases c2 : x3 < nI (cnt u (t 17) (t 33) (t 34) (nI q') (nI j))
              · rw [if_pos c2, zbd_s, if_pos hpos]
              · rw [if_neg c2]
                rcases r3 with ⟨z, -⟩ | ⟨x, -, -, -, -, -, n, z1, z2⟩
                · rw [z]
                · rw [z2] at c2
                  exact absurd (nI_lt z1 (by omega)) c2
      · rw [if_neg hk, if_neg hk]
        exact ⟨-1, rfl, rfl⟩
    · rw [a, b]
      exact ⟨-2, rfl, rfl⟩
  · rw [a, b]
    exact ⟨-2, rfl, rfl⟩
