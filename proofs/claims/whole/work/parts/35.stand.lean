/-! What stands at a PLACE; ask, all, of. -/
def cnf (t17 t33 t34 : Nat → Int32) (q j : Int32) : Nat → Bool := fun k => decide (t33 k = q ∧ t17 (t34 k).toNatClampNeg = j)
def cnt (u : Nat) (t17 t33 t34 : Nat → Int32) (q j : Int32) : Nat := hmc (cnf t17 t33 t34 q j) u
theorem cnf_t {t17 t33 t34 : Nat → Int32} {q j : Int32} {k : Nat} (h1 : t33 k = q) (h2 : t17 (t34 k).toNatClampNeg = j) : cnf t17 t33 t34 q j k = true := by simp [cnf, h1, h2]
theorem cnf_1 {t17 t33 t34 : Nat → Int32} {q j : Int32} {k : Nat} (h1 : ¬ t33 k = q) : ¬ cnf t17 t33 t34 q j k = true := by simp [cnf, h1]
theorem cnf_2 {t17 t33 t34 : Nat → Int32} {q j : Int32} {k : Nat} (h1 : ¬ t17 (t34 k).toNatClampNeg = j) : ¬ cnf t17 t33 t34 q j k = true := by simp [cnf, h1]
theorem lc_hm {M u v : Nat} {s t : zS} (hH : iH v u (s 25) (s 26) (s 27) (s 28) (t 16) (t 17) (t 19) (t 32) (t 33) (t 34)) (hv : v ≤ 100) (q j : Int32) : ∀ d k K, k + d = u → d < K → l_X2_howMany M K s q j (nI (hmc (cnf (t 17) (t 33) (t 34) q j) k)) (nI k) = some (nI (cnt u (t 17) (t 33) (t 34) q j)) := by
  obtain ⟨g1, g2, g3, g4, g5, g6⟩ := hH
  have hu := dnc_100 g1 hv
  intro d
  induction d with
  | zero =>
    intro k K hk hK
    obtain ⟨K, rfl⟩ : ∃ K', K = K' + 1 := ⟨K - 1, by omega⟩
    have : k = u := by omega
    subst this
    rw [l_X2_howMany, g2, if_neg (Int32.lt_irrefl)]
    rfl
  | succ d ih =>
    intro k K hk hK
    obtain ⟨K, rfl⟩ : ∃ K', K = K' + 1 := ⟨K - 1, by omega⟩
    obtain ⟨x, x1, x2, x3, x4, x5⟩ := g6 k (by omega)
    rw [l_X2_howMany, g2, if_pos (nI_lt (by omega) (by omega)), zin_t (by omega), zcl (by omega), zq_t, zq_t, g4 k (by omega), x4]
    have e := ih (k + 1) K (by omega) (by omega)
    rw [hmc] at e
    by_cases c : t 33 k = q
    · rw [if_pos c]
      by_cases c2 : t 17 x = j
      · rw [if_pos c2, nI_add, nI_add]
        rw [if_pos (cnf_t c (by rw [x2, zcl (by omega)]; exact c2))] at e
        exact e
      · rw [if_neg c2, nI_add]
        rw [if_neg (cnf_2 (by rw [x2, zcl (by omega)]; exact c2))] at e
        exact e
    · rw [if_neg c, nI_add]
      rw [if_neg (cnf_1 c)] at e
      exact e
theorem lm_hm {M u v : Nat} {s t : zS} (hH : iH v u (s 25) (s 26) (s 27) (s 28) (t 16) (t 17) (t 19) (t 32) (t 33) (t 34)) (hv : v ≤ 100) (q j : Int32) : ∀ d k K, k + d = u → d < K → l_X6_standing M K t q j (nI (hmc (cnf (t 17) (t 33) (t 34) q j) k)) (nI k) = some (nI (cnt u (t 17) (t 33) (t 34) q j)) := by
  obtain ⟨g1, g2, g3, g4, g5, g6⟩ := hH
  have hu := dnc_100 g1 hv
  intro d
  induction d with
  | zero =>
    intro k K hk hK
    obtain ⟨K, rfl⟩ : ∃ K', K = K' + 1 := ⟨K - 1, by omega⟩
    have : k = u := by omega
    subst this
    rw [l_X6_standing, g3, if_neg (Int32.lt_irrefl)]
    rfl
  | succ d ih =>
    intro k K hk hK
    obtain ⟨K, rfl⟩ : ∃ K', K = K' + 1 := ⟨K - 1, by omega⟩
    obtain ⟨x, x1, x2, x3, x4, x5⟩ := g6 k (by omega)
    rw [l_X6_standing, g3, if_pos (nI_lt (by omega) (by omega)), zin_t (show k < 100 by omega), zcl (n := k) (by omega), zq_t, zq_t, x2, zin_t (show x < 100 by omega), zcl (n := x) (by omega), zq_t]
    have e := ih (k + 1) K (by omega) (by omega)
    rw [hmc] at e
    by_cases c : t 33 k = q
    · rw [if_pos c]
      by_cases c2 : t 17 x = j
      · rw [if_pos c2, nI_add, nI_add]
        rw [if_pos (cnf_t c (by rw [x2, zcl (by omega)]; exact c2))] at e
        exact e
      · rw [if_neg c2, nI_add, nI_add]
        rw [if_neg (cnf_2 (by rw [x2, zcl (by omega)]; exact c2))] at e
        exact e
    · rw [if_neg c, nI_add, nI_add]
      rw [if_neg (cnf_1 c)] at e
      exact e
theorem c_hm {N u v : Nat} {s t : zS} (hH : iH v u (s 25) (s 26) (s 27) (s 28) (t 16) (t 17) (t 19) (t 32) (t 33) (t 34)) (hv : v ≤ 100) (q j : Int32) : f_X2_howMany (N + 3000) s q j = some (nI (cnt u (t 17) (t 33) (t 34) q j)) ∧ f_X6_standing (N + 3000) t q j = some (nI (cnt u (t 17) (t 33) (t 34) q j)) := by
  have hu := dnc_100 hH.1 hv
  exact ⟨lc_hm (M := N + 3000) hH hv q j u 0 (N + 3000) (by omega) (by omega), lm_hm (M := N + 3000) hH hv q j u 0 (N + 3000) (by omega) (by omega)⟩
theorem hmc_mono (f : Nat → Bool) (k : Nat) : ∀ n, k ≤ n → hmc f k ≤ hmc f n
  | 0, h => by
    have : k = 0 := by omega
    subst this
    exact Nat.le_refl _
  | n + 1, h => by
    by_cases e : k = n + 1
    · rw [e]
      exact Nat.le_refl _
    · have := hmc_mono f k n (by omega)
      rw [hmc]
      omega
theorem l_nth {M u v : Nat} {s t : zS} (hH : iH v u (s 25) (s 26) (s 27) (s 28) (t 16) (t 17) (t 19) (t 32) (t 33) (t 34)) (hv : v ≤ 100) (q j i : Int32) : ∀ d k K, k + d = u → d < K → ∃ r, l_X2_nth M K s q j i (nI (hmc (cnf (t 17) (t 33) (t 34) q j) k)) (nI k) = some r ∧ l_X6_stander M K t q j i (nI (hmc (cnf (t 17) (t 33) (t 34) q j) k)) (nI k) = some r ∧
    ((r = -1 ∧ ∀ n, n < 1000 → i = nI n → hmc (cnf (t 17) (t 33) (t 34) q j) k ≤ n → cnt u (t 17) (t 33) (t 34) q j ≤ n) ∨ ∃ x, x < v ∧ r = nI x ∧ t 16 x = nI 2 ∧ t 17 x = j ∧ t 19 x = nI 1 ∧ ∃ n, n < cnt u (t 17) (t 33) (t 34) q j ∧ i = nI n) := by
  obtain ⟨g1, g2, g3, g4, g5, g6⟩ := hH
  have hu := dnc_100 g1 hv
  intro d
  induction d with
  | zero =>
    intro k K hk hK
    obtain ⟨K, rfl⟩ : ∃ K', K = K' + 1 := ⟨K - 1, by omega⟩
    have : k = u := by omega
    subst this
    rw [l_X2_nth, l_X6_stander, g2, g3, if_neg (Int32.lt_irrefl), if_neg (Int32.lt_irrefl)]
    exact ⟨-1, rfl, rfl, Or.inl ⟨rfl, fun n _ _ h => h⟩⟩
  | succ d ih =>
    intro k K hk hK
    obtain ⟨K, rfl⟩ : ∃ K', K = K' + 1 := ⟨K - 1, by omega⟩
    obtain ⟨x, x1, x2, x3, x4, x5⟩ := g6 k (by omega)
    have hle := hmc_le (cnf (t 17) (t 33) (t 34) q j) k
    rw [l_X2_nth, l_X6_stander, g2, g3, if_pos (nI_lt (by omega) (by omega)), if_pos (nI_lt (by omega) (by omega)), zin_t (show k < 100 by omega), zcl (n := k) (by omega), zq_t, zq_t, zq_t, zq_t, zq_t, x2, zin_t (show x < 100 by omega), zcl (n := x) (by omega), zq_t, zq_t, g4 k (by omega), g5 k (by omega), x4, x2]
    have e := ih (k + 1) K (by omega) (by omega)
    rw [hmc] at e
    by_cases c : t 33 k = q
    · rw [if_pos c, if_pos c]
      by_cases c2 : t 17 x = j
      · rw [if_pos c2, if_pos c2]
        rw [if_pos (cnf_t c (by rw [x2, zcl (by omega)]; exact c2))] at e
        by_cases c3 : nI (hmc (cnf (t 17) (t 33) (t 34) q j) k) = i
        · rw [if_pos c3, if_pos c3]
          have hlt : hmc (cnf (t 17) (t 33) (t 34) q j) k < cnt u (t 17) (t 33) (t 34) q j := by
            have h1 := hmc_mono (cnf (t 17) (t 33) (t 34) q j) (k + 1) u (by omega)
            rw [hmc, if_pos (cnf_t c (by rw [x2, zcl (by omega)]; exact c2))] at h1
            unfold cnt
            omega
          exact ⟨nI x, rfl, rfl, Or.inr ⟨x, x1, rfl, x3, c2, x5, _, hlt, c3.symm⟩⟩
        · rw [if_neg c3, if_neg c3, nI_add, nI_add]
          obtain ⟨r, r1, r2, r3⟩ := e
          refine ⟨r, r1, r2, r3.imp (fun z => ⟨z.1, fun n h1 h2 h3 => z.2 n h1 h2 ?_⟩) id⟩
          have : hmc (cnf (t 17) (t 33) (t 34) q j) k ≠ n := fun z2 => c3 (by rw [h2, z2])
          omega
      · rw [if_neg c2, if_neg c2, nI_add]
        rw [if_neg (cnf_2 (by rw [x2, zcl (by omega)]; exact c2))] at e
        exact e
    · rw [if_neg c, if_neg c, nI_add]
      rw [if_neg (cnf_1 c)] at e
      exact e
theorem c_nth {N u v : Nat} {s t : zS} (hH : iH v u (s 25) (s 26) (s 27) (s 28) (t 16) (t 17) (t 19) (t 32) (t 33) (t 34)) (hv : v ≤ 100) (q j i : Int32) : ∃ r, f_X2_nth (N + 3000) s q j i = some r ∧ f_X6_stander (N + 3000) t q j i = some r ∧ ((r = -1 ∧ ∀ n, n < 1000 → i = nI n → cnt u (t 17) (t 33) (t 34) q j ≤ n) ∨ ∃ x, x < v ∧ r = nI x ∧ t 16 x = nI 2 ∧ t 17 x = j ∧ t 19 x = nI 1 ∧ ∃ n, n < cnt u (t 17) (t 33) (t 34) q j ∧ i = nI n) := by
  have hu := dnc_100 hH.1 hv
  obtain ⟨r, r1, r2, r3⟩ := l_nth (M := N + 3000) hH hv q j i u 0 (N + 3000) (by omega) (by omega)
  exact ⟨r, r1, r2, r3.imp (fun z => ⟨z.1, fun n h1 h2 => z.2 n h1 h2 (Nat.zero_le n)⟩) id⟩
theorem neg_ne {n y : Nat} (hn : n ≤ 100) (hy : y < 1000) : (-100 : Int32) - nI n ≠ nI y := by
  intro q
  have h1 : (-100 : Int32) = nI y + nI n := by rw [← q, zsa]
  rw [nI_add] at h1
  have h2 := nI_toInt (n := y + n) (by omega)
  rw [← h1] at h2
  have h3 : (-100 : Int32).toInt = -100 := by decide
  omega
/-- OWN: the answer, and that it is a VALUE only where one stands alone -/
theorem c_own {N m v u : Nat} {s t : zS} (hA : iA m (s 2) (s 3) (s 4) (s 5) (s 6) (s 8) (s 9) (s 12) (s 13) (s 14) (t 0) (t 1) (t 2) (t 3) (t 6) (t 4) (t 5) (t 7) (t 8) (t 9)) (hB : iB m (t 6) (t 7) (t 8) (t 4) (t 5)) (hE : iE v (s 19) (s 20) (s 21) (s 22) (s 23) (s 24) (t 15) (t 16) (t 17) (t 18) (t 19) (t 20)) (hH : iH v u (s 25) (s 26) (s 27) (s 28) (t 16) (t 17) (t 19) (t 32) (t 33) (t 34)) (q : Int32) {j : Nat} (hj : j < m) (hk : t 2 j = nI 2) : ∃ r, f_X5_ownAt (N + 3000) s q (nI j) = some r ∧ f_X6_own (N + 3000) t q (nI j) = some r ∧ ((cnt u (t 17) (t 33) (t 34) q (nI j) = 1 ∧ ∃ x, x < v ∧ r = nI x ∧ t 16 x = nI 2 ∧ t 17 x = nI j) ∨ (cnt u (t 17) (t 33) (t 34) q (nI j) ≠ 1 ∧ ∀ y, y < 1000 → r ≠ nI y)) := by
  obtain ⟨a1, a2, a3, a4, a5, a6, a7, a8, a9, -⟩ := id hA
  have hv := hE.1
  have hu := dnc_100 hH.1 hv
  have hle : cnt u (t 17) (t 33) (t 34) q (nI j) ≤ u := hmc_le _ u
  obtain ⟨n1, n2⟩ := c_hm (N := N) hH hv q (nI j)
  have m1 : ∀ y, y < 1000 → (-1 : Int32) ≠ nI y := fun y hy z => nI_m1 (a := y) (by omega) z.symm
  unfold f_X5_ownAt f_X6_own
  rw [zin_t (show j < 12 by omega), zcl (n := j) (by omega), zq_t, zq_t, a5 j (by omega), hk, if_pos rfl, n1, n2, zbd_s, zbd_s]
  generalize hc : cnt u (t 17) (t 33) (t 34) q (nI j) = c at hle
  by_cases c0 : c = 0
  · subst c0
    rw [if_pos b_00, if_neg (show ¬ (nI 0 : Int32) = nI 1 by decide), zq_t, if_neg (show ¬ (0 : Int32) < nI 0 by decide), a9 j (by omega)]
    unfold f_X5_gatheredAt
    rcases hB.2.2.2.1 j (by omega) with g | ⟨d, g1, g2⟩
    · rw [g, if_pos rfl, if_pos rfl]
      exact ⟨-1, rfl, rfl, Or.inr ⟨by omega, m1⟩⟩
    · rw [g2, if_neg (nI_m1 (by omega)), if_neg (nI_m1 (by omega)), zin_t (show d < 12 by omega), zcl (n := d) (by omega), zq_t, zq_t, a5 d (by omega)]
      by_cases kd : t 2 d = nI 2
      · rw [if_pos kd, if_pos kd, (c_hm (N := N) hH hv q (nI d)).1, (c_hm (N := N) hH hv q (nI d)).2, zbd_s]
        have hd : cnt u (t 17) (t 33) (t 34) q (nI d) ≤ u := hmc_le _ u
        by_cases k1 : nI 1 < nI (cnt u (t 17) (t 33) (t 34) q (nI d))
        · rw [if_pos k1]
          exact ⟨_, rfl, rfl, Or.inr ⟨by omega, fun y hy => neg_ne (by omega) hy⟩⟩
        · rw [if_neg k1]
          exact ⟨-1, rfl, rfl, Or.inr ⟨by omega, m1⟩⟩
      · rw [if_neg kd, if_neg kd]
        exact ⟨-1, rfl, rfl, Or.inr ⟨by omega, m1⟩⟩
  by_cases c1 : c = 1
  · subst c1
    rw [if_neg b_10, if_pos rfl, if_pos rfl]
    obtain ⟨r, r1, r2, r3⟩ := c_nth (N := N) hH hv q (nI j) (nI 0)
    rw [r1, r2]
    rcases r3 with ⟨-, z⟩ | ⟨x, z1, z2, z3, z4, z5⟩
    · have := z 0 (by omega) rfl
      omega
    · exact ⟨r, rfl, rfl, Or.inl ⟨rfl, x, z1, z2, z3, z4⟩⟩
  · have d0 : ¬ nI c = 0 := fun z => c0 (nI_inj (b := 0) (by omega) (by omega) z)
    have d1 : ¬ nI c = nI 1 := fun z => c1 (nI_inj (by omega) (by omega) z)
    rw [if_neg d0, if_neg d1, if_neg d1, zq_t, if_pos (show (0 : Int32) < nI c from nI_lt (a := 0) (by omega) (by omega))]
    exact ⟨-1, rfl, rfl, Or.inr ⟨c1, m1⟩⟩
theorem c_up {M m p : Nat} {s t : zS} (hA : iA m (s 2) (s 3) (s 4) (s 5) (s 6) (s 8) (s 9) (s 12) (s 13) (s 14) (t 0) (t 1) (t 2) (t 3) (t 6) (t 4) (t 5) (t 7) (t 8) (t 9)) (hD : iD p (s 16) (s 17) (s 18) (t 12) (t 13) (t 14)) {q j : Nat} (hq : q < p) (hj : j < m) : (∃ q', q' < q ∧ f_X5_inheritsFrom M s (nI q) (nI j) = some (nI q') ∧ f_X6_goesUp M t (nI q) (nI j) = some (nI 1) ∧ t 14 q = nI q') ∨ (f_X5_inheritsFrom M s (nI q) (nI j) = some (-1) ∧ f_X6_goesUp M t (nI q) (nI j) = some (nI 0)) := by
  obtain ⟨a1, a2, a3, a4, a5, a6, -⟩ := id hA
  obtain ⟨d1, d2, d3, d4, d5, d6⟩ := id hD
  unfold f_X5_inheritsFrom f_X6_goesUp f_X1_parentOf
  rw [zin_t (show j < 12 by omega), zcl (n := j) (by omega), zq_t, zq_t, a6 j (by omega), zin_t (show q < 40 by omega), zcl (n := q) (by omega), zq_t, zq_t, zq_t, d5 q (by omega)]
  by_cases c : t 3 j = 0
  · rw [if_pos c, if_pos c]
    exact Or.inr ⟨rfl, rfl⟩
  rw [if_neg c, if_neg c]
  obtain ⟨k, hk, e, hc⟩ := d6 q hq
  rcases c_cls (M := M) hD (nI q) with ⟨a, -, q2, h2, e2, e3⟩ | ⟨a, b⟩
  · have : q = q2 := nI_inj (by omega) (by omega) e2
    subst this
    have e4 : t 13 q = 0 := e3
    rw [a, zbd_s, if_neg b_10, if_pos e4]
    have k0 : k = 0 := nI_inj (by omega) (by omega) (e.symm.trans e3)
    rcases hc k0 with z | ⟨q', z1, z2, z3⟩
    · rw [z, if_pos rfl]
      exact Or.inr ⟨rfl, rfl⟩
    · rw [z2, if_neg (nI_m1 (by omega))]
      exact Or.inl ⟨q', z1, rfl, rfl, rfl⟩
  · have e4 : ¬ t 13 q = 0 := by
      intro z
      unfold f_X6_isAmong at b
      rcases c_plc (M := M) hD (nI q) with ⟨-, b', -⟩ | ⟨-, -, b'⟩
      · rw [b', zbd_s, if_neg b_10, zin_t (show q < 40 by omega), zcl (n := q) (by omega), zq_t, zq_t, z] at b
        revert b
        decide
      · exact b' q hq rfl
    rw [a, zbd_s, if_pos b_00, if_neg e4]
    exact Or.inr ⟨rfl, rfl⟩
theorem l_fnd {N m p v u : Nat} {s t : zS} (hA : iA m (s 2) (s 3) (s 4) (s 5) (s 6) (s 8) (s 9) (s 12) (s 13) (s 14) (t 0) (t 1) (t 2) (t 3) (t 6) (t 4) (t 5) (t 7) (t 8) (t 9)) (hB : iB m (t 6) (t 7) (t 8) (t 4) (t 5)) (hD : iD p (s 16) (s 17) (s 18) (t 12) (t 13) (t 14)) (hE : iE v (s 19) (s 20) (s 21) (s 22) (s 23) (s 24) (t 15) (t 16) (t 17) (t 18) (t 19) (t 20)) (hH : iH v u (s 25) (s 26) (s 27) (s 28) (t 16) (t 17) (t 19) (t 32) (t 33) (t 34)) {j : Nat} (hj : j < m) (hk : t 2 j = nI 2) (y : Int32) (hy : ¬ y = 0) : ∀ q, q < p → ∀ k K K', k + q < 40 → q + 1 < K → q < K' → ∃ r, l_X5_foundAt (N + 3000) K s (nI j) (nI q) (nI k) = some r ∧ ∀ o, f_X6_own (N + 3000) t (nI q) (nI j) = some o → l_X6_ask (N + 3000) K' t (nI j) y (nI q) o = some r := by
  have hp := hD.1
  intro q
  induction q using Nat.strongRecOn with
  | _ q ih =>
    intro hq k K K' h1 h2 h3
    obtain ⟨K, rfl⟩ : ∃ K0, K = K0 + 1 := ⟨K - 1, by omega⟩
    obtain ⟨K', rfl⟩ : ∃ K0, K' = K0 + 1 := ⟨K' - 1, by omega⟩
    obtain ⟨r, r1, r2, -⟩ := c_own (N := N) hA hB hE hH (nI q) hj hk
    rw [l_X5_foundAt, if_pos (nI_lt (by omega) (by omega)), if_neg (nI_m1 (by omega)), r1, zbd_s]
    by_cases c : r = -1
    · rw [if_pos c]
      rcases c_up (M := N + 3000) hA hD hq hj with ⟨q', z1, z2, z3, z4⟩ | ⟨z2, z3⟩
      · rw [z2, zbd_s, nI_add]
        obtain ⟨w, w1, w2⟩ := ih q' z1 (by omega) (k + 1) K K' (by omega) (by omega) (by omega)
        refine ⟨w, w1, fun o ho => ?_⟩
        have : o = r := Option.some.inj (ho.symm.trans r2)
        subst this
        rw [l_X6_ask, if_neg hy, if_pos c, z3, zbd_s, if_neg b_10, zin_t (show q < 40 by omega), zcl (n := q) (by omega), zq_t, z4]
        obtain ⟨o', -, o2, -⟩ := c_own (N := N) hA hB hE hH (nI q') hj hk
        rw [o2, zbd_s]
        exact w2 o' o2
      · rw [z2, zbd_s, nI_add]
        obtain ⟨K, rfl⟩ : ∃ K0, K = K0 + 1 := ⟨K - 1, by omega⟩
        refine ⟨-1, ?_, fun o ho => ?_⟩
        · rw [l_X5_foundAt]
          by_cases c5 : nI (k + 1) < nI 40
          · rw [if_pos c5, if_pos rfl]
          · rw [if_neg c5]
        · have : o = r := Option.some.inj (ho.symm.trans r2)
          subst this
          rw [l_X6_ask, if_neg hy, if_pos c, z3, zbd_s, if_pos b_00, c]
    · rw [if_neg c]
      refine ⟨r, rfl, fun o ho => ?_⟩
      have : o = r := Option.some.inj (ho.symm.trans r2)
      subst this
      rw [l_X6_ask, if_neg hy, if_neg c]
theorem l_fn0 {N m p : Nat} {s t : zS} (hA : iA m (s 2) (s 3) (s 4) (s 5) (s 6) (s 8) (s 9) (s 12) (s 13) (s 14) (t 0) (t 1) (t 2) (t 3) (t 6) (t 4) (t 5) (t 7) (t 8) (t 9)) (hD : iD p (s 16) (s 17) (s 18) (t 12) (t 13) (t 14)) {j : Nat} (hj : j < m) (hk : ¬ t 2 j = nI 2) : ∀ q, q < p → ∀ k K, k + q < 40 → q + 1 < K → l_X5_foundAt (N + 3000) K s (nI j) (nI q) (nI k) = some (-1) := by
  have hp := hD.1
  obtain ⟨a1, a2, a3, a4, a5, a6, -⟩ := id hA
  intro q
  induction q using Nat.strongRecOn with
  | _ q ih =>
    intro hq k K h1 h2
    obtain ⟨K, rfl⟩ : ∃ K0, K = K0 + 1 := ⟨K - 1, by omega⟩
    have ho : f_X5_ownAt (N + 3000) s (nI q) (nI j) = some (-1) := by
      unfold f_X5_ownAt
      rw [zin_t (show j < 12 by omega), zcl (n := j) (by omega), zq_t, a5 j (by omega), if_neg hk]
    rw [l_X5_foundAt, if_pos (nI_lt (by omega) (by omega)), if_neg (nI_m1 (by omega)), ho, zbd_s, if_pos rfl]
    rcases c_up (M := N + 3000) hA hD hq hj with ⟨q', z1, z2, z3, z4⟩ | ⟨z2, z3⟩
    · rw [z2, zbd_s, nI_add]
      exact ih q' z1 (by omega) (k + 1) K (by omega) (by omega)
    · rw [z2, zbd_s, nI_add]
      obtain ⟨K, rfl⟩ : ∃ K0, K = K0 + 1 := ⟨K - 1, by omega⟩
      rw [l_X5_foundAt]
      by_cases c5 : nI (k + 1) < nI 40
      · rw [if_pos c5, if_pos rfl]
      · rw [if_neg c5]
theorem o_ask {N : Nat} {s t : zS} (h : Iv s t) (x1 x2 x3 : Int32) : ∃ r, f_X5_ask (N + 3000) s x1 x2 x3 = some r ∧ f_X6_ask (N + 3000) t x1 x2 x3 = some r := by
  obtain ⟨m, p, v, u, hA, hB, hC, hD, hE, hF, hG, hH, hJ, hK⟩ := h
  have hm := hA.1
  have hp := hD.1
  unfold f_X5_ask f_X6_ask
  rcases c_plc (M := N + 3000) hD x1 with ⟨a, b, q, hq, rfl⟩ | ⟨a, b, -⟩
  · rw [a, b, zbd_s, zbd_s, if_neg b_10, if_neg b_10]
    rcases c_has (M := N + 3000) hA x2 with ⟨a, b, j, hj, rfl⟩ | ⟨a, b, -⟩
    · rw [a, b, zbd_s, zbd_s, if_neg b_10, if_neg b_10, zin_t (show j < 12 by omega), zcl (n := j) (by omega), zq_t]
      by_cases hk : t 2 j = nI 2
      · rw [if_pos hk]
        by_cases c3 : x3 = 0
        · rw [if_pos c3]
          obtain ⟨r, r1, r2, -⟩ := c_own (N := N) hA hB hE hH (nI q) hj hk
          rw [r1, r2, zbd_s, zbd_s]
          refine ⟨r, rfl, ?_⟩
          show l_X6_ask (N + 3000) (N + 2999 + 1) t (nI j) x3 (nI q) r = some r
          rw [l_X6_ask, if_pos c3]
        · rw [if_neg c3]
          obtain ⟨o, -, o2, -⟩ := c_own (N := N) hA hB hE hH (nI q) hj hk
          obtain ⟨r, r1, r2⟩ := l_fnd (N := N) hA hB hD hE hH hj hk x3 c3 q hq 0 (N + 3000) (N + 3000) (by omega) (by omega) (by omega)
          unfold f_X5_foundAt
          rw [r1, o2, zbd_s, zbd_s]
          exact ⟨r, rfl, r2 o o2⟩
      · rw [if_neg hk]
        by_cases c3 : x3 = 0
        · rw [if_pos c3]
          unfold f_X5_ownAt
          rw [zin_t (show j < 12 by omega), zcl (n := j) (by omega), zq_t, hA.2.2.2.2.1 j (by omega), if_neg hk]
          exact ⟨-1, rfl, rfl⟩
        · rw [if_neg c3]
          unfold f_X5_foundAt
          rw [l_fn0 (N := N) hA hD hj hk q hq 0 (N + 3000) (by omega) (by omega)]
          exact ⟨-1, rfl, rfl⟩
    · rw [a, b]
      exact ⟨-2, rfl, rfl⟩
  · rw [a, b]
    exact ⟨-2, rfl, rfl⟩
