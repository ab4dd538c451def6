/-! told; what an ELEMENT takes. -/
theorem o_told {N : Nat} (hN : 9000000 ≤ N) {s t : zS} (h : Iv s t) (x1 x2 : Int32) : ∃ r t', f_X5_told (N + 3000) s x1 x2 = some r ∧ f_X6_told (N + 3000) t x1 x2 = some (r, t') ∧ Iv s t' := by
  obtain ⟨m, p, v, u, hI⟩ := id h
  obtain ⟨hA, hB, hC, hD, hE, hF, hG, hH, hJ, hK⟩ := id hI
  obtain ⟨f1, f2, f3, f4, f5, f6, f7, f8, f9, f10⟩ := id hE
  unfold f_X5_told f_X6_told
  rcases (c_val (M := N + 3000) hE x1).symm with ⟨a, b, -⟩ | ⟨a, b, x, hx, rfl⟩
  · rw [a, b, zbd_s, zbd_s, if_pos b_00, if_pos b_00]
    exact ⟨_, _, rfl, rfl, h⟩
  rw [a, b, zbd_s, zbd_s, if_neg b_10, if_neg b_10, zin_t (show x < 100 by omega), zcl (n := x) (by omega)]
  simp only [zq_t]
  by_cases c0 : x2 = nI 0
  · rw [if_pos c0, if_pos c0, f4 x (by omega)]
    exact ⟨_, _, rfl, rfl, h⟩
  rw [if_neg c0, if_neg c0]
  by_cases c1 : x2 = nI 1
  · rw [if_pos c1, if_pos c1, f9 x hx]
    by_cases c : t 16 x = nI 2
    · rw [if_pos c, if_pos c]
      exact ⟨_, _, rfl, rfl, h⟩
    · rw [if_neg c, if_neg c]
      exact ⟨_, _, rfl, rfl, h⟩
  rw [if_neg c1, if_neg c1]
  by_cases c2 : x2 = nI 2
  · rw [if_pos c2, if_pos c2, f5 x (by omega)]
    exact ⟨_, _, rfl, rfl, h⟩
  rw [if_neg c2, if_neg c2]
  by_cases c3 : x2 = nI 3
  · rw [if_pos c3, if_pos c3, f6 x (by omega)]
    unfold f_X5_asNumber
    by_cases c : t 19 x = 0
    · rw [if_pos c, if_pos c, zbd_s]
      exact ⟨_, _, rfl, rfl, h⟩
    · rw [if_neg c, if_neg c, zbd_s]
      exact ⟨_, _, rfl, rfl, h⟩
  rw [if_neg c3, if_neg c3]
  by_cases c4 : x2 = nI 4
  · rw [if_pos c4, if_pos c4]
    unfold f_X5_asNumber
    rcases c_whl (M := N + 3000) (by omega) hA hB hE hF hG hx with ⟨-, g1, T, g2, g3⟩ | ⟨-, g1, T, g2, g3⟩
    · rw [g1, g3, zbd_s, zbd_s, if_neg b_10, zbd_s]
      exact ⟨_, _, rfl, if_neg b_10, m, p, v, u, inv_pT hI g2⟩
    · rw [g1, g3, zbd_s, zbd_s, if_pos b_00, zbd_s]
      exact ⟨_, _, rfl, if_pos b_00, m, p, v, u, inv_pT hI g2⟩
  rw [if_neg c4, if_neg c4]
  exact ⟨_, _, rfl, rfl, h⟩
/-- something becomes DONE -/
theorem inv_done {m p v u : Nat} {s t S T : zS} (h : Inv m p v u s t) {y : Nat} (hy : y < v) (y19 : t 19 y = nI 0)
    (hS : ∀ r, r ≠ 1 → r ≠ 23 → S r = s r) (hT : ∀ r, r ≠ 19 → r ≠ 21 → r < 23 ∨ 26 < r → T r = t r) (s23 : S 23 = upd (s 23) y (dn1 (t 16) y)) (t19 : T 19 = upd (t 19) y (dn1 (t 16) y)) (hj : S 1 0 = T 21 0) : Inv m p v u S T := by
  obtain ⟨hA, hB, hC, hD, hE, hF, hG, hH, hJ, -⟩ := id h
  obtain ⟨f1, f2, f3, f4, f5, f6, f7, f8, f9, f10⟩ := id hE
  have kf : ∀ z, fin (t 16) (t 19) z → fin (t 16) (T 19) z := by
    intro z hz
    rw [t19]
    by_cases c : z = y
    · rw [c]
      exact dn1_fin
    · unfold fin at hz ⊢
      rw [upd_n _ _ c]
      exact hz
  have e22 : S 22 = s 22 := hS 22 (by omega) (by omega)
  have e24 : S 24 = s 24 := hS 24 (by omega) (by omega)
  have e18 : T 18 = t 18 := hT 18 (by omega) (by omega) (by omega)
  have e20 : T 20 = t 20 := hT 20 (by omega) (by omega) (by omega)
  refine inv_chg h (fun r _ h1 _ h3 _ => hS r h1 h3) (fun r _ h1 _ h3 _ h5 => hT r h1 h3 h5) (by rw [e22, e18]; exact f5) (by rw [s23, t19]; exact zeq_upd f6 _ _) (by rw [e24, e20]; exact f7) (by rw [e24]; exact f8) ?_ ⟨?_, hj⟩ ?_ (fun x _ _ => by rw [e18, e20]; exact ⟨rfl, fun _ _ => rfl⟩) ?_
  · intro j h1 h2
    rw [s23, upd_n _ _ (by omega)]
    exact f10 j h1 h2
  · rw [hS 0 (by omega) (by omega), hT 22 (by omega) (by omega) (by omega)]
    exact hJ.1
  · rw [e18, e20]
    intro x hx
    obtain ⟨q0, q⟩ := hF x hx
    refine ⟨?_, ?_⟩
    · rw [t19]
      by_cases c : x = y
      · rw [c, upd_s]
        unfold dn1
        by_cases c2 : t 16 y = nI 0
        · exact Or.inl (if_pos c2)
        · exact Or.inr (if_neg c2)
      · rw [upd_n _ _ c]
        exact q0
    · rcases q with q | ⟨q, q1, n, q2, q3, q4⟩ | ⟨q, j, q1, q2, q3⟩
      · exact Or.inl q
      · refine Or.inr (Or.inl ⟨q, q1, n, q2, q3, fun e he => ?_⟩)
        obtain ⟨z, z1, z2, z3, z4⟩ := q4 e he
        exact ⟨z, z1, z2, z3, kf z z4⟩
      · refine Or.inr (Or.inr ⟨q, j, q1, q2, fun e he => (q3 e he).imp id ?_⟩)
        rintro ⟨z, z1, z2, z3, z4⟩
        exact ⟨z, z1, z2, z3, kf z z4⟩
  · intro j hj h1
    rw [t19, upd_n _ _ (fun c => by rw [c, y19] at h1; exact absurd h1 (by decide))]
    exact h1
/-- an ELEMENT is given -/
theorem inv_give {m p v u : Nat} {s t S T : zS} (h : Inv m p v u s t) {x j e z : Nat} {k : Int32} (hx : x < v) (hj : j < m) (q1 : t 16 x = nI 2) (q2 : t 17 x = nI j) (x19 : t 19 x = nI 0) (he : e < enn (t 6) j) (hz : z < v) (hf : fts (t 16) (t 17) (t 8) (t 9) z (5 * j + e)) (hn : fin (t 16) (t 19) z)
    (hS : ∀ r, r ≠ 22 → r ≠ 24 → S r = s r) (hT : ∀ r, r ≠ 18 → r ≠ 20 → r < 23 ∨ 26 < r → T r = t r) (s22 : S 22 = upd (s 22) x k) (t18 : T 18 = upd (t 18) x k) (s24 : S 24 = upd (s 24) (5 * x + e) (nI z)) (t20 : T 20 = upd (t 20) (5 * x + e) (nI z)) : Inv m p v u S T := by
  obtain ⟨hA, hB, hC, hD, hE, hF, hG, hH, hJ, -⟩ := id h
  obtain ⟨f1, f2, f3, f4, f5, f6, f7, f8, f9, f10⟩ := id hE
  have a1 := hA.1
  obtain ⟨en, hen, een⟩ := hB.1 j (by omega)
  have eq := enn_of een hen
  have e23 : S 23 = s 23 := hS 23 (by omega) (by omega)
  have e19 : T 19 = t 19 := hT 19 (by omega) (by omega) (by omega)
  have nfx : ¬ fin (t 16) (t 19) x := by
    rintro (c | c)
    · rw [q1] at c
      exact absurd c (by decide)
    · rw [x19] at c
      exact absurd c (by decide)
  refine inv_chg h (fun r _ _ h2 _ h4 => hS r h2 h4) (fun r h0 _ h2 _ _ h5 => hT r h0 h2 h5) (by rw [s22, t18]; exact zeq_upd f5 _ _) (by rw [e23, e19]; exact f6) (by rw [s24, t20]; exact zeq_upd f7 _ _) ?_ (by rw [e23]; exact f10) ?_ ?_ ?_ (fun j' _ h1 => by rw [e19]; exact h1)
  · intro j' h1 h2
    rw [s24, upd_n _ _ (by omega)]
    exact f8 j' h1 h2
  · rw [hS 0 (by omega) (by omega), hS 1 (by omega) (by omega), hT 21 (by omega) (by omega) (by omega), hT 22 (by omega) (by omega) (by omega)]
    exact hJ
  · rw [e19]
    intro x' hx'
    obtain ⟨q0, q⟩ := hF x' hx'
    refine ⟨q0, ?_⟩
    by_cases c : x' = x
    · subst c
      rcases q with ⟨q, -⟩ | ⟨q, -⟩ | ⟨q, j', g1, g2, g3⟩
      · exact absurd q1 (s_ne q (by omega) (by omega) (by omega))
      · exact absurd q1 (s_ne q (by omega) (by omega) (by omega))
      · have : j' = j := nI_inj (by omega) (by omega) (g2.symm.trans q2)
        subst this
        refine Or.inr (Or.inr ⟨q, j', g1, g2, fun e' he' => ?_⟩)
        rw [t20]
        by_cases c2 : e' = e
        · rw [c2, upd_s]
          exact Or.inr ⟨z, hz, rfl, hf, hn⟩
        · rw [upd_n _ _ (by omega)]
          exact g3 e' he'
    · rcases q with q | ⟨q, g1, n, g2, g3, g4⟩ | ⟨q, j', g1, g2, g3⟩
      · exact Or.inl q
      · refine Or.inr (Or.inl ⟨q, g1, n, g2, by rw [t18, upd_n _ _ c]; exact g3, fun e' he' => ?_⟩)
        rw [t20, upd_n _ _ (by omega)]
        exact g4 e' he'
      · obtain ⟨en', hen', een'⟩ := hB.1 j' (by omega)
        have eq' := enn_of een' hen'
        refine Or.inr (Or.inr ⟨q, j', g1, g2, fun e' he' => ?_⟩)
        rw [t20, upd_n _ _ (by omega)]
        exact g3 e' he'
  · intro x' hx' hf'
    have c : x' ≠ x := fun c => nfx (by rw [← c]; exact hf')
    rw [t18, t20, upd_n _ _ c]
    refine ⟨rfl, fun e' he' => ?_⟩
    rw [upd_n _ _ (by omega)]
/-- WHOLE stays WHOLE where nothing within changes -/
theorem whl_same {m v : Nat} {s t T : zS} (hm : m ≤ 12) (hv : v ≤ 100) (hB : iB m (t 6) (t 7) (t 8) (t 4) (t 5)) (hF : iF m v (t 6) (t 8) (t 9) (t 16) (t 17) (t 18) (t 19) (t 20)) (hG : iG m v (s 15) (t 6) (t 8) (t 9) (t 10) (t 16) (t 17) (t 18) (t 19) (t 20)) (e6 : T 6 = t 6) (e10 : T 10 = t 10) (hk : ∀ x, x < v → T 16 x = t 16 x ∧ T 17 x = t 17 x ∧ T 18 x = t 18 x ∧ ∀ e, e < 5 → T 20 (5 * x + e) = t 20 (5 * x + e)) : ∀ n x, x < v → (whl (T 16) (T 17) (T 18) (T 20) (T 6) (T 10) n x ↔ whl (t 16) (t 17) (t 18) (t 20) (t 6) (t 10) n x) := by
  intro n x hx
  refine whl_keep (a19 := fun _ => nI 1) (a8 := t 8) (a9 := t 9) (s15 := s 15) hB.1 hm hv ?_ ?_ (fun x hx _ => hk x hx) (fun x j _ _ _ _ => by rw [e6, e10]; exact ⟨rfl, fun _ _ => rfl⟩) n x hx (Or.inr rfl)
  · intro x hx
    obtain ⟨q0, q⟩ := hF x hx
    refine ⟨Or.inr rfl, ?_⟩
    rcases q with q | ⟨q, g1, n, g2, g3, g4⟩ | ⟨q, j, g1, g2, g3⟩
    · exact Or.inl q
    · refine Or.inr (Or.inl ⟨q, g1, n, g2, g3, fun e he => ?_⟩)
      obtain ⟨z, z1, z2, z3, z4⟩ := g4 e he
      exact ⟨z, z1, z2, z3, Or.inr rfl⟩
    · refine Or.inr (Or.inr ⟨q, j, g1, g2, fun e he => (g3 e he).imp id ?_⟩)
      rintro ⟨z, z1, z2, z3, z4⟩
      exact ⟨z, z1, z2, z3, Or.inr rfl⟩
  · refine ⟨fun j e hj he => ?_, hG.2⟩
    obtain ⟨g1, g2⟩ := hG.1 j e hj he
    refine ⟨g1, g2.imp id ?_⟩
    rintro ⟨z, z1, z2, z3, z4, z5⟩
    exact ⟨z, z1, z2, z3, Or.inr rfl, z5⟩
theorem c_rof {M v : Nat} {s t : zS} (hE : iE v (s 19) (s 20) (s 21) (s 22) (s 23) (s 24) (t 15) (t 16) (t 17) (t 18) (t 19) (t 20)) {y : Nat} (hy : y < v) (k : Int32) : (f_X3_isRowOf M s (nI y) k = some (nI 1) ∧ t 16 y = nI 1 ∧ t 17 y = k) ∨ (f_X3_isRowOf M s (nI y) k = some (nI 0) ∧ ¬ (t 16 y = nI 1 ∧ t 17 y = k)) := by
  unfold f_X3_isRowOf
  have hv := hE.1
  rcases c_sort (M := M) hE (nI y) (nI 1) with ⟨a, -, y', hy', e, g⟩ | ⟨a, -, g⟩
  · have : y = y' := nI_inj (by omega) (by omega) e
    subst this
    have e21 : s 21 y = t 17 y := by rw [hE.2.2.2.2.2.2.2.2.1 y hy, g, if_neg (by decide)]
    rw [a, zbd_s, if_neg b_10, zin_t (show y < 100 by omega), zq_t, zcl (n := y) (by omega), e21, g]
    by_cases c : t 17 y = k
    · rw [if_pos c]
      exact Or.inl ⟨rfl, rfl, c⟩
    · rw [if_neg c]
      exact Or.inr ⟨rfl, fun z => c z.2⟩
  · rw [a, zbd_s, if_pos b_00]
    exact Or.inr ⟨rfl, fun z => g y hy rfl z.1⟩
