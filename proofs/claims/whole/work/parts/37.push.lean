/-! VALUES that change; push. -/
theorem inv_chg {m p v u : Nat} {s t S T : zS} (h : Inv m p v u s t) (hS : ∀ r, r ≠ 0 → r ≠ 1 → r ≠ 22 → r ≠ 23 → r ≠ 24 → S r = s r) (hT : ∀ r, r ≠ 18 → r ≠ 19 → r ≠ 20 → r ≠ 21 → r ≠ 22 → r < 23 ∨ 26 < r → T r = t r)
    (z1 : zeq 100 (S 22) (T 18)) (z2 : zeq 100 (S 23) (T 19)) (z3 : zeq (5 * v) (S 24) (T 20)) (z4 : ∀ j, 5 * v ≤ j → j < 500 → S 24 j = -1) (z5 : ∀ j, v ≤ j → j < 100 → S 23 j = nI 0) (hJ : iJ (S 0) (S 1) (T 21) (T 22))
    (hF' : iF m v (t 6) (t 8) (t 9) (t 16) (t 17) (T 18) (T 19) (T 20)) (k1 : ∀ x, x < v → fin (t 16) (t 19) x → T 18 x = t 18 x ∧ ∀ e, e < 5 → T 20 (5 * x + e) = t 20 (5 * x + e)) (k2 : ∀ j, j < v → t 19 j = nI 1 → T 19 j = nI 1) : Inv m p v u S T := by
  obtain ⟨hA, hB, hC, hD, hE, hF, hG, hH, -, hK, hL, hM⟩ := h
  obtain ⟨f1, f2, f3, f4, f5, f6, f7, f8, f9, f10⟩ := id hE
  have kd : ∀ y, fin (t 16) (t 19) y → y < v → fin (t 16) (T 19) y := fun y q hy => q.imp id (fun z => k2 y hy z)
  have kw := whl_keep (b6 := t 6) (b10 := t 10) (b16 := t 16) (b17 := t 17) (b18 := T 18) (b20 := T 20) hB.1 hA.1 f1 hF hG (fun x hx q => ⟨rfl, rfl, (k1 x hx q).1, (k1 x hx q).2⟩) (fun _ _ _ _ _ _ => ⟨rfl, fun _ _ => rfl⟩)
  have dm : dnc (t 19) v ≤ dnc (T 19) v := by
    clear kw hE f1 f2 f3 f4 f5 f6 f7 f8 f9 f10 hF hG hH hC z3 z4 z5 hF' k1 kd
    induction v with
    | zero => exact Nat.le_refl _
    | succ v ih =>
      have := ih (fun j hj => k2 j (by omega))
      unfold dnc
      by_cases c : t 19 v = nI 1
      · rw [if_pos c, if_pos (k2 v (by omega) c)]
        omega
      · rw [if_neg c]
        omega
  unfold Inv
  rw [hS 2 (by decide) (by decide) (by decide) (by decide) (by decide), hS 3 (by decide) (by decide) (by decide) (by decide) (by decide), hS 4 (by decide) (by decide) (by decide) (by decide) (by decide), hS 5 (by decide) (by decide) (by decide) (by decide) (by decide), hS 6 (by decide) (by decide) (by decide) (by decide) (by decide), hS 8 (by decide) (by decide) (by decide) (by decide) (by decide), hS 9 (by decide) (by decide) (by decide) (by decide) (by decide), hS 12 (by decide) (by decide) (by decide) (by decide) (by decide), hS 13 (by decide) (by decide) (by decide) (by decide) (by decide), hS 14 (by decide) (by decide) (by decide) (by decide) (by decide), hS 7 (by decide) (by decide) (by decide) (by decide) (by decide), hS 10 (by decide) (by decide) (by decide) (by decide) (by decide), hS 11 (by decide) (by decide) (by decide) (by decide) (by decide), hS 16 (by decide) (by decide) (by decide) (by decide) (by decide), hS 17 (by decide) (by decide) (by decide) (by decide) (by decide), hS 18 (by decide) (by decide) (by decide) (by decide) (by decide), hS 19 (by decide) (by decide) (by decide) (by decide) (by decide), hS 20 (by decide) (by decide) (by decide) (by decide) (by decide), hS 21 (by decide) (by decide) (by decide) (by decide) (by decide), hS 15 (by decide) (by decide) (by decide) (by decide) (by decide), hS 25 (by decide) (by decide) (by decide) (by decide) (by decide), hS 26 (by decide) (by decide) (by decide) (by decide) (by decide), hS 27 (by decide) (by decide) (by decide) (by decide) (by decide), hS 28 (by decide) (by decide) (by decide) (by decide) (by decide), hS 29 (by decide) (by decide) (by decide) (by decide) (by decide), hS 30 (by decide) (by decide) (by decide) (by decide) (by decide)]
  have hT' : ∀ r, r < 18 ∨ 26 < r → T r = t r := fun r hr => hT r (by omega) (by omega) (by omega) (by omega) (by omega) (by omega)
  rw [hT' 0 (by decide), hT' 1 (by decide), hT' 2 (by decide), hT' 3 (by decide), hT' 4 (by decide), hT' 5 (by decide), hT' 6 (by decide), hT' 7 (by decide), hT' 8 (by decide), hT' 9 (by decide), hT' 10 (by decide), hT' 12 (by decide), hT' 13 (by decide), hT' 14 (by decide), hT' 15 (by decide), hT' 16 (by decide), hT' 17 (by decide), hT' 27 (by decide), hT' 28 (by decide), hT' 32 (by decide), hT' 33 (by decide), hT' 34 (by decide)]
  refine ⟨hA, hB, hC, hD, ⟨f1, f2, f3, f4, z1, z2, z3, z4, f9, z5⟩, hF', ⟨fun j e hj he => ?_, hG.2⟩, ⟨Nat.le_trans hH.1 dm, hH.2.1, hH.2.2.1, hH.2.2.2.1, hH.2.2.2.2.1, fun k hk => ?_⟩, hJ, hK, hL, hM⟩
  · obtain ⟨g1, g2⟩ := hG.1 j e hj he
    refine ⟨g1, g2.imp id ?_⟩
    rintro ⟨y, y1, y2, y3, y4, y5⟩
    exact ⟨y, y1, y2, y3, kd y y4 y1, (kw 8 y y1 y4).mpr y5⟩
  · obtain ⟨x, x1, x2, x3, x4, x5⟩ := hH.2.2.2.2.2 k hk
    exact ⟨x, x1, x2, x3, x4, k2 x x1 x5⟩
/-- a FAILURE is told alike -/
theorem c_fail {M : Nat} {s t : zS} (h : Iv s t) {c : Nat} (hc : c < 4) : ∃ s' t', f_X5_fail M s (nI c) = some (-5, s') ∧ f_X6_failed M t (nI c) = some (-5, t') ∧ Iv s' t' := by
  obtain ⟨m, p, v, u, hA, hB, hC, hD, hE, hF, hG, hH, hJ, hK⟩ := h
  unfold f_X5_fail f_X6_failed
  rw [zin_t hc, zcl (by omega), hJ.1 c hc]
  refine ⟨_, _, rfl, rfl, m, p, v, u, ?_⟩
  unfold Inv
  exact ⟨hA, hB, hC, hD, hE, hF, hG, hH, ⟨zeq_upd hJ.1 _ _, rfl⟩, hK⟩
theorem c_knd {M m v : Nat} {s t : zS} (hE : iE v (s 19) (s 20) (s 21) (s 22) (s 23) (s 24) (t 15) (t 16) (t 17) (t 18) (t 19) (t 20)) (hF : iF m v (t 6) (t 8) (t 9) (t 16) (t 17) (t 18) (t 19) (t 20)) {y : Nat} (hy : y < v) (k : Int32) : (f_X3_isOfKind M s (nI y) k = some (nI 1) ∧ f_X6_isOfKind M t (nI y) k = some (nI 1) ∧ isK (t 16) (t 17) y k) ∨ (f_X3_isOfKind M s (nI y) k = some (nI 0) ∧ f_X6_isOfKind M t (nI y) k = some (nI 0) ∧ ¬ isK (t 16) (t 17) y k) := by
  obtain ⟨f1, f2, f3, f4, f5, f6, f7, f8, f9, f10⟩ := id hE
  have hs : f_X3_has M s (nI y) = some (nI 1) := by
    rcases c_val (M := M) hE (nI y) with ⟨a, -⟩ | ⟨-, -, b⟩
    · exact a
    · exact absurd rfl (b y hy)
  unfold f_X3_isOfKind f_X6_isOfKind isK
  rw [hs, zbd_s, if_neg b_10, zin_t (show y < 100 by omega), zcl (n := y) (by omega)]
  simp only [zq_t]
  rw [f4 y (by omega), f9 y hy]
  obtain ⟨-, q⟩ := hF y hy
  rcases q with ⟨q, -⟩ | ⟨q, -⟩ | ⟨q, -⟩
  · have q' : t 16 y = 0 := q
    rw [q, if_neg (show ¬ (nI 0 : Int32) = nI 1 by decide), if_neg (show ¬ (nI 0 : Int32) = nI 2 by decide), if_pos b_00]
    by_cases c : t 17 y = k
    · rw [if_pos c]
      exact Or.inl ⟨rfl, rfl, Or.inl ⟨rfl, c⟩⟩
    · rw [if_neg c]
      refine Or.inr ⟨rfl, rfl, ?_⟩
      rintro (⟨-, z⟩ | ⟨z, -⟩)
      · exact c z
      · exact absurd z (by decide)
  · rw [q, if_pos rfl, if_neg b_10, if_neg (show ¬ (nI 1 : Int32) = nI 2 by decide)]
    refine Or.inr ⟨rfl, rfl, ?_⟩
    rintro (⟨z, -⟩ | ⟨z, -⟩)
    · exact absurd z (by decide)
    · exact absurd z (by decide)
  · rw [q, if_neg (show ¬ (nI 2 : Int32) = nI 1 by decide), if_pos rfl, if_neg (show ¬ (nI 2 : Int32) = 0 by decide), if_pos rfl]
    by_cases c : nI 10 + t 17 y = k
    · rw [if_pos c, if_pos c.symm]
      exact Or.inl ⟨rfl, rfl, Or.inr ⟨rfl, c.symm⟩⟩
    · rw [if_neg c, if_neg (fun z => c z.symm)]
      refine Or.inr ⟨rfl, rfl, ?_⟩
      rintro (⟨z, -⟩ | ⟨-, z⟩)
      · exact absurd z (by decide)
      · exact c z.symm
/-- what comes into something is DONE then, if it can be -/
def dn1 (so : Nat → Int32) (y : Nat) : Int32 := if so y = nI 0 then nI 0 else nI 1
theorem e_fin {M : Nat} {S T : zS} {y : Nat} (hy : y < 100) (e : S 20 y = T 16 y) : f_X3_finish M S (nI y) = some (zup S 23 y (dn1 (T 16) y)) ∧ f_X6_done M T (nI y) = some (zup T 19 y (dn1 (T 16) y)) := by
  unfold f_X3_finish f_X6_done dn1
  have z0 : zbn 1 (nI 0) = nI 0 := by decide
  have z1 : zbn 1 (nI 1) = nI 1 := by decide
  rw [zin_t hy, zcl (by omega), z0, z1, e]
  simp only [zq_t]
  by_cases c : T 16 y = nI 0
  · have c' : T 16 y = 0 := c
    exact ⟨by rw [if_pos c', if_pos c], by rw [if_pos c', if_pos c]⟩
  · have c' : ¬ T 16 y = 0 := c
    exact ⟨by rw [if_neg c', if_neg c], by rw [if_neg c', if_neg c]⟩
theorem dn1_fin {so dn : Nat → Int32} {y : Nat} : fin so (upd dn y (dn1 so y)) y := by
  unfold fin dn1
  rw [upd_s]
  by_cases c : so y = nI 0
  · exact Or.inl c
  · rw [if_neg c]
    exact Or.inr rfl
/-- the heap's rows behind push -/
theorem inv_push {m p v u : Nat} {s t S T : zS} (h : Inv m p v u s t) {r y n : Nat} (hr : r < v) (hy : y < v) (r16 : t 16 r = nI 1) (r19 : t 19 r = nI 0) (r18 : t 18 r = nI n) (hn : n < 4) (y19 : t 19 y = nI 0) (hk : isK (t 16) (t 17) y (t 17 r))
    (hS : ∀ r, r ≠ 0 → r ≠ 1 → r ≠ 22 → r ≠ 23 → r ≠ 24 → S r = s r) (hT : ∀ r, r ≠ 18 → r ≠ 19 → r ≠ 20 → r ≠ 21 → r ≠ 22 → r < 23 ∨ 26 < r → T r = t r) (s22 : S 22 = upd (s 22) r (nI (n + 1))) (s23 : S 23 = upd (s 23) y (dn1 (t 16) y)) (s24 : S 24 = upd (s 24) (5 * r + n) (nI y)) (t18 : T 18 = upd (t 18) r (nI (n + 1))) (t19 : T 19 = upd (t 19) y (dn1 (t 16) y)) (t20 : T 20 = upd (t 20) (5 * r + n) (nI y)) (hJ : iJ (S 0) (S 1) (T 21) (T 22)) : Inv m p v u S T := by
  obtain ⟨hA, hB, hC, hD, hE, hF, hG, hH, -⟩ := id h
  obtain ⟨f1, f2, f3, f4, f5, f6, f7, f8, f9, f10⟩ := id hE
  have kf : ∀ z, fin (t 16) (t 19) z → fin (t 16) (T 19) z := by
    intro z hz
    rw [t19]
    by_cases c : z = y
    · rw [c]
      exact dn1_fin
    · unfold fin at hz ⊢
      rw [upd_n _ _ c]
      exact hz
  have fy : fin (t 16) (T 19) y := by rw [t19]; exact dn1_fin
  have rnf : ¬ fin (t 16) (t 19) r := by
    rintro (z | z)
    · rw [r16] at z; exact absurd z (by decide)
    · rw [r19] at z; exact absurd z (by decide)
  refine inv_chg h hS hT ?_ ?_ ?_ ?_ ?_ hJ ?_ ?_ ?_
  · rw [s22, t18]; exact zeq_upd f5 _ _
  · rw [s23, t19]; exact zeq_upd f6 _ _
  · rw [s24, t20]; exact zeq_upd f7 _ _
  · intro j h1 h2
    rw [s24, upd_n _ _ (by omega)]
    exact f8 j h1 h2
  · intro j h1 h2
    rw [s23, upd_n _ _ (by omega)]
    exact f10 j h1 h2
  · intro x hx
    obtain ⟨d0, q⟩ := hF x hx
    refine ⟨?_, ?_⟩
    · rw [t19]
      by_cases c : x = y
      · rw [c, upd_s]
        unfold dn1
        split
        · exact Or.inl rfl
        · exact Or.inr rfl
      · rw [upd_n _ _ c]
        exact d0
    · rcases q with q | ⟨q1, q2, n', q3, q4, q5⟩ | ⟨q1, j, q2, q3, q4⟩
      · exact Or.inl q
      · refine Or.inr (Or.inl ⟨q1, q2, ?_⟩)
        by_cases c : x = r
        · subst c
          have : n' = n := nI_inj (by omega) (by omega) (q4.symm.trans r18)
          subst this
          refine ⟨n' + 1, by omega, by rw [t18, upd_s], fun e he => ?_⟩
          rw [t20]
          by_cases ce : e = n'
          · subst ce
            rw [upd_s]
            exact ⟨y, hy, rfl, hk, fy⟩
          · rw [upd_n _ _ (by omega)]
            obtain ⟨z, z1, z2, z3, z4⟩ := q5 e (by omega)
            exact ⟨z, z1, z2, z3, kf z z4⟩
        · refine ⟨n', q3, by rw [t18, upd_n _ _ c]; exact q4, fun e he => ?_⟩
          rw [t20, upd_n _ _ (by omega)]
          obtain ⟨z, z1, z2, z3, z4⟩ := q5 e he
          exact ⟨z, z1, z2, z3, kf z z4⟩
      · refine Or.inr (Or.inr ⟨q1, j, q2, q3, fun e he => ?_⟩)
        obtain ⟨en, hen, een⟩ := hB.1 j (by have := hA.1; omega)
        have := enn_of een hen
        have cr : x ≠ r := by
          intro c
          rw [c, r16] at q1
          exact absurd q1 (by decide)
        rw [t20, upd_n _ _ (by omega)]
        rcases q4 e he with z | ⟨z, z1, z2, z3, z4⟩
        · exact Or.inl z
        · exact Or.inr ⟨z, z1, z2, z3, kf z z4⟩
  · intro x hx q
    have cr : x ≠ r := fun c => rnf (c ▸ q)
    refine ⟨by rw [t18, upd_n _ _ cr], fun e he => by rw [t20, upd_n _ _ (by omega)]⟩
  · intro j hj q
    rw [t19, upd_n]
    · exact q
    · intro c
      rw [c, y19] at q
      exact absurd q (by decide)
theorem o_push {N : Nat} {s t : zS} (h : Iv s t) (x1 x2 : Int32) : ∃ r s' t', f_X5_push (N + 3000) s x1 x2 = some (r, s') ∧ f_X6_push (N + 3000) t x1 x2 = some (r, t') ∧ Iv s' t' := by
  obtain ⟨m, p, v, u, hI⟩ := id h
  obtain ⟨hA, hB, hC, hD, hE, hF, hG, hH, hJ, hK⟩ := id hI
  obtain ⟨f1, f2, f3, f4, f5, f6, f7, f8, f9, f10⟩ := id hE
  have bad : ∀ {A B : Option (Int32 × zS)} (c : Int32), A = some (c, s) → B = some (c, t) → ∃ r s' t', A = some (r, s') ∧ B = some (r, t') ∧ Iv s' t' := fun c a b => ⟨c, s, t, a, b, h⟩
  unfold f_X5_push f_X6_push
  rcases (c_sort (M := N + 3000) hE x1 (nI 1)).symm with ⟨a, b, -⟩ | ⟨a, b, r, hr, rfl, r16⟩
  · rw [a, b]
    exact bad (-2) rfl rfl
  rw [a, b, zbd_s, zbd_s, if_neg b_10, if_neg b_10, zin_t (show r < 100 by omega), zcl (n := r) (by omega)]
  obtain ⟨rd, q⟩ := hF r hr
  obtain ⟨n, hn, r18⟩ : ∃ n, n ≤ 4 ∧ t 18 r = nI n := by
    rcases q with ⟨q, -⟩ | ⟨q, -, n, hn, en, -⟩ | ⟨q, -⟩
    · exact absurd r16 (s_ne q (by omega) (by omega) (by omega))
    · exact ⟨n, hn, en⟩
    · exact absurd r16 (s_ne q (by omega) (by omega) (by omega))
  have k21 : s 21 r = t 17 r := by rw [f9 r hr, r16, if_neg (by decide)]
  unfold f_X5_isValueOrNone f_X5_isDoneOrSame
  by_cases c1 : x2 = -1
  · have cr : ¬ x2 = nI r := by rw [c1]; exact fun z => nI_m1 (by omega) z.symm
    simp only [if_pos c1, zbd_s, if_neg b_10, if_pos b_00, zq_t, if_neg cr]
    rw [f6 r (by omega), f5 r (by omega), r18]
    rcases rd with rd | rd
    · rw [rd, if_pos b_00, if_pos b_00]
      by_cases c4 : n = 4
      · subst c4
        rw [if_neg (by decide), if_pos rfl]
        exact bad (-3) rfl rfl
      · rw [if_pos (nI_lt (show n < 4 by omega) (by omega)), if_neg (fun z => c4 (nI_inj (by omega) (by omega) z))]
        obtain ⟨s', t', g1, g2, g3⟩ := c_fail (M := N + 3000) h (c := 1) (by omega)
        rw [g1, g2]
        exact ⟨-5, s', t', rfl, rfl, g3⟩
    · rw [rd, if_neg b_10, if_neg b_10]
      exact bad (-4) rfl rfl
  simp only [if_neg c1]
  rcases (c_val (M := N + 3000) hE x2).symm with ⟨a, b, -⟩ | ⟨a, b, y, hy, rfl⟩
  · rw [a, b]
    exact bad (-2) rfl rfl
  rw [a, b]
  simp only [zbd_s, if_neg b_10]
  rw [zin_t (show y < 100 by omega), zcl (n := y) (by omega)]
  simp only [zq_t]
  rw [f6 r (by omega), f5 r (by omega), r18, k21, f6 y (by omega)]
  rcases rd.symm with rd | rd
  · rw [rd, if_neg b_10, if_neg b_10]
    exact bad (-4) rfl rfl
  rw [rd, if_pos b_00, if_pos b_00]
  by_cases c2 : nI y = nI r
  · rw [if_pos c2, if_pos c2]
    exact bad (-4) rfl rfl
  rw [if_neg c2, if_neg c2]
  obtain ⟨yd, -⟩ := hF y hy
  rcases yd.symm with yd | yd
  · rw [yd, if_neg b_10, if_neg b_10]
    exact bad (-4) rfl rfl
  rw [yd, if_pos b_00, if_pos b_00, zbd_s, if_pos b_00]
  by_cases c4 : n = 4
  · subst c4
    rw [if_neg (by decide), if_pos rfl]
    exact bad (-3) rfl rfl
  rw [if_pos (nI_lt (show n < 4 by omega) (by omega)), if_neg (fun z => c4 (nI_inj (by omega) (by omega) z))]
  rcases (c_knd (M := N + 3000) hE hF hy (t 17 r)).symm with ⟨a, b, -⟩ | ⟨a, b, hk⟩
  · rw [a, b]
    obtain ⟨s', t', g1, g2, g3⟩ := c_fail (M := N + 3000) h (c := 3) (by omega)
    simp only [zbd_s, if_pos b_00]
    rw [g1, g2]
    exact ⟨-5, s', t', rfl, rfl, g3⟩
  rw [a, b, zbd_s, zbd_s, if_neg b_10, if_neg b_10]
  unfold f_X3_append f_X6_good
  rw [zin_t (show r < 100 by omega), zcl (n := r) (by omega), show (zup s 1 0 (nI 0)) 22 r = t 18 r from f5 r (by omega), r18]
  simp only [pk_mul, nI_add, Nat.mul_comm r 5, zq_t]
  rw [zin_t (show 5 * r + n < 500 by omega), zcl (n := 5 * r + n) (by omega)]
  simp only [zq_t]
  obtain ⟨w1, w2⟩ := e_fin (M := N + 3000) (S := zup (zup (zup s 1 0 (nI 0)) 24 (5 * r + n) (nI y)) 22 r (nI (n + 1))) (T := zup (zup t 20 (5 * r + n) (nI y)) 18 r (nI (n + 1))) (y := y) (by omega) (f4 y (by omega))
  rw [w1, w2]
  refine ⟨nI (n + 1), _, _, ?_, ?_, m, p, v, u, inv_push hI hr hy r16 rd r18 (by omega) yd hk ?_ ?_ (S := zup (zup (zup (zup s 1 0 (nI 0)) 24 (5 * r + n) (nI y)) 22 r (nI (n + 1))) 23 y (dn1 (t 16) y)) (T := zup (zup (zup (zup t 20 (5 * r + n) (nI y)) 18 r (nI (n + 1))) 19 y (dn1 (t 16) y)) 21 0 (nI 0)) rfl rfl rfl rfl rfl rfl ⟨hJ.1, rfl⟩⟩
  · show some (upd (s 22) r (nI (n + 1)) r, _) = _
    rw [upd_s]
    rfl
  · show some (upd (t 18) r (nI (n + 1)) r, _) = _
    rw [upd_s]
    rfl
  · intro r' h0 h1 h2 h3 h4
    rw [zup_n _ _ _ h3, zup_n _ _ _ h2, zup_n _ _ _ h4, zup_n _ _ _ h1]
  · intro r' h0 h1 h2 h3 h4 _
    rw [zup_n _ _ _ h3, zup_n _ _ _ h1, zup_n _ _ _ h0, zup_n _ _ _ h2]
