/-! give, fallback. -/
theorem o_give {N : Nat} {s t : zS} (h : Iv s t) (x1 x2 x3 : Int32) : ∃ r s' t', f_X5_give (N + 3000) s x1 x2 x3 = some (r, s') ∧ f_X6_give (N + 3000) t x1 x2 x3 = some (r, t') ∧ Iv s' t' := by
  obtain ⟨m, p, v, u, hI⟩ := id h
  obtain ⟨hA, hB, hC, hD, hE, hF, hG, hH, hJ, hK⟩ := id hI
  obtain ⟨f1, f2, f3, f4, f5, f6, f7, f8, f9, f10⟩ := id hE
  have a1 := hA.1
  have n1z : ((nI 1 : Int32) = 0) = False := eq_false b_10
  have n0z : ((nI 0 : Int32) = 0) = True := eq_true b_00
  have mm : ((-1 : Int32) = -1) = True := eq_true rfl
  rcases (c_sort (M := N + 3000) hE x1 (nI 2)).symm with ⟨a, b, -⟩ | ⟨a, b, x, hx, rfl, x16⟩
  · refine ⟨-2, s, t, ?_, ?_, h⟩
    · unfold f_X5_give
      rw [a, zbd_s, if_pos b_00]
    · unfold f_X6_give
      rw [b, zbd_s, if_pos b_00]
  obtain ⟨xd, q⟩ := hF x hx
  obtain ⟨j, hj, x17, hc⟩ : ∃ j, j < m ∧ t 17 x = nI j ∧ ∀ e, e < enn (t 6) j → t 20 (5 * x + e) = -1 ∨ ∃ y, y < v ∧ t 20 (5 * x + e) = nI y ∧ fts (t 16) (t 17) (t 8) (t 9) y (5 * j + e) ∧ fin (t 16) (t 19) y := by
    rcases q with ⟨q, -⟩ | ⟨q, -⟩ | ⟨q, j, g1, g2, g3⟩
    · exact absurd x16 (s_ne q (by omega) (by omega) (by omega))
    · exact absurd x16 (s_ne q (by omega) (by omega) (by omega))
    · exact ⟨j, g1, g2, g3⟩
  have mk := c_mkof (M := N + 3000) hE a1 hx hj x16 x17
  have zx : zin (nI x) 100 = true := zin_t (by omega)
  have cx : (nI x).toNatClampNeg = x := zcl (by omega)
  have xm1 : (-1 = nI x) = False := eq_false (fun q => nI_m1 (show x < 2 ^ 31 by omega) q.symm)
  have x23 : s 23 x = t 19 x := f6 x (by omega)
  -- x3
  by_cases hv3 : x3 = -1 ∨ ∃ y, y < v ∧ x3 = nI y
  · have iv : f_X5_isValueOrNone (N + 3000) s x3 = some (nI 1) := by
      unfold f_X5_isValueOrNone
      rcases hv3 with rfl | ⟨y, hy, rfl⟩
      · rw [if_pos rfl]
      · rcases c_val (M := N + 3000) hE (nI y) with ⟨g, -⟩ | ⟨-, -, g⟩
        · rw [if_neg (nI_m1 (by omega)), g, zbd_s, if_neg b_10]
        · exact absurd rfl (g y hy)
    rcases (c_pos (N := N) hA hB hj x2).symm with ⟨-, p1, -, p3⟩ | ⟨e, he, he5, -, p1, p2, p3⟩
    · refine ⟨-2, s, t, ?_, ?_, h⟩
      · unfold f_X5_give
        simp only [a, zbd_s, n1z, if_false, iv, mk, p1, mm, if_true]
      · unfold f_X6_give
        simp only [b, zbd_s, n1z, if_false, zx, zq_t, cx, x17, p3, mm, if_true]
    have em1 : (nI e = -1) = False := eq_false (nI_m1 (by omega))
    have im1 : (nI (5 * j + e) = -1) = False := eq_false (nI_m1 (by omega))
    have ix : nI 5 * nI x + nI (5 * j + e) - nI 5 * nI j = nI (5 * x + e) := by
      rw [pk_mul, pk_mul, nI_add, pk_sub (by omega)]
      congr 1
      omega
    have z5 : zin (nI (5 * x + e)) 500 = true := zin_t (by omega)
    have c5 : (nI (5 * x + e)).toNatClampNeg = 5 * x + e := zcl (by omega)
    have pr := c_prt (M := N + 3000) hE hx he5
    -- what both do, once x3 is none or a VALUE
    have ec : f_X5_give (N + 3000) s (nI x) x2 x3 = if t 19 x = 0 then zbd (f_X5_isDoneOrSame (N + 3000) s x3 (nI x)) (fun q5 => if q5 = 0 then if t 20 (5 * x + e) = -1 then zbd (f_X5_takeFor (N + 3000) s (nI (5 * j + e)) x3) (fun q8 => if q8.1 < 0 then some (q8.1, q8.2) else zbd (f_X3_setElement (N + 3000) q8.2 (nI x) (nI e) q8.1) (fun q9 => some (nI 1, q9))) else some ((-4), s) else some ((-4), s)) else some ((-4), s) := by
      unfold f_X5_give
      simp only [a, zbd_s, n1z, if_false, iv, mk, p1, p2, em1, zx, zq_t, cx, pr, x23]
    have er : f_X6_give (N + 3000) t (nI x) x2 x3 = if t 19 x = 0 then if t 20 (5 * x + e) = -1 then if x3 = nI x then some ((-4), t) else if x3 = -1 then zbd (f_X6_given (N + 3000) t (nI (5 * j + e)) x3) (fun q4 => if q4.1 < 0 then some (q4.1, q4.2) else some (nI 1, zup (zup q4.2 20 (5 * x + e) q4.1) 18 x ((q4.2 18 x) + (nI 1)))) else zq (zin x3 100) <| if (t 19 x3.toNatClampNeg) = 0 then zbd (f_X6_given (N + 3000) t (nI (5 * j + e)) x3) (fun q4 => if q4.1 < 0 then some (q4.1, q4.2) else some (nI 1, zup (zup q4.2 20 (5 * x + e) q4.1) 18 x ((q4.2 18 x) + (nI 1)))) else some ((-4), t) else some ((-4), t) else some ((-4), t) := by
      unfold f_X6_give
      rcases hv3 with rfl | ⟨y, hy, rfl⟩
      · simp only [b, zbd_s, n1z, if_false, zx, zq_t, cx, x17, p3, im1, mm, if_true, ix, z5, c5]
      · have ym1 : (nI y = -1) = False := eq_false (nI_m1 (by omega))
        rcases c_val (M := N + 3000) hE (nI y) with ⟨-, g, -⟩ | ⟨-, -, g⟩
        · simp only [b, zbd_s, n1z, if_false, zx, zq_t, cx, x17, p3, im1, ym1, if_true, ix, z5, c5, g]
        · exact absurd rfl (g y hy)
    rw [ec, er]
    rcases xd.symm with xd | xd
    · rw [xd, if_neg b_10, if_neg b_10]
      exact ⟨_, _, _, rfl, rfl, h⟩
    rw [xd, if_pos b_00, if_pos b_00]
    -- the end of both
    have fin2 : (x3 = -1 ∨ ∃ y, y < v ∧ x3 = nI y ∧ y ≠ x ∧ t 19 y = nI 0) → t 20 (5 * x + e) = -1 → ∃ r s' t', zbd (f_X5_takeFor (N + 3000) s (nI (5 * j + e)) x3) (fun q8 => if q8.1 < 0 then some (q8.1, q8.2) else zbd (f_X3_setElement (N + 3000) q8.2 (nI x) (nI e) q8.1) (fun q9 => some (nI 1, q9))) = some (r, s') ∧ zbd (f_X6_given (N + 3000) t (nI (5 * j + e)) x3) (fun q4 => if q4.1 < 0 then some (q4.1, q4.2) else some (nI 1, zup (zup q4.2 20 (5 * x + e) q4.1) 18 x ((q4.2 18 x) + (nI 1)))) = some (r, t') ∧ Iv s' t' := by
      intro hx3 h20
      rcases c_take (N := N) hI hj he x3 (hx3.imp id (fun ⟨y, y1, y2, _, y4⟩ => ⟨y, y1, y2, y4⟩)) with ⟨r, s', t', g1, g2, g3, g4⟩ | ⟨y, v', z, s', t', g1, g2, g3, g4, g5, g6, g7, g8, g9, g10, g11, g12⟩
      · rw [g1, g2, zbd_s, zbd_s, if_pos g3, if_pos g3]
        exact ⟨_, _, _, rfl, rfl, g4⟩
      · have hyx : x ≠ y := by
          rcases hx3 with rfl | ⟨y', y1, y2, y3, -⟩
          · exact absurd g2.symm (nI_m1 (by omega))
          · have := nI_inj (by omega) (by omega) (g2.symm.trans y2)
            omega
        obtain ⟨i1, i2, i3, i4, i5⟩ := g11 x hx
        have hE' := g5.2.2.2.2.1
        have hv' := hE'.1
        rw [g3, g4, zbd_s, zbd_s, if_neg (nI_pos (by omega)), if_neg (nI_pos (by omega))]
        unfold f_X3_setElement
        rw [pk_mul, nI_add, zx, cx, show x * 5 + e = 5 * x + e by omega, z5, c5, zq_t, zq_t, zq_t, zbd_s]
        refine ⟨nI 1, _, _, rfl, rfl, m, p, v', u, inv_give g5 (x := x) (j := j) (e := e) (z := z) (k := t' 18 x + nI 1) (by omega) hj (i1.trans x16) (i2.trans x17) ((i4 hyx).trans xd) (by rw [g10 6 (by omega)]; exact he) g7 g8 g9 ?_ ?_ ?_ rfl rfl rfl⟩
        · intro r h1 h2
          rw [zup_n _ _ _ h1, zup_n _ _ _ h2]
        · intro r h1 h2 _
          rw [zup_n _ _ _ h1, zup_n _ _ _ h2]
        · show upd (s' 22) x (s' 22 x + nI 1) = _
          rw [hE'.2.2.2.2.1 x (by omega)]
    unfold f_X5_isDoneOrSame
    rcases hv3 with rfl | ⟨y, hy, rfl⟩
    · rw [if_pos rfl, zbd_s, if_pos b_00]
      simp only [xm1, if_false, mm, if_true]
      by_cases h20 : t 20 (5 * x + e) = -1
      · rw [if_pos h20, if_pos h20]
        exact fin2 (Or.inl rfl) h20
      · rw [if_neg h20, if_neg h20]
        exact ⟨_, _, _, rfl, rfl, h⟩
    · have ym1 : ¬ nI y = -1 := nI_m1 (by omega)
      rw [if_neg ym1]
      by_cases c : nI y = nI x
      · rw [if_pos c, zbd_s, if_neg b_10, if_pos c]
        refine ⟨-4, s, t, rfl, ?_, h⟩
        split <;> rfl
      · rw [if_neg c, if_neg c, if_neg ym1, zin_t (show y < 100 by omega), zq_t, zq_t, zcl (n := y) (by omega), f6 y (by omega)]
        obtain ⟨yd, -⟩ := hF y hy
        rcases yd.symm with yd | yd
        · rw [yd, if_neg b_10, if_neg b_10, zbd_s, if_neg b_10]
          refine ⟨-4, s, t, rfl, ?_, h⟩
          split <;> rfl
        · rw [yd, if_pos b_00, if_pos b_00, zbd_s, if_pos b_00]
          by_cases h20 : t 20 (5 * x + e) = -1
          · rw [if_pos h20, if_pos h20]
            exact fin2 (Or.inr ⟨y, hy, rfl, fun z => c (by rw [z]), yd⟩) h20
          · rw [if_neg h20, if_neg h20]
            exact ⟨_, _, _, rfl, rfl, h⟩
  · -- not a VALUE
    have h3 : x3 ≠ -1 := fun q => hv3 (Or.inl q)
    rcases c_val (M := N + 3000) hE x3 with ⟨-, -, y, hy, rfl⟩ | ⟨g1, g2, -⟩
    · exact absurd (Or.inr ⟨y, hy, rfl⟩) hv3
    refine ⟨-2, s, t, ?_, ?_, h⟩
    · unfold f_X5_give f_X5_isValueOrNone
      rw [a, zbd_s, if_neg b_10, if_neg h3, g1, zbd_s, if_pos b_00, zbd_s, if_pos b_00]
    · unfold f_X6_give
      rcases (c_pos (N := N) hA hB hj x2).symm with ⟨-, p1, -, p3⟩ | ⟨e, he, he5, -, p1, p2, p3⟩
      · simp only [b, zbd_s, n1z, if_false, zx, zq_t, cx, x17, p3, mm, if_true]
      · have im1 : (nI (5 * j + e) = -1) = False := eq_false (nI_m1 (by omega))
        simp only [b, zbd_s, n1z, if_false, zx, zq_t, cx, x17, p3, im1, if_neg h3, g2, n0z, if_true]
