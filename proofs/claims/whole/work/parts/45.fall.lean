/-! fallback. -/
theorem l_fix {M v : Nat} {t : zS} (h15 : t 15 0 = nI v) (hv : v ≤ 100) (j : Int32) : ∀ c k K b, k + c = v → c < K → b ≤ 1 →
    (l_X6_isFixed M K t j (nI b) (nI k) = some (nI 1) ∧ (b = 1 ∨ ∃ x, k ≤ x ∧ x < v ∧ t 16 x = nI 2 ∧ t 17 x = j)) ∨ (l_X6_isFixed M K t j (nI b) (nI k) = some (nI 0) ∧ b = 0 ∧ ∀ x, k ≤ x → x < v → ¬ (t 16 x = nI 2 ∧ t 17 x = j)) := by
  intro c
  induction c with
  | zero =>
    intro k K b hk hK hb
    obtain ⟨K, rfl⟩ : ∃ K', K = K' + 1 := ⟨K - 1, by omega⟩
    rw [l_X6_isFixed, h15, if_neg (nI_nlt (by omega) (by omega))]
    rcases (show b = 0 ∨ b = 1 by omega) with rfl | rfl
    · rw [bo_0, zq_t]
      exact Or.inr ⟨rfl, rfl, fun x h1 h2 => absurd h2 (by omega)⟩
    · rw [bo_1, zq_t]
      exact Or.inl ⟨rfl, Or.inl rfl⟩
  | succ c ih =>
    intro k K b hk hK hb
    obtain ⟨K, rfl⟩ : ∃ K', K = K' + 1 := ⟨K - 1, by omega⟩
    rw [l_X6_isFixed, h15, if_pos (nI_lt (by omega) (by omega)), zin_t (show k < 100 by omega), zq_t, zq_t, zcl (n := k) (by omega), nI_add]
    rcases (show b = 0 ∨ b = 1 by omega) with rfl | rfl
    · rw [if_pos b_00]
      by_cases c1 : t 16 k = nI 2
      · rw [if_pos c1]
        by_cases c2 : t 17 k = j
        · rw [if_pos c2]
          rcases ih (k + 1) K 1 (by omega) (by omega) (by omega) with ⟨g1, -⟩ | ⟨-, g2, -⟩
          · exact Or.inl ⟨g1, Or.inr ⟨k, by omega, by omega, c1, c2⟩⟩
          · exact absurd g2 (by omega)
        · rw [if_neg c2]
          rcases ih (k + 1) K 0 (by omega) (by omega) (by omega) with ⟨g1, g2 | ⟨x, x1, x2⟩⟩ | ⟨g1, -, g3⟩
          · exact absurd g2 (by omega)
          · exact Or.inl ⟨g1, Or.inr ⟨x, by omega, x2⟩⟩
          · refine Or.inr ⟨g1, rfl, fun x h1 h2 => ?_⟩
            rcases Nat.lt_or_ge k x with h3 | h3
            · exact g3 x h3 h2
            · rw [show x = k by omega]
              exact fun z => c2 z.2
      · rw [if_neg c1]
        rcases ih (k + 1) K 0 (by omega) (by omega) (by omega) with ⟨g1, g2 | ⟨x, x1, x2⟩⟩ | ⟨g1, -, g3⟩
        · exact absurd g2 (by omega)
        · exact Or.inl ⟨g1, Or.inr ⟨x, by omega, x2⟩⟩
        · refine Or.inr ⟨g1, rfl, fun x h1 h2 => ?_⟩
          rcases Nat.lt_or_ge k x with h3 | h3
          · exact g3 x h3 h2
          · rw [show x = k by omega]
            exact fun z => c1 z.1
    · rw [if_neg b_10]
      rcases ih (k + 1) K 1 (by omega) (by omega) (by omega) with ⟨g1, -⟩ | ⟨-, g2, -⟩
      · exact Or.inl ⟨g1, Or.inl rfl⟩
      · exact absurd g2 (by omega)
theorem c_fix {N m v u : Nat} {s t : zS} (hA : iA m (s 2) (s 3) (s 4) (s 5) (s 6) (s 8) (s 9) (s 12) (s 13) (s 14) (t 0) (t 1) (t 2) (t 3) (t 6) (t 4) (t 5) (t 7) (t 8) (t 9)) (hC : iC v u (s 7) (s 10) (s 11) (t 6) (t 8) (t 16) (t 17) (t 34)) (hE : iE v (s 19) (s 20) (s 21) (s 22) (s 23) (s 24) (t 15) (t 16) (t 17) (t 18) (t 19) (t 20)) {j : Nat} (hj : j < m) : (f_X0_isFixed (N + 3000) s (nI j) = some (nI 1) ∧ f_X6_isFixed (N + 3000) t (nI j) = some (nI 1)) ∨ (f_X0_isFixed (N + 3000) s (nI j) = some (nI 0) ∧ f_X6_isFixed (N + 3000) t (nI j) = some (nI 0) ∧ t 4 j = -1 ∧ t 5 j = -1 ∧ ∀ x, x < v → ¬ (t 16 x = nI 2 ∧ t 17 x = nI j)) := by
  obtain ⟨a1, a2, a3, a4, a5, a6, a7, a8, a9, a10, a11, a12⟩ := id hA
  have hv := hE.1
  have h15 := hE.2.2.1
  unfold f_X0_isFixed f_X6_isFixed
  rw [zin_t (show j < 12 by omega), zcl (n := j) (by omega), a8 j (by omega), a9 j (by omega)]
  simp only [zq_t]
  have one : l_X6_isFixed (N + 3000) (N + 3000) t (nI j) (nI 1) (nI 0) = some (nI 1) := by
    rcases l_fix (M := N + 3000) h15 hv (nI j) v 0 (N + 3000) 1 (by omega) (by omega) (by omega) with ⟨g, -⟩ | ⟨-, g, -⟩
    · exact g
    · exact absurd g (by omega)
  rw [one]
  rcases hC.2.1 j (by omega) with ⟨g1, x, x1, x2, x3⟩ | ⟨g1, g2⟩
  · left
    rw [g1, if_neg b_10]
    refine ⟨rfl, ?_⟩
    by_cases c4 : t 4 j = -1
    · rw [if_pos c4]
      by_cases c5 : t 5 j = -1
      · rw [if_pos c5]
        rcases l_fix (M := N + 3000) h15 hv (nI j) v 0 (N + 3000) 0 (by omega) (by omega) (by omega) with ⟨g, -⟩ | ⟨-, -, g⟩
        · exact g
        · exact absurd ⟨x2, x3⟩ (g x (by omega) x1)
      · rw [if_neg c5]
    · rw [if_neg c4]
  · rw [g1, if_pos b_00]
    by_cases c4 : t 4 j = -1
    · rw [if_pos c4, if_pos c4]
      by_cases c5 : t 5 j = -1
      · rw [if_pos c5, if_pos c5]
        rcases l_fix (M := N + 3000) h15 hv (nI j) v 0 (N + 3000) 0 (by omega) (by omega) (by omega) with ⟨-, g | ⟨x, x1, x2, x3⟩⟩ | ⟨g, -⟩
        · exact absurd g (by omega)
        · exact absurd x3 (g2 x x2)
        · exact Or.inr ⟨rfl, g, c4, c5, g2⟩
      · rw [if_neg c5, if_neg c5]
        exact Or.inl ⟨rfl, rfl⟩
    · rw [if_neg c4, if_neg c4]
      exact Or.inl ⟨rfl, rfl⟩
/-- a DEFAULT is told -/
theorem inv_fall {m p v u : Nat} {s t : zS} (h : Inv m p v u s t) {j e z : Nat} (hj : j < m) (he : e < enn (t 6) j) (hn : ∀ x, x < v → ¬ (t 16 x = nI 2 ∧ t 17 x = nI j)) (hz : z < v) (hf : fts (t 16) (t 17) (t 8) (t 9) z (5 * j + e)) (hd : fin (t 16) (t 19) z) (hw : whl (t 16) (t 17) (t 18) (t 20) (t 6) (t 10) 8 z) : Inv m p v u (zup s 15 (5 * j + e) (nI z)) (zup t 10 (5 * j + e) (nI z)) := by
  obtain ⟨hA, hB, hC, hD, hE, hF, hG, hH, hJ, hK, hL, hM⟩ := h
  have a1 := hA.1
  have hv := hE.1
  obtain ⟨en, hen, een⟩ := hB.1 j (by omega)
  have eq := enn_of een hen
  have kw := whl_keep (b6 := t 6) (b10 := upd (t 10) (5 * j + e) (nI z)) (b16 := t 16) (b17 := t 17) (b18 := t 18) (b20 := t 20) hB.1 a1 hv hF hG (fun x hx q => ⟨rfl, rfl, rfl, fun _ _ => rfl⟩) (fun x j' hx hj' q1 q2 => ⟨rfl, fun e' he' => by
    obtain ⟨en', hen', een'⟩ := hB.1 j' (by omega)
    have eq' := enn_of een' hen'
    have : j' ≠ j := fun c => hn x hx ⟨q1, by rw [← c]; exact q2⟩
    rw [upd_n _ _ (by omega)]⟩)
  refine ⟨hA, hB, hC, hD, hE, hF, ⟨fun j' e' hj' he' => ?_, fun j' e' hj' h1 h2 => ?_⟩, hH, hJ, hK, hL, hM⟩
  · show upd (s 15) _ _ _ = upd (t 10) _ _ _ ∧ (upd (t 10) _ _ _ = -1 ∨ _)
    by_cases c : 5 * j' + e' = 5 * j + e
    · rw [c, upd_s, upd_s]
      exact ⟨rfl, Or.inr ⟨z, hz, by rw [zup_s, upd_s], hf, hd, (kw 8 z hz hd).mpr hw⟩⟩
    · rw [upd_n _ _ c, upd_n _ _ c]
      obtain ⟨g1, g2⟩ := hG.1 j' e' hj' he'
      refine ⟨g1, g2.imp id ?_⟩
      rintro ⟨y, y1, y2, y3, y4, y5⟩
      exact ⟨y, y1, by rw [zup_s, upd_n _ _ c]; exact y2, y3, y4, (kw 8 y y1 y4).mpr y5⟩
  · have h1 : enn (t 6) j' ≤ e' := h1
    show upd (s 15) _ _ _ = -1
    have : j' ≠ j ∨ e' ≠ e := by
      by_cases c : j' = j
      · subst c
        right
        omega
      · exact Or.inl c
    rw [upd_n _ _ (by omega)]
    exact hG.2 j' e' hj' h1 h2
theorem o_fallback {N : Nat} (hN : 9000000 ≤ N) {s t : zS} (h : Iv s t) (x1 x2 x3 : Int32) : ∃ r s' t', f_X5_fallback (N + 3000) s x1 x2 x3 = some (r, s') ∧ f_X6_fallback (N + 3000) t x1 x2 x3 = some (r, t') ∧ Iv s' t' := by
  obtain ⟨m, p, v, u, hI⟩ := id h
  obtain ⟨hA, hB, hC, hD, hE, hF, hG, hH, hJ, hK⟩ := id hI
  obtain ⟨f1, f2, f3, f4, f5, f6, f7, f8, f9, f10⟩ := id hE
  have a1 := hA.1
  have n1z : ((nI 1 : Int32) = 0) = False := eq_false b_10
  have n0z : ((nI 0 : Int32) = 0) = True := eq_true b_00
  have mm : ((-1 : Int32) = -1) = True := eq_true rfl
  rcases (c_has (M := N + 3000) hA x1).symm with ⟨a, b, -⟩ | ⟨a, b, j, hj, rfl⟩
  · refine ⟨-2, s, t, ?_, ?_, h⟩
    · unfold f_X5_fallback f_X0_slotOf f_X0_positionOf
      simp only [a, zbd_s, n0z, if_true, mm]
    · unfold f_X6_fallback
      simp only [b, zbd_s, n0z, if_true]
  rcases (c_pos (N := N) hA hB hj x2).symm with ⟨-, p1, p2, p3⟩ | ⟨e, he, he5, p0, p1, p2, p3⟩
  · refine ⟨-2, s, t, ?_, ?_, h⟩
    · unfold f_X5_fallback
      simp only [p2, zbd_s, if_true, mm]
    · unfold f_X6_fallback
      simp only [b, zbd_s, n1z, p3, mm, if_true, if_false]
  have im1 : (nI (5 * j + e) = -1) = False := eq_false (nI_m1 (by omega))
  have zi : zin (nI (5 * j + e)) 60 = true := zin_t (by omega)
  have ci : (nI (5 * j + e)).toNatClampNeg = 5 * j + e := zcl (by omega)
  by_cases hv3 : x3 = -1 ∨ ∃ y, y < v ∧ x3 = nI y
  · have iv : f_X5_isValueOrNone (N + 3000) s x3 = some (nI 1) := by
      unfold f_X5_isValueOrNone
      rcases hv3 with rfl | ⟨y, hy, rfl⟩
      · rw [if_pos rfl]
      · rcases c_val (M := N + 3000) hE (nI y) with ⟨g, -⟩ | ⟨-, -, g⟩
        · rw [if_neg (nI_m1 (by omega)), g, zbd_s, if_neg b_10]
        · exact absurd rfl (g y hy)
    rcases c_fix (N := N) hA hC hE hj with ⟨x1', x2'⟩ | ⟨x1', x2', t4, t5, hn⟩
    · refine ⟨-4, s, t, ?_, ?_, h⟩
      · unfold f_X5_fallback
        simp only [p2, zbd_s, im1, if_false, iv, n1z, x1']
      · unfold f_X6_fallback
        rcases hv3 with rfl | ⟨y, hy, rfl⟩
        · simp only [b, zbd_s, n1z, p3, im1, mm, if_true, if_false, x2']
        · have ym1 : (nI y = -1) = False := eq_false (nI_m1 (by omega))
          rcases c_val (M := N + 3000) hE (nI y) with ⟨-, g, -⟩ | ⟨-, -, g⟩
          · simp only [b, zbd_s, n1z, p3, im1, ym1, if_true, if_false, x2', g]
          · exact absurd rfl (g y hy)
    -- the end: T is t but for the piles
    have fin2 : ∀ T, pT t T → (x3 = -1 ∨ ∃ y, y < v ∧ x3 = nI y ∧ t 19 y = nI 0 ∧ whl (t 16) (t 17) (t 18) (t 20) (t 6) (t 10) 8 y) → ∃ r s' t', zbd (f_X5_takeFor (N + 3000) s (nI (5 * j + e)) x3) (fun q4 => if q4.1 < 0 then some (q4.1, q4.2) else some (nI 1, zup q4.2 15 (5 * j + e) q4.1)) = some (r, s') ∧ zbd (f_X6_given (N + 3000) T (nI (5 * j + e)) x3) (fun q9 => if q9.1 < 0 then some (q9.1, q9.2) else zbd (f_X6_elementOf (N + 3000) q9.2 (nI j) x2) (fun q10 => zq (zin q10 60) <| some (nI 1, zup q9.2 10 q10.toNatClampNeg q9.1))) = some (r, t') ∧ Iv s' t' := by
      intro T pt hx3
      have hT := inv_pT hI pt
      have e6 : T 6 = t 6 := pt 6 (by omega)
      have e19 : T 19 = t 19 := pt 19 (by omega)
      rcases c_take (N := N) hT (e := e) hj (by rw [e6]; exact he) x3 (hx3.imp id (fun ⟨y, y1, y2, y3, _⟩ => ⟨y, y1, y2, by rw [e19]; exact y3⟩)) with ⟨r, s', t', g1, g2, g3, g4⟩ | ⟨y, v', z, s', t', g1, g2, g3, g4, g5, g6, g7, g8, g9, g10, g11, g12⟩
      · rw [g1, g2, zbd_s, zbd_s, if_pos g3, if_pos g3]
        exact ⟨_, _, _, rfl, rfl, g4⟩
      · have hE' := g5.2.2.2.2.1
        have hv' := hE'.1
        obtain ⟨hA', hB', -, -, -, hF', hG', -⟩ := id g5
        have ele : f_X6_elementOf (N + 3000) t' (nI j) x2 = some (nI (5 * j + e)) := by
          have : ∀ K y k, l_X6_elementOf (N + 3000) K t' (nI j) x2 y k = l_X6_elementOf (N + 3000) K t (nI j) x2 y k := by
            intro K
            induction K with
            | zero => intro y k; rfl
            | succ K ih =>
              intro y k
              rw [l_X6_elementOf, l_X6_elementOf, g10 6 (by omega), g10 7 (by omega), e6, pt 7 (by omega)]
              simp only [ih]
          rw [← p3]
          unfold f_X6_elementOf
          rw [this]
        have wy : whl (t 16) (t 17) (t 18) (t 20) (t 6) (t 10) 8 y := by
          rcases hx3 with rfl | ⟨y', y1, y2, -, y4⟩
          · exact absurd g2.symm (nI_m1 (by omega))
          · have := nI_inj (by omega) (by omega) (g2.symm.trans y2)
            rw [this]
            exact y4
        have wy' : whl (t' 16) (t' 17) (t' 18) (t' 20) (t' 6) (t' 10) 8 y := by
          have hTI := hT
          obtain ⟨-, hB0, -, -, -, hF0, hG0, -⟩ := id hTI
          refine (whl_same a1 f1 hB hF hG ((g10 6 (by omega)).trans e6) ((g10 10 (by omega)).trans (pt 10 (by omega))) (fun x hx => ?_) 8 y g1).mpr wy
          obtain ⟨i1, i2, i3, i4, i5⟩ := g11 x hx
          exact ⟨by rw [i1, pt 16 (by omega)], by rw [i2, pt 17 (by omega)], by rw [i3, pt 18 (by omega)], fun e' he' => by rw [i5 e' he', pt 20 (by omega)]⟩
        have wz : whl (t' 16) (t' 17) (t' 18) (t' 20) (t' 6) (t' 10) 8 z := by
          rcases g12 with ⟨rfl, -⟩ | ⟨-, -, i1, i2, i3⟩
          · exact wy'
          · refine (whl_s hv' hB' hF' g7 7).mpr ?_
            have w7 := (whl_n a1 hv' hB' hF' hG' 7 8 y (by omega) (by omega) (h_all a1 hv' hB' hF' hG' y (by omega))).mp wy'
            unfold wth kid
            rw [i1, if_pos rfl, i2]
            intro e' he'
            rw [zcl (n := 1) (by omega)] at he'
            rw [if_neg (by decide)]
            have : e' = 0 := by omega
            subst this
            rw [show 5 * z + 0 = 5 * z from rfl, i3, zcl (n := y) (by omega)]
            exact ⟨nI_m1 (by omega), w7⟩
        have hn' : ∀ x, x < v' → ¬ (t' 16 x = nI 2 ∧ t' 17 x = nI j) := by
          intro x hx
          by_cases c : x < v
          · obtain ⟨i1, i2, -⟩ := g11 x c
            rw [i1, i2, pt 16 (by omega), pt 17 (by omega)]
            exact hn x c
          · rcases g12 with ⟨-, hv2⟩ | ⟨hz2, hv2, i1, -⟩
            · exact absurd hx (by omega)
            · rw [show x = z by omega, i1]
              exact fun q => absurd q.1 (by decide)
        rw [g3, g4, zbd_s, zbd_s, if_neg (nI_pos (by omega)), if_neg (nI_pos (by omega)), ele, zbd_s, zi, zq_t, ci]
        exact ⟨nI 1, _, _, rfl, rfl, m, p, v', u, inv_fall g5 hj (by rw [g10 6 (by omega), e6]; exact he) hn' g7 g8 g9 wz⟩
    rcases hv3 with rfl | ⟨y, hy, rfl⟩
    · obtain ⟨r, s', t', g1, g2, g3⟩ := fin2 t pT_r (Or.inl rfl)
      refine ⟨r, s', t', ?_, ?_, g3⟩
      · unfold f_X5_fallback
        simp only [p2, zbd_s, im1, if_false, iv, n1z, n0z, mm, if_true, x1', zi, zq_t, ci]
        exact g1
      · unfold f_X6_fallback
        simp only [b, zbd_s, n1z, p3, im1, mm, if_true, if_false, x2', n0z]
        exact g2
    · have ym1 : (nI y = -1) = False := eq_false (nI_m1 (by omega))
      have zy : zin (nI y) 100 = true := zin_t (by omega)
      have cy : (nI y).toNatClampNeg = y := zcl (by omega)
      have vy : f_X6_isValue (N + 3000) t (nI y) = some (nI 1) := by
        rcases c_val (M := N + 3000) hE (nI y) with ⟨-, g, -⟩ | ⟨-, -, g⟩
        · exact g
        · exact absurd rfl (g y hy)
      obtain ⟨yd, -⟩ := hF y hy
      rcases yd.symm with yd | yd
      · refine ⟨-4, s, t, ?_, ?_, h⟩
        · unfold f_X5_fallback
          simp only [p2, zbd_s, im1, if_false, iv, n1z, n0z, ym1, if_true, x1', zy, zq_t, cy, f6 y (show y < 100 by omega), yd]
        · unfold f_X6_fallback
          simp only [b, zbd_s, n1z, p3, im1, ym1, if_true, if_false, x2', n0z, vy, zy, cy, zq_t, yd]
      · rcases c_whl (M := N + 3000) (by omega) hA hB hE hF hG hy with ⟨w, g1, T, g2, g3⟩ | ⟨-, g1, T, g2, g3⟩
        · obtain ⟨r, s', t', h1, h2, h3⟩ := fin2 T g2 (Or.inr ⟨y, hy, rfl, yd, w⟩)
          have eT : f_X6_elementOf (N + 3000) T (nI j) x2 = some (nI (5 * j + e)) := by
            have hT := inv_pT hI g2
            rcases c_pos (N := N) hT.1 hT.2.1 hj x2 with ⟨e', k1, k2, k3, -, -, k6⟩ | ⟨k1, -⟩
            · rw [g2 7 (by omega), ← p0] at k3
              rw [g2 6 (by omega)] at k1
              have := hB.2.2.2.2.2.1 j e' e hj k1 he k3
              rw [k6, this]
            · rw [g2 7 (by omega), g2 6 (by omega)] at k1
              exact absurd p0 (k1 e he)
          refine ⟨r, s', t', ?_, ?_, h3⟩
          · unfold f_X5_fallback
            simp only [p2, zbd_s, im1, if_false, iv, n1z, n0z, ym1, if_true, x1', zy, zq_t, cy, f6 y (show y < 100 by omega), yd, g1, zi, ci]
            exact h1
          · unfold f_X6_fallback
            simp only [b, zbd_s, n1z, p3, im1, ym1, if_true, if_false, x2', n0z, vy, zy, cy, zq_t, yd, g3, eT]
            exact h2
        · refine ⟨-4, s, T, ?_, ?_, m, p, v, u, inv_pT hI g2⟩
          · unfold f_X5_fallback
            simp only [p2, zbd_s, im1, if_false, iv, n1z, n0z, ym1, if_true, x1', zy, zq_t, cy, f6 y (show y < 100 by omega), yd, g1]
          · unfold f_X6_fallback
            simp only [b, zbd_s, n1z, p3, im1, ym1, if_true, if_false, x2', n0z, vy, zy, cy, zq_t, yd, g3]
  · -- not a VALUE
    have h3 : x3 ≠ -1 := fun q => hv3 (Or.inl q)
    rcases c_val (M := N + 3000) hE x3 with ⟨-, -, y, hy, rfl⟩ | ⟨g1, g2, -⟩
    · exact absurd (Or.inr ⟨y, hy, rfl⟩) hv3
    refine ⟨-2, s, t, ?_, ?_, h⟩
    · unfold f_X5_fallback f_X5_isValueOrNone
      rw [p2, zbd_s, if_neg (nI_m1 (by omega)), if_neg h3, g1, zbd_s, if_pos b_00, zbd_s, if_pos b_00]
    · unfold f_X6_fallback
      simp only [b, zbd_s, n1z, p3, im1, if_neg h3, if_false, g2, n0z, if_true]
