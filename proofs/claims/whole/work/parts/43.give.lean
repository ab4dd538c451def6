/-! give. -/
theorem m3_ne {y : Nat} (h : y < 1000) : ¬ nI y = -3 := by
  intro q
  have h1 := nI_toInt (show y < 2 ^ 31 by omega)
  rw [q] at h1
  have h2 : (-3 : Int32).toInt = -3 := by decide
  omega
theorem c_take {N m p v u : Nat} {s t : zS} (h : Inv m p v u s t) {j e : Nat} (hj : j < m) (he : e < enn (t 6) j) (x : Int32) (hx : x = -1 ∨ ∃ y, y < v ∧ x = nI y ∧ t 19 y = nI 0) :
    (∃ r s' t', f_X5_takeFor (N + 3000) s (nI (5 * j + e)) x = some (r, s') ∧ f_X6_given (N + 3000) t (nI (5 * j + e)) x = some (r, t') ∧ r < 0 ∧ Iv s' t') ∨
    (∃ y v' z s' t', y < v ∧ x = nI y ∧ f_X5_takeFor (N + 3000) s (nI (5 * j + e)) x = some (nI z, s') ∧ f_X6_given (N + 3000) t (nI (5 * j + e)) x = some (nI z, t') ∧ Inv m p v' u s' t' ∧ v ≤ v' ∧ z < v' ∧ fts (t' 16) (t' 17) (t' 8) (t' 9) z (5 * j + e) ∧ fin (t' 16) (t' 19) z ∧ (∀ r, r < 15 → t' r = t r) ∧
      (∀ x, x < v → t' 16 x = t 16 x ∧ t' 17 x = t 17 x ∧ t' 18 x = t 18 x ∧ (x ≠ y → t' 19 x = t 19 x) ∧ ∀ e, e < 5 → t' 20 (5 * x + e) = t 20 (5 * x + e)) ∧ ((z = y ∧ v' = v) ∨ (z = v ∧ v' = v + 1 ∧ t' 16 z = nI 1 ∧ t' 18 z = nI 1 ∧ t' 20 (5 * z) = nI y))) := by
  obtain ⟨hA, hB, hC, hD, hE, hF, hG, hH, hJ, hK⟩ := id h
  obtain ⟨a1, a2, a3, a4, a5, a6, a7, a8, a9, a10, a11, a12⟩ := id hA
  obtain ⟨f1, f2, f3, f4, f5, f6, f7, f8, f9, f10⟩ := id hE
  obtain ⟨en, hen, een⟩ := hB.1 j (by omega)
  have eq := enn_of een hen
  have hi : 5 * j + e < 60 := by omega
  have hIv : Iv s t := ⟨m, p, v, u, h⟩
  have n1z : ((nI 1 : Int32) = 0) = False := eq_false b_10
  have n0z : ((nI 0 : Int32) = 0) = True := eq_true b_00
  rcases hx with rfl | ⟨y, hy, rfl, y19⟩
  · left
    obtain ⟨s', t', g1, g2, g3⟩ := c_fail (M := N + 3000) hIv (c := 1) (by omega)
    refine ⟨-5, s', t', ?_, ?_, by decide, g3⟩
    · unfold f_X5_takeFor
      rw [if_pos rfl, g1]
      rfl
    · unfold f_X6_given
      rw [if_pos rfl, if_pos rfl, g2]
      rfl
  have ym1 : (nI y = -1) = False := eq_false (nI_m1 (by omega))
  have ym3 : (nI y = -3) = False := eq_false (m3_ne (by omega))
  have y16 : s 20 y = t 16 y := f4 y (by omega)
  obtain ⟨k1, -⟩ := hB.2.2.2.2.1 j e hj he
  have zi : zin (nI (5 * j + e)) 60 = true := zin_t hi
  have zy : zin (nI y) 100 = true := zin_t (by omega)
  have ci : (nI (5 * j + e)).toNatClampNeg = 5 * j + e := zcl (by omega)
  have cy : (nI y).toNatClampNeg = y := zcl (by omega)
  have e13 : s 13 (5 * j + e) = t 8 (5 * j + e) := a11 _ hi
  have e14 : s 14 (5 * j + e) = t 9 (5 * j + e) := a12 _ hi
  -- taken as it is
  have asis : fts (t 16) (t 17) (t 8) (t 9) y (5 * j + e) → f_X5_takeFor (N + 3000) s (nI (5 * j + e)) (nI y) = zbd (f_X3_finish (N + 3000) (zup s 1 0 (nI 0)) (nI y)) (fun q => some (nI y, q)) → f_X6_given (N + 3000) t (nI (5 * j + e)) (nI y) = zbd (f_X6_done (N + 3000) t (nI y)) (fun q3 => zbd (f_X6_good (N + 3000) q3 (nI y)) (fun q4 => some (q4.1, q4.2))) →
      ∃ y' v' z s' t', y' < v ∧ nI y = nI y' ∧ f_X5_takeFor (N + 3000) s (nI (5 * j + e)) (nI y) = some (nI z, s') ∧ f_X6_given (N + 3000) t (nI (5 * j + e)) (nI y) = some (nI z, t') ∧ Inv m p v' u s' t' ∧ v ≤ v' ∧ z < v' ∧ fts (t' 16) (t' 17) (t' 8) (t' 9) z (5 * j + e) ∧ fin (t' 16) (t' 19) z ∧ (∀ r, r < 15 → t' r = t r) ∧
      (∀ x, x < v → t' 16 x = t 16 x ∧ t' 17 x = t 17 x ∧ t' 18 x = t 18 x ∧ (x ≠ y' → t' 19 x = t 19 x) ∧ ∀ e, e < 5 → t' 20 (5 * x + e) = t 20 (5 * x + e)) ∧ ((z = y' ∧ v' = v) ∨ (z = v ∧ v' = v + 1 ∧ t' 16 z = nI 1 ∧ t' 18 z = nI 1 ∧ t' 20 (5 * z) = nI y')) := by
    intro hf c1 c2
    obtain ⟨w1, w2⟩ := e_fin (M := N + 3000) (S := zup s 1 0 (nI 0)) (T := t) (y := y) (by omega) y16
    rw [c1, c2, w1, w2]
    refine ⟨y, v, y, zup (zup s 1 0 (nI 0)) 23 y (dn1 (t 16) y), zup (zup t 19 y (dn1 (t 16) y)) 21 0 (nI 0), hy, rfl, rfl, rfl, ?_, Nat.le_refl v, hy, hf, ?_, ?_, ?_, Or.inl ⟨rfl, rfl⟩⟩
    · refine inv_done h hy y19 ?_ ?_ rfl rfl rfl
      · intro r h1 h2
        rw [zup_n _ _ _ h2, zup_n _ _ _ h1]
      · intro r h1 h2 _
        rw [zup_n _ _ _ h2, zup_n _ _ _ h1]
    · show fin (t 16) (upd (t 19) y _) y
      exact dn1_fin
    · intro r hr
      rw [zup_n _ _ _ (by omega), zup_n _ _ _ (by omega)]
    · intro x _
      refine ⟨rfl, rfl, rfl, fun c => ?_, fun _ _ => rfl⟩
      show upd (t 19) y _ x = _
      rw [upd_n _ _ c]
  -- not taken
  have bad : f_X5_takeFor (N + 3000) s (nI (5 * j + e)) (nI y) = zbd (f_X5_fail (N + 3000) s (nI 2)) (fun q => some (q.1, q.2)) → f_X6_given (N + 3000) t (nI (5 * j + e)) (nI y) = zbd (f_X6_failed (N + 3000) t (nI 2)) (fun q => some (q.1, q.2)) → ∃ r s' t', f_X5_takeFor (N + 3000) s (nI (5 * j + e)) (nI y) = some (r, s') ∧ f_X6_given (N + 3000) t (nI (5 * j + e)) (nI y) = some (r, t') ∧ r < 0 ∧ Iv s' t' := by
    intro c1 c2
    obtain ⟨s', t', g1, g2, g3⟩ := c_fail (M := N + 3000) hIv (c := 2) (by omega)
    rw [c1, c2, g1, g2]
    exact ⟨-5, s', t', rfl, rfl, by decide, g3⟩
  by_cases c9 : t 9 (5 * j + e) = 0
  · have c9' : (t 9 (5 * j + e) = 0) = True := eq_true c9
    rcases c_knd (M := N + 3000) hE hF hy (t 8 (5 * j + e)) with ⟨g1, g2, g3⟩ | ⟨g1, g2, g3⟩
    · right
      refine asis (Or.inr ⟨c9, g3⟩) ?_ ?_
      · unfold f_X5_takeFor
        simp only [ym1, ym3, zi, ci, e13, e14, c9', g1, zq_t, zbd_s, if_true, if_false, n1z]
      · unfold f_X6_given
        simp only [ym1, ym3, zi, ci, c9', g2, zq_t, zbd_s, if_true, if_false, n1z]
    · left
      refine bad ?_ ?_
      · unfold f_X5_takeFor
        simp only [ym1, ym3, zi, ci, e13, e14, c9', g1, zq_t, zbd_s, if_true, if_false, n0z]
      · unfold f_X6_given
        simp only [ym1, ym3, zi, ci, c9', g2, zq_t, zbd_s, if_true, if_false, n0z]
  · have c9' : (t 9 (5 * j + e) = 0) = False := eq_false c9
    rcases c_knd (M := N + 3000) hE hF hy (t 8 (5 * j + e)) with ⟨g1, g2, g3⟩ | ⟨g1, g2, g3⟩
    · by_cases hv : v = 100
      · left
        have e15 : (t 15 0 = nI 100) = True := eq_true (by rw [f3, hv])
        have er : ∃ b, f_X3_isRowOf (N + 3000) s (nI y) (t 8 (5 * j + e)) = some b := by
          rcases c_rof (M := N + 3000) hE hy (t 8 (5 * j + e)) with ⟨q, -⟩ | ⟨q, -⟩
          · exact ⟨_, q⟩
          · exact ⟨_, q⟩
        obtain ⟨b, er⟩ := er
        have ea : f_X3_addRowOfOne (N + 3000) s (t 8 (5 * j + e)) (nI y) = some (-3, s) := by
          unfold f_X3_addRowOfOne f_X3_add
          rw [f2, hv]
          rfl
        refine ⟨-3, s, t, ?_, ?_, by decide, hIv⟩
        · unfold f_X5_takeFor
          simp only [ym1, ym3, zi, ci, e13, e14, c9', g1, er, ea, zq_t, zbd_s, if_true, if_false, n1z]
        · unfold f_X6_given
          simp only [ym1, ym3, zi, ci, c9', g2, e15, zq_t, zbd_s, if_true, if_false, n1z]
      · right
        have hv : v < 100 := by omega
        have e15 : (t 15 0 = nI 100) = False := eq_false (by rw [f3]; exact fun q => absurd (nI_inj (by omega) (by omega) q) (by omega))
        have er : ∃ b, f_X3_isRowOf (N + 3000) s (nI y) (t 8 (5 * j + e)) = some b := by
          rcases c_rof (M := N + 3000) hE hy (t 8 (5 * j + e)) with ⟨q, -⟩ | ⟨q, -⟩
          · exact ⟨_, q⟩
          · exact ⟨_, q⟩
        obtain ⟨b, er⟩ := er
        have vm3 : (nI v = -3) = False := eq_false (m3_ne (by omega))
        -- the class
        have ec : f_X5_takeFor (N + 3000) s (nI (5 * j + e)) (nI y) = some (nI v, zup (zup (zup (zup (zup (adS s v (nI 1) (t 8 (5 * j + e)) (nI 0)) 24 (5 * v) (nI y)) 22 v (nI (0 + 1))) 23 y (dn1 (t 16) y)) 1 0 (nI 0)) 23 v (nI 1)) := by
          have ea : f_X3_addRowOfOne (N + 3000) s (t 8 (5 * j + e)) (nI y) = some (nI v, zup (zup (zup (adS s v (nI 1) (t 8 (5 * j + e)) (nI 0)) 24 (5 * v) (nI y)) 22 v (nI (0 + 1))) 23 y (dn1 (t 16) y)) := by
            unfold f_X3_addRowOfOne
            rw [e_addS f2 hv, zbd_s]
            simp only [vm3, if_false]
            unfold f_X3_append
            have e22 : (adS s v (nI 1) (t 8 (5 * j + e)) (nI 0)) 22 v = nI 0 := by
              show upd (s 22) v (nI 0) v = _
              rw [upd_s]
            rw [zin_t (show v < 100 by omega), zcl (n := v) (by omega), e22, pk_mul, nI_add, nI_add, show v * 5 + 0 = 5 * v by omega, zin_t (show 5 * v < 500 by omega), zcl (n := 5 * v) (by omega)]
            simp only [zq_t]
            obtain ⟨w1, -⟩ := e_fin (M := N + 3000) (S := zup (zup (adS s v (nI 1) (t 8 (5 * j + e)) (nI 0)) 24 (5 * v) (nI y)) 22 v (nI (0 + 1))) (T := t) (y := y) (by omega) (by show upd (s 20) v _ y = _; rw [upd_n _ _ (by omega)]; exact y16)
            rw [w1, zbd_s, zbd_s]
          have w : f_X3_finish (N + 3000) (zup (zup (zup (zup (adS s v (nI 1) (t 8 (5 * j + e)) (nI 0)) 24 (5 * v) (nI y)) 22 v (nI (0 + 1))) 23 y (dn1 (t 16) y)) 1 0 (nI 0)) (nI v) = some (zup (zup (zup (zup (zup (adS s v (nI 1) (t 8 (5 * j + e)) (nI 0)) 24 (5 * v) (nI y)) 22 v (nI (0 + 1))) 23 y (dn1 (t 16) y)) 1 0 (nI 0)) 23 v (nI 1)) := by
            unfold f_X3_finish
            have e20 : (zup (zup (zup (zup (adS s v (nI 1) (t 8 (5 * j + e)) (nI 0)) 24 (5 * v) (nI y)) 22 v (nI (0 + 1))) 23 y (dn1 (t 16) y)) 1 0 (nI 0)) 20 v = nI 1 := by
              show upd (s 20) v (nI 1) v = _
              rw [upd_s]
            rw [zin_t hv, zcl (n := v) (by omega), e20, zq_t, zq_t, zq_t, if_neg b_10, show zbn 1 (nI 1) = nI 1 by decide]
          unfold f_X5_takeFor
          simp only [ym1, ym3, zi, ci, e13, e14, c9', g1, er, ea, zq_t, zbd_s, if_true, if_false, n1z, vm3, w]
        -- the reference
        have em : f_X6_given (N + 3000) t (nI (5 * j + e)) (nI y) = some (nI v, zup (zup (zup (zup (adT t v (nI 1) (t 8 (5 * j + e)) (nI 1)) 20 (5 * v) (nI y)) 19 y (dn1 (t 16) y)) 19 v (nI 1)) 21 0 (nI 0)) := by
          have w1 : f_X6_done (N + 3000) (zup (adT t v (nI 1) (t 8 (5 * j + e)) (nI 1)) 20 (5 * v) (nI y)) (nI y) = some (zup (zup (adT t v (nI 1) (t 8 (5 * j + e)) (nI 1)) 20 (5 * v) (nI y)) 19 y (dn1 (t 16) y)) := by
            have e16 : (zup (adT t v (nI 1) (t 8 (5 * j + e)) (nI 1)) 20 (5 * v) (nI y)) 16 y = t 16 y := by
              show upd (t 16) v _ y = _
              rw [upd_n _ _ (by omega)]
            unfold f_X6_done dn1
            rw [zy, cy, e16, zq_t, zq_t, zq_t, show zbn 1 (nI 1) = nI 1 by decide, show zbn 1 (nI 0) = nI 0 by decide]
            by_cases c : t 16 y = nI 0
            · rw [if_pos c, if_pos (show t 16 y = 0 from c)]
            · rw [if_neg c, if_neg (show ¬ t 16 y = 0 from c)]
          have w2 : f_X6_done (N + 3000) (zup (zup (adT t v (nI 1) (t 8 (5 * j + e)) (nI 1)) 20 (5 * v) (nI y)) 19 y (dn1 (t 16) y)) (nI v) = some (zup (zup (zup (adT t v (nI 1) (t 8 (5 * j + e)) (nI 1)) 20 (5 * v) (nI y)) 19 y (dn1 (t 16) y)) 19 v (nI 1)) := by
            have e16 : (zup (zup (adT t v (nI 1) (t 8 (5 * j + e)) (nI 1)) 20 (5 * v) (nI y)) 19 y (dn1 (t 16) y)) 16 v = nI 1 := by
              show upd (t 16) v (nI 1) v = _
              rw [upd_s]
            unfold f_X6_done
            rw [zin_t hv, zcl (n := v) (by omega), e16, zq_t, zq_t, zq_t, if_neg b_10, show zbn 1 (nI 1) = nI 1 by decide]
          have ea := e_addT (N := N + 2994) f3 hv (nI 1) (t 8 (5 * j + e)) (nI 1)
          have z5 : zin (nI (5 * v)) 500 = true := zin_t (by omega)
          have c5 : (nI (5 * v)).toNatClampNeg = 5 * v := zcl (by omega)
          unfold f_X6_given f_X6_good
          simp only [ym1, ym3, zi, ci, c9', g2, e15, zq_t, zbd_s, if_true, if_false, n1z, ea, pk_mul, z5, c5, w1, w2]
        have hn := inv_new h hv (nI 1) (t 8 (5 * j + e)) (t 8 (5 * j + e)) (nI 0) (s 10) (Or.inr (Or.inl ⟨rfl, k1, rfl, rfl, rfl⟩)) (S := adS s v (nI 1) (t 8 (5 * j + e)) (nI 0)) rfl (fun _ _ => rfl)
        have t16y : (adT t v (nI 1) (t 8 (5 * j + e)) (nI 0)) 16 y = t 16 y := by
          show upd (t 16) v _ y = _
          rw [upd_n _ _ (by omega)]
        have dny : dn1 ((adT t v (nI 1) (t 8 (5 * j + e)) (nI 0)) 16) y = dn1 (t 16) y := by
          unfold dn1
          rw [t16y]
        have t17y : (adT t v (nI 1) (t 8 (5 * j + e)) (nI 0)) 17 y = t 17 y := by
          show upd (t 17) v _ y = _
          rw [upd_n _ _ (by omega)]
        have hp := inv_push hn (r := v) (y := y) (n := 0) (by omega) (by omega) (by show upd (t 16) v _ v = _; rw [upd_s]) (by show upd (t 19) v _ v = _; rw [upd_s]) (by show upd (t 18) v _ v = _; rw [upd_s]) (by omega) (by show upd (t 19) v _ y = _; rw [upd_n _ _ (by omega)]; exact y19) (by
            unfold isK
            rw [t16y, t17y, show (adT t v (nI 1) (t 8 (5 * j + e)) (nI 0)) 17 v = t 8 (5 * j + e) from upd_s _ _ _]
            exact g3) (S := zup (zup (zup (adS s v (nI 1) (t 8 (5 * j + e)) (nI 0)) 24 (5 * v) (nI y)) 22 v (nI (0 + 1))) 23 y (dn1 (t 16) y)) (T := zup (zup (adT t v (nI 1) (t 8 (5 * j + e)) (nI 1)) 20 (5 * v) (nI y)) 19 y (dn1 (t 16) y)) (fun r _ _ h2 h3 h4 => by rw [zup_n _ _ _ h3, zup_n _ _ _ h2, zup_n _ _ _ h4]) (fun r h0 h1 h2 _ _ _ => by
              rw [zup_n _ _ _ h1, zup_n _ _ _ h2]
              unfold adT
              by_cases c15 : r = 15
              · subst c15
                rfl
              · rw [zup_n _ _ _ c15, zup_n _ _ _ h2, zup_n _ _ _ h2, zup_n _ _ _ h2, zup_n _ _ _ h2, zup_n _ _ _ h2, zup_n _ _ _ h1, zup_n _ _ _ h0, zup_n _ _ _ c15, zup_n _ _ _ h2, zup_n _ _ _ h2, zup_n _ _ _ h2, zup_n _ _ _ h2, zup_n _ _ _ h2, zup_n _ _ _ h1, zup_n _ _ _ h0]) rfl (by rw [dny]; rfl) rfl (by
              funext i
              show upd (t 18) v (nI 1) i = upd (upd (t 18) v (nI 0)) v (nI (0 + 1)) i
              by_cases c : i = v
              · rw [c, upd_s, upd_s]
              · rw [upd_n _ _ c, upd_n _ _ c, upd_n _ _ c]) (by rw [dny]; rfl) rfl hJ
        have hd := inv_done hp (y := v) (by omega) (by show upd (upd (t 19) v (nI 0)) y _ v = _; rw [upd_n _ _ (by omega), upd_s]) (S := zup (zup (zup (zup (zup (adS s v (nI 1) (t 8 (5 * j + e)) (nI 0)) 24 (5 * v) (nI y)) 22 v (nI (0 + 1))) 23 y (dn1 (t 16) y)) 1 0 (nI 0)) 23 v (nI 1)) (T := zup (zup (zup (zup (adT t v (nI 1) (t 8 (5 * j + e)) (nI 1)) 20 (5 * v) (nI y)) 19 y (dn1 (t 16) y)) 19 v (nI 1)) 21 0 (nI 0)) (fun r h1 h2 => by rw [zup_n _ _ _ h2, zup_n _ _ _ h1]) (fun r h1 h2 _ => by rw [zup_n _ _ _ h2, zup_n _ _ _ h1]) (by
            have : dn1 ((zup (zup (adT t v (nI 1) (t 8 (5 * j + e)) (nI 1)) 20 (5 * v) (nI y)) 19 y (dn1 (t 16) y)) 16) v = nI 1 := by
              unfold dn1
              rw [if_neg]
              show ¬ upd (t 16) v (nI 1) v = _
              rw [upd_s]
              decide
            rw [this]
            rfl) (by
            have : dn1 ((zup (zup (adT t v (nI 1) (t 8 (5 * j + e)) (nI 1)) 20 (5 * v) (nI y)) 19 y (dn1 (t 16) y)) 16) v = nI 1 := by
              unfold dn1
              rw [if_neg]
              show ¬ upd (t 16) v (nI 1) v = _
              rw [upd_s]
              decide
            rw [this]
            rfl) rfl
        refine ⟨y, v + 1, v, _, _, hy, rfl, ec, em, hd, by omega, by omega, Or.inl ⟨c9, upd_s _ _ _, upd_s _ _ _⟩, Or.inr (upd_s _ _ _), ?_, ?_, Or.inr ⟨rfl, rfl, upd_s _ _ _, upd_s _ _ _, upd_s _ _ _⟩⟩
        · intro r hr
          unfold adT
          rw [zup_n _ _ _ (by omega), zup_n _ _ _ (by omega), zup_n _ _ _ (by omega), zup_n _ _ _ (by omega), zup_n _ _ _ (by omega), zup_n _ _ _ (by omega), zup_n _ _ _ (by omega), zup_n _ _ _ (by omega), zup_n _ _ _ (by omega), zup_n _ _ _ (by omega), zup_n _ _ _ (by omega), zup_n _ _ _ (by omega), zup_n _ _ _ (by omega), zup_n _ _ _ (by omega)]
        · intro x hx
          refine ⟨upd_n _ _ (by omega), upd_n _ _ (by omega), upd_n _ _ (by omega), fun c => ?_, fun e' he' => ?_⟩
          · show upd (upd (upd (t 19) v _) y _) v _ x = _
            rw [upd_n _ _ (by omega), upd_n _ _ c, upd_n _ _ (by omega)]
          · show upd (ch5 (t 20) v) (5 * v) _ (5 * x + e') = _
            rw [upd_n _ _ (by omega), ch5_n (by omega)]
    · rcases c_rof (M := N + 3000) hE hy (t 8 (5 * j + e)) with ⟨r1, r2, r3⟩ | ⟨r1, r2⟩
      · right
        have r2' : (t 16 y = nI 1) = True := eq_true r2
        have r3' : (t 17 y = t 8 (5 * j + e)) = True := eq_true r3
        refine asis (Or.inl ⟨c9, r2, r3⟩) ?_ ?_
        · unfold f_X5_takeFor
          simp only [ym1, ym3, zi, ci, e13, e14, c9', g1, r1, zq_t, zbd_s, if_true, if_false, n1z, n0z]
        · unfold f_X6_given
          simp only [ym1, ym3, zi, ci, zy, cy, c9', g2, zq_t, zbd_s, if_true, if_false, n1z, n0z, r2', r3']
      · left
        refine bad ?_ ?_
        · unfold f_X5_takeFor
          simp only [ym1, ym3, zi, ci, e13, e14, c9', g1, r1, zq_t, zbd_s, if_true, if_false, n1z, n0z]
        · unfold f_X6_given
          simp only [ym1, ym3, zi, ci, zy, cy, c9', g2, zq_t, zbd_s, if_true, if_false, n1z, n0z]
          by_cases c16 : t 16 y = nI 1
          · rw [if_pos c16, if_neg (fun q => r2 ⟨c16, q⟩)]
          · rw [if_neg c16]
