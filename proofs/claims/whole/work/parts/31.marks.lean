/-! mark, place. -/
theorem iB_m {m : Nat} {el en ek co cd : Nat → Int32} (hm : m < 12) (h : iB m el en ek co cd) : iB (m + 1) el en ek co cd := by
  obtain ⟨h1, h2, h3, h4, h5, h6, h7⟩ := h
  have h0 : enn el m = 0 := enn_of (h2 m (Nat.le_refl m) hm).1 (by omega)
  refine ⟨h1, fun j a b => h2 j (by omega) b, fun j a => ?_, fun j a => ?_, fun j e a b => ?_, fun j e e' a b c d => ?_, h7⟩
  · rcases h3 j a with q | ⟨c, q1, q2⟩
    · exact Or.inl q
    · exact Or.inr ⟨c, by omega, q2⟩
  · rcases h4 j a with q | ⟨c, q1, q2⟩
    · exact Or.inl q
    · exact Or.inr ⟨c, by omega, q2⟩
  · by_cases hj : j = m
    · subst hj; omega
    · obtain ⟨k1, k2⟩ := h5 j e (by omega) b
      refine ⟨?_, k2⟩
      rcases k1 with q | ⟨c, q1, q2⟩
      · exact Or.inl q
      · exact Or.inr ⟨c, by omega, q2⟩
  · by_cases hj : j = m
    · subst hj; omega
    · exact h6 j e e' (by omega) b c d
theorem kOK_m {m : Nat} {k : Int32} (h : kOK m k) : kOK (m + 1) k := by
  rcases h with q | ⟨c, q1, q2⟩
  · exact Or.inl q
  · exact Or.inr ⟨c, by omega, q2⟩
theorem iF_m {m v : Nat} {t6 t8 t9 t16 t17 t18 t19 t20 : Nat → Int32} (h : iF m v t6 t8 t9 t16 t17 t18 t19 t20) : iF (m + 1) v t6 t8 t9 t16 t17 t18 t19 t20 := by
  intro x hx
  obtain ⟨d, q⟩ := h x hx
  refine ⟨d, ?_⟩
  rcases q with q | ⟨a, b, c⟩ | ⟨a, j, b, c⟩
  · exact Or.inl q
  · exact Or.inr (Or.inl ⟨a, kOK_m b, c⟩)
  · exact Or.inr (Or.inr ⟨a, j, by omega, c⟩)
theorem iG_m {m v : Nat} {s15 t6 t8 t9 t10 t16 t17 t18 t19 t20 : Nat → Int32} (h0 : enn t6 m = 0) (h : iG m v s15 t6 t8 t9 t10 t16 t17 t18 t19 t20) : iG (m + 1) v s15 t6 t8 t9 t10 t16 t17 t18 t19 t20 := by
  refine ⟨fun j e a b => ?_, h.2⟩
  by_cases hj : j = m
  · subst hj; omega
  · exact h.1 j e (by omega) b
theorem o_mark {M : Nat} {s t : zS} (h : Iv s t) (x1 x2 x3 : Int32) : ∃ r s' t', f_X5_mark M s x1 x2 x3 = some (r, s') ∧ f_X6_mark M t x1 x2 x3 = some (r, t') ∧ Iv s' t' := by
  obtain ⟨m, p, v, u, hA, hB, hC, hD, hE, hF, hG, hH, hJ, hK⟩ := id h
  obtain ⟨a1, a2, a3, a4, a5, a6, a7, a8, a9, a10, a11, a12⟩ := id hA
  unfold f_X5_mark f_X6_mark
  by_cases c1 : x1 < 0
  · exact ⟨-2, s, t, by rw [if_pos c1], by rw [if_pos c1], h⟩
  by_cases c2 : nI 31 < x1
  · exact ⟨-2, s, t, by rw [if_neg c1, if_pos c2], by rw [if_neg c1, if_pos c2], h⟩
  by_cases c3 : x2 < 0
  · exact ⟨-2, s, t, by rw [if_neg c1, if_neg c2, if_pos c3], by rw [if_neg c1, if_neg c2, if_pos c3], h⟩
  by_cases c4 : nI 2 < x2
  · exact ⟨-2, s, t, by rw [if_neg c1, if_neg c2, if_neg c3, if_pos c4], by rw [if_neg c1, if_neg c2, if_neg c3, if_pos c4], h⟩
  rw [if_neg c1, if_neg c2, if_neg c3, if_neg c4, if_neg c1, if_neg c2, if_neg c3, if_neg c4]
  unfold f_X0_add
  rw [a2, a3]
  by_cases hm : m = 12
  · subst hm
    rw [if_neg (by decide), if_pos rfl]
    exact ⟨-3, s, t, rfl, rfl, h⟩
  have hm' : m < 12 := by omega
  rw [if_pos (nI_lt hm' (by omega)), if_neg (fun q => hm (nI_inj (by omega) (by omega) q)), zin_t hm', zcl (by omega), nI_add, nI_sub1]
  refine ⟨nI m, _, _, rfl, rfl, m + 1, p, v, u, ?_⟩
  unfold Inv
  have h0 : enn (t 6) m = 0 := enn_of (hB.2.1 m (Nat.le_refl m) hm').1 (by omega)
  have hL : iL (upd (t 2) m x2) (t 4) (t 5) (t 6) (t 7) (t 9) := by
    obtain ⟨l1, l2⟩ := hK.2.1
    refine ⟨fun j hj => ?_, fun j c hj hc e => ?_⟩
    · by_cases hjm : j = m
      · subst hjm
        rw [upd_s]
        rcases pk_ix x2 (n := 3) (by decide) with q | q | ⟨k, hk, e⟩
        · exact absurd q c3
        · exfalso
          apply c4
          rw [Int32.lt_iff_toInt_lt]
          rw [Int32.le_iff_toInt_le] at q
          have e3 : (nI 3).toInt = 3 := by decide
          have e2 : (nI 2).toInt = 2 := by decide
          omega
        · exact ⟨k, by omega, e⟩
      · rw [upd_n _ _ hjm]
        exact l1 j hj
    · have hcm : c < m := by
        rcases hB.2.2.1 j hj with q | ⟨c', q1, q2⟩
        · rw [q] at e
          exact absurd e.symm (nI_m1 (by omega))
        · have : c' = c := nI_inj (by omega) (by omega) (q2.symm.trans e)
          omega
      have hjm : j ≠ m := by
        intro q
        subst q
        rw [(hB.2.1 j (Nat.le_refl j) hj).2.1] at e
        exact absurd e.symm (nI_m1 (by omega))
      rw [upd_n _ _ (by omega), upd_n _ _ hjm]
      exact l2 j c hj hc e
  exact ⟨⟨by omega, rfl, rfl, zeq_upd a4 _ _, zeq_upd a5 _ _, zeq_upd a6 _ _, a7, a8, a9, a10, a11, a12⟩, iB_m hm' hB, hC, hD, hE, iF_m hF, iG_m h0 hG, hH, hJ, hK.1, hL, hK.2.2⟩
theorem bb_1 : (nI 1 &&& 1 == nI 1) = true := by decide
theorem bb_0 : (nI 0 &&& 1 == nI 0) = true := by decide
theorem zk6 {k : Nat} (h : k ≤ 5) : k = 0 ∨ k = 1 ∨ k = 2 ∨ k = 3 ∨ k = 4 ∨ k = 5 := by omega
theorem c_cls {M p : Nat} {s t : zS} (hD : iD p (s 16) (s 17) (s 18) (t 12) (t 13) (t 14)) (x : Int32) : (f_X1_isClass M s x = some (nI 1) ∧ f_X6_isAmong M t x (nI 0) (nI 0) = some (nI 1) ∧ ∃ j, j < p ∧ x = nI j ∧ t 13 j = nI 0) ∨ (f_X1_isClass M s x = some (nI 0) ∧ f_X6_isAmong M t x (nI 0) (nI 0) = some (nI 0)) := by
  unfold f_X1_isClass f_X6_isAmong
  rcases c_plc (M := M) hD x with ⟨a, b, j, hj, rfl⟩ | ⟨a, b, -⟩
  · obtain ⟨d1, d2, d3, d4, d5, d6⟩ := hD
    obtain ⟨k, hk, e, -⟩ := d6 j hj
    rw [a, b, zbd_s, zbd_s, if_neg b_10, if_neg b_10, zin_t (show j < 40 by omega), zcl (by omega), zq_t, zq_t, zq_t, d4 j (by omega), e]
    rcases zk6 hk with rfl | rfl | rfl | rfl | rfl | rfl
    · exact Or.inl ⟨rfl, by decide, j, hj, rfl, e⟩
    all_goals exact Or.inr ⟨by decide, by decide⟩
  · rw [a, b]
    exact Or.inr ⟨rfl, rfl⟩
theorem c_typ {M p : Nat} {s t : zS} (hD : iD p (s 16) (s 17) (s 18) (t 12) (t 13) (t 14)) (x : Int32) : (f_X1_isType M s x = some (nI 1) ∧ f_X6_isType M t x = some (nI 1) ∧ ∃ j, j < p ∧ x = nI j) ∨ (f_X1_isType M s x = some (nI 0) ∧ f_X6_isType M t x = some (nI 0)) := by
  unfold f_X1_isType f_X6_isType f_X6_isAmong
  rcases c_plc (M := M) hD x with ⟨a, b, j, hj, rfl⟩ | ⟨a, b, -⟩
  · obtain ⟨d1, d2, d3, d4, d5, d6⟩ := hD
    obtain ⟨k, hk, e, -⟩ := d6 j hj
    rw [a, b, zbd_s, zbd_s, if_neg b_10, if_neg b_10, zin_t (show j < 40 by omega), zcl (by omega), zq_t, zq_t, zq_t, zq_t, d4 j (by omega), e]
    rcases zk6 hk with rfl | rfl | rfl | rfl | rfl | rfl
    · exact Or.inl ⟨rfl, by decide, j, hj, rfl⟩
    · exact Or.inl ⟨by decide, by decide, j, hj, rfl⟩
    all_goals exact Or.inr ⟨by decide, by decide⟩
  · rw [a, b]
    exact Or.inr ⟨rfl, rfl⟩
theorem c_mth {M p : Nat} {s t : zS} (hD : iD p (s 16) (s 17) (s 18) (t 12) (t 13) (t 14)) (x : Int32) : (f_X1_isMethod M s x = some (nI 1) ∧ f_X6_isAmong M t x (nI 3) (nI 4) = some (nI 1)) ∨ (f_X1_isMethod M s x = some (nI 0) ∧ f_X6_isAmong M t x (nI 3) (nI 4) = some (nI 0)) := by
  unfold f_X1_isMethod f_X6_isAmong
  rcases c_plc (M := M) hD x with ⟨a, b, j, hj, rfl⟩ | ⟨a, b, -⟩
  · obtain ⟨d1, d2, d3, d4, d5, d6⟩ := hD
    obtain ⟨k, hk, e, -⟩ := d6 j hj
    rw [a, b, zbd_s, zbd_s, if_neg b_10, if_neg b_10, zin_t (show j < 40 by omega), zcl (by omega), zq_t, zq_t, zq_t, zq_t, d4 j (by omega), e]
    rcases zk6 hk with rfl | rfl | rfl | rfl | rfl | rfl
    · exact Or.inr ⟨by decide, by decide⟩
    · exact Or.inr ⟨by decide, by decide⟩
    · exact Or.inr ⟨by decide, by decide⟩
    · exact Or.inl ⟨by decide, by decide⟩
    · exact Or.inl ⟨by decide, by decide⟩
    · exact Or.inr ⟨by decide, by decide⟩
  · rw [a, b]
    exact Or.inr ⟨rfl, rfl⟩
/-- a PLACE that may come, comes alike -/
theorem c_plus {M p : Nat} {s t : zS} (h : Iv s t) (x1 x2 : Int32) (k : Nat) (hk : k ≤ 5) (e : x1 = nI k) (hp : k = 0 → x2 = -1 ∨ ∀ p, iD p (s 16) (s 17) (s 18) (t 12) (t 13) (t 14) → ∃ q, q < p ∧ x2 = nI q ∧ t 13 q = nI 0) : ∃ r s' t', f_X1_add M s x1 x2 = some (r, s') ∧ (if (t 12 0) = (nI 40) then some ((-3), t) else zq (zin (t 12 0) 40) <| zq (zin (t 12 0) 40) <| some (((t 12 0) + (nI 1)) - (nI 1), zup (zup (zup t 13 (t 12 0).toNatClampNeg x1) 14 (t 12 0).toNatClampNeg x2) 12 0 ((t 12 0) + (nI 1)))) = some (r, t') ∧ Iv s' t' := by
  obtain ⟨m, p, v, u, hA, hB, hC, hD, hE, hF, hG, hH, hJ, hK⟩ := id h
  have hp := fun q => (hp q).imp id (fun z => z p hD)
  obtain ⟨d1, d2, d3, d4, d5, d6⟩ := id hD
  unfold f_X1_add
  rw [d2, d3]
  by_cases hm : p = 40
  · subst hm
    rw [if_neg (by decide), if_pos rfl]
    exact ⟨-3, s, t, rfl, rfl, h⟩
  have hm' : p < 40 := by omega
  rw [if_pos (nI_lt hm' (by omega)), if_neg (fun q => hm (nI_inj (by omega) (by omega) q)), zin_t hm', zcl (by omega), nI_add, nI_sub1]
  refine ⟨nI p, _, _, rfl, rfl, m, p + 1, v, u, ?_⟩
  unfold Inv
  refine ⟨hA, hB, hC, ⟨by omega, rfl, rfl, zeq_upd d4 _ _, zeq_upd d5 _ _, fun j hj => ?_⟩, hE, hF, hG, hH, hJ, hK⟩
  show ∃ k, k ≤ 5 ∧ upd (t 13) p x1 j = nI k ∧ (k = 0 → upd (t 14) p x2 j = -1 ∨ ∃ q, q < j ∧ upd (t 14) p x2 j = nI q ∧ upd (t 13) p x1 q = nI 0)
  by_cases hjp : j = p
  · subst hjp
    rw [upd_s, upd_s]
    refine ⟨k, hk, e, fun k0 => ?_⟩
    rcases hp k0 with q | ⟨q, q1, q2, q3⟩
    · exact Or.inl q
    · exact Or.inr ⟨q, q1, q2, by rw [upd_n _ _ (by omega)]; exact q3⟩
  · rw [upd_n _ _ hjp, upd_n _ _ hjp]
    obtain ⟨k', g1, g2, g3⟩ := d6 j (by omega)
    refine ⟨k', g1, g2, fun k0 => ?_⟩
    rcases g3 k0 with q | ⟨q, q1, q2, q3⟩
    · exact Or.inl q
    · exact Or.inr ⟨q, q1, q2, by rw [upd_n _ _ (by omega)]; exact q3⟩
theorem iD_p {p p' : Nat} {s t : zS} (h : iD p (s 16) (s 17) (s 18) (t 12) (t 13) (t 14)) (h' : iD p' (s 16) (s 17) (s 18) (t 12) (t 13) (t 14)) : p = p' := nI_inj (by have := h.1; omega) (by have := h'.1; omega) (h.2.1.symm.trans h'.2.1)
theorem o_place {M : Nat} {s t : zS} (h : Iv s t) (x1 x2 : Int32) : ∃ r s' t', f_X5_place M s x1 x2 = some (r, s') ∧ f_X6_place M t x1 x2 = some (r, t') ∧ Iv s' t' := by
  obtain ⟨m, p, v, u, hA, hB, hC, hD, -⟩ := id h
  have bad : ∀ {A B : Option (Int32 × zS)}, A = some (-2, s) → B = some (-2, t) → ∃ r s' t', A = some (r, s') ∧ B = some (r, t') ∧ Iv s' t' := fun a b => ⟨-2, s, t, a, b, h⟩
  have good := @c_plus M p s t h x1 x2
  unfold f_X5_place f_X1_fits f_X6_place
  by_cases c0 : x1 = nI 0
  · have c0' : x1 = 0 := c0
    rw [if_pos c0, if_pos c0']
    by_cases c : x2 = -1
    · rw [if_pos c, if_pos c, zbd_s, if_neg b_10]
      obtain ⟨r, s', t', g1, g2, g3⟩ := good 0 (by omega) c0 (fun _ => Or.inl c)
      exact ⟨r, s', t', by rw [g1]; rfl, g2, g3⟩
    · rw [if_neg c, if_neg c]
      rcases c_cls (M := M) hD x2 with ⟨a, b, j, hj, e1, e2⟩ | ⟨a, b⟩
      · rw [a, b, zbd_s, zbd_s, if_neg b_10, if_neg b_10, zbd_s, if_neg b_10]
        obtain ⟨r, s', t', g1, g2, g3⟩ := good 0 (by omega) c0 (fun _ => Or.inr (fun p' hp' => by rw [← iD_p hD hp']; exact ⟨j, hj, e1, e2⟩))
        exact ⟨r, s', t', by rw [g1]; rfl, g2, g3⟩
      · rw [a, b]
        exact bad rfl rfl
  have n0 : ¬ x1 = 0 := c0
  rw [if_neg c0, if_neg n0]
  by_cases c1 : x1 = nI 1
  · rw [if_pos c1, if_pos c1]
    by_cases c : x2 = -1
    · rw [if_pos c, if_pos c, zbd_s, if_neg b_10]
      obtain ⟨r, s', t', g1, g2, g3⟩ := good 1 (by omega) c1 (fun q => by cases q)
      exact ⟨r, s', t', by rw [g1]; rfl, g2, g3⟩
    · rw [if_neg c, if_neg c]
      exact bad rfl rfl
  rw [if_neg c1, if_neg c1]
  have typ : ∀ k, 2 ≤ k → k ≤ 4 → x1 = nI k → ∃ r s' t', zbd (zbd (f_X1_isType M s x2) (fun q => zq (q &&& 1 == q) <| some q)) (fun q1 => if q1 = 0 then some ((-2), s) else zbd (f_X1_add M s x1 x2) (fun q2 => some (q2.1, q2.2))) = some (r, s') ∧ zbd (f_X6_isType M t x2) (fun q4 => if q4 = 0 then some ((-2), t) else (if (t 12 0) = (nI 40) then some ((-3), t) else zq (zin (t 12 0) 40) <| zq (zin (t 12 0) 40) <| some (((t 12 0) + (nI 1)) - (nI 1), zup (zup (zup t 13 (t 12 0).toNatClampNeg x1) 14 (t 12 0).toNatClampNeg x2) 12 0 ((t 12 0) + (nI 1))))) = some (r, t') ∧ Iv s' t' := by
    intro k k1 k2 e
    rcases c_typ (M := M) hD x2 with ⟨a, b, j, hj, e1⟩ | ⟨a, b⟩
    · rw [a, b, zbd_s, zbd_s, if_neg b_10, bb_1, zq_t, zbd_s, if_neg b_10]
      obtain ⟨r, s', t', g1, g2, g3⟩ := good k (by omega) e (fun q => by omega)
      exact ⟨r, s', t', by rw [g1]; rfl, g2, g3⟩
    · rw [a, b]
      exact bad rfl rfl
  by_cases c2 : x1 = nI 2
  · obtain ⟨r, s', t', g1, g2, g3⟩ := typ 2 (by omega) (by omega) c2
    refine ⟨r, s', t', by rw [if_pos c2]; exact g1, ?_, g3⟩
    rw [if_neg (by rw [c2]; decide), if_neg (by rw [c2]; decide)]
    exact g2
  rw [if_neg c2]
  by_cases c3 : x1 = nI 3
  · obtain ⟨r, s', t', g1, g2, g3⟩ := typ 3 (by omega) (by omega) c3
    refine ⟨r, s', t', by rw [if_pos c3]; exact g1, ?_, g3⟩
    rw [if_neg (by rw [c3]; decide), if_neg (by rw [c3]; decide)]
    exact g2
  rw [if_neg c3]
  by_cases c4 : x1 = nI 4
  · obtain ⟨r, s', t', g1, g2, g3⟩ := typ 4 (by omega) (by omega) c4
    refine ⟨r, s', t', by rw [if_pos c4]; exact g1, ?_, g3⟩
    rw [if_neg (by rw [c4]; decide), if_neg (by rw [c4]; decide)]
    exact g2
  rw [if_neg c4]
  by_cases c5 : x1 = nI 5
  · rw [if_pos c5, if_neg (by rw [c5]; decide), if_pos (by rw [c5]; decide), if_pos c5]
    rcases c_mth (M := M) hD x2 with ⟨a, b⟩ | ⟨a, b⟩
    · rw [a, b, zbd_s, zbd_s, if_neg b_10, bb_1, zq_t, zbd_s, if_neg b_10]
      obtain ⟨r, s', t', g1, g2, g3⟩ := good 5 (by omega) c5 (fun q => by omega)
      exact ⟨r, s', t', by rw [g1]; rfl, g2, g3⟩
    · rw [a, b]
      exact bad rfl rfl
  rw [if_neg c5]
  refine bad rfl ?_
  by_cases c6 : x1 < nI 2
  · rw [if_pos c6, if_neg c5]
  · rw [if_neg c6]
    by_cases c7 : nI 4 < x1
    · rw [if_pos c7, if_neg c5]
    · exfalso
      have h5 : ∀ j, j < 5 → x1 ≠ nI j := by
        intro j hj
        rcases (show j = 0 ∨ j = 1 ∨ j = 2 ∨ j = 3 ∨ j = 4 by omega) with rfl | rfl | rfl | rfl | rfl
        · exact c0
        · exact c1
        · exact c2
        · exact c3
        · exact c4
      rcases zix_out (by decide) h5 with q | q
      · exact c6 (Int32.lt_trans q (by decide))
      · rw [Int32.lt_iff_toInt_lt] at q c7
        have e4 : (nI 4).toInt = 4 := by decide
        have e5 : (nI 5).toInt = 5 := by decide
        omega
