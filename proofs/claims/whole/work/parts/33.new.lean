/-! value, row, instance, cause, count, letter, stands. -/
theorem iA_m {m m' : Nat} {s t : zS} (h : iA m (s 2) (s 3) (s 4) (s 5) (s 6) (s 8) (s 9) (s 12) (s 13) (s 14) (t 0) (t 1) (t 2) (t 3) (t 6) (t 4) (t 5) (t 7) (t 8) (t 9)) (h' : iA m' (s 2) (s 3) (s 4) (s 5) (s 6) (s 8) (s 9) (s 12) (s 13) (s 14) (t 0) (t 1) (t 2) (t 3) (t 6) (t 4) (t 5) (t 7) (t 8) (t 9)) : m = m' := nI_inj (by have := h.1; omega) (by have := h'.1; omega) (h.2.1.symm.trans h'.2.1)
theorem zsa (x y : Int32) : x - y + y = x := Int32.sub_add_cancel x y
theorem c_kind {M m : Nat} {s t : zS} (hA : iA m (s 2) (s 3) (s 4) (s 5) (s 6) (s 8) (s 9) (s 12) (s 13) (s 14) (t 0) (t 1) (t 2) (t 3) (t 6) (t 4) (t 5) (t 7) (t 8) (t 9)) (x : Int32) : (f_X0_hasKind M s x = some (nI 1) ∧ f_X6_isKind M t x = some (nI 1) ∧ kOK m x) ∨ (f_X0_hasKind M s x = some (nI 0) ∧ f_X6_isKind M t x = some (nI 0) ∧ ¬ kOK m x) := by
  unfold f_X0_hasKind f_X6_isKind
  have hm := hA.1
  have key : (¬ x < 0 → nI 3 < x) → (zbd (f_X0_has M s (x - (nI 10))) (fun q1 => if q1 = 0 then some (nI 0) else some (nI 1)) = some (nI 1) ∧ zbd (f_X6_isMark M t (x - (nI 10))) (fun q1 => if q1 = 0 then some (nI 0) else some (nI 1)) = some (nI 1) ∧ kOK m x) ∨ (zbd (f_X0_has M s (x - (nI 10))) (fun q1 => if q1 = 0 then some (nI 0) else some (nI 1)) = some (nI 0) ∧ zbd (f_X6_isMark M t (x - (nI 10))) (fun q1 => if q1 = 0 then some (nI 0) else some (nI 1)) = some (nI 0) ∧ ¬ kOK m x) := by
    intro hlt
    rcases c_has (M := M) hA (x - nI 10) with ⟨a, b, j, hj, e⟩ | ⟨a, b, e⟩
    · rw [a, b]
      refine Or.inl ⟨rfl, rfl, Or.inr ⟨j, hj, ?_⟩⟩
      rw [← zsa x (nI 10), e, nI_add, Nat.add_comm]
    · rw [a, b]
      refine Or.inr ⟨rfl, rfl, fun q => ?_⟩
      rcases q with ⟨c, hc, rfl⟩ | ⟨c, hc, rfl⟩
      · have := hlt (nI_pos (by omega))
        rw [nI_ltI (by decide) (by omega)] at this
        omega
      · refine e c hc ?_
        rw [pk_sub (by omega), Nat.add_sub_cancel_left]
  by_cases c1 : x < 0
  · rw [if_pos c1, if_pos c1]
    exact key (fun q => absurd c1 q)
  · rw [if_neg c1, if_neg c1]
    by_cases c2 : nI 3 < x
    · rw [if_pos c2, if_pos c2]
      exact key (fun _ => c2)
    · rw [if_neg c2, if_neg c2]
      refine Or.inl ⟨rfl, rfl, Or.inl ?_⟩
      rcases pk_ix x (n := 4) (by decide) with h | h | h
      · exact absurd h c1
      · exfalso
        apply c2
        rw [Int32.lt_iff_toInt_lt]
        rw [Int32.le_iff_toInt_le] at h
        have e4 : (nI 4).toInt = 4 := by decide
        have e3 : (nI 3).toInt = 3 := by decide
        omega
      · exact h
theorem c_add {N : Nat} {s t : zS} (h : Iv s t) (so k nu : Int32) (hk : ∀ m, iA m (s 2) (s 3) (s 4) (s 5) (s 6) (s 8) (s 9) (s 12) (s 13) (s 14) (t 0) (t 1) (t 2) (t 3) (t 6) (t 4) (t 5) (t 7) (t 8) (t 9) → (so = nI 0 ∧ (∃ c, c < 4 ∧ k = nI c)) ∨ (so = nI 1 ∧ kOK m k ∧ nu = nI 0)) : ∃ r s' t', zbd (f_X3_add (N + 3000) s so k nu) (fun q2 => some (q2.1, q2.2)) = some (r, s') ∧ (if (t 15 0) = (nI 100) then some ((-3), t) else zbd (f_X6_added (N + 3000) t so k nu) (fun q => some (q.1, q.2))) = some (r, t') ∧ Iv s' t' := by
  obtain ⟨m, p, v, u, hI⟩ := id h
  obtain ⟨hA, hB, hC, hD, hE, -⟩ := id hI
  obtain ⟨e1, e2, e3, -⟩ := id hE
  by_cases hv : v = 100
  · subst hv
    unfold f_X3_add
    rw [e2, e3, if_neg (by decide), if_pos rfl]
    exact ⟨-3, s, t, rfl, rfl, h⟩
  · have hv : v < 100 := by omega
    rw [e_addS e2 hv, e3, if_neg (fun q => absurd (nI_inj (by omega) (by omega) q) (by omega)), e_addT (N := N + 2994) e3 hv]
    refine ⟨nI v, _, _, rfl, rfl, m, p, v + 1, u, inv_new hI hv so k k nu (s 10) ?_ rfl (fun _ _ => rfl)⟩
    rcases hk m hA with ⟨a, b⟩ | ⟨a, b, c⟩
    · exact Or.inl ⟨a, b, rfl, rfl⟩
    · exact Or.inr (Or.inl ⟨a, b, c, rfl, rfl⟩)
theorem o_row {N : Nat} {s t : zS} (h : Iv s t) (x1 : Int32) : ∃ r s' t', f_X5_row (N + 3000) s x1 = some (r, s') ∧ f_X6_row (N + 3000) t x1 = some (r, t') ∧ Iv s' t' := by
  obtain ⟨m, p, v, u, hA, -⟩ := id h
  unfold f_X5_row f_X6_row
  rcases c_kind (M := N + 3000) hA x1 with ⟨a, b, c⟩ | ⟨a, b, -⟩
  · rw [a, b, zbd_s, zbd_s, if_neg b_10, if_neg b_10]
    exact c_add h (nI 1) x1 (nI 0) (fun m' hm' => Or.inr ⟨rfl, by rw [← iA_m hA hm']; exact c, rfl⟩)
  · rw [a, b]
    exact ⟨-2, s, t, rfl, rfl, h⟩
theorem o_value {N : Nat} {s t : zS} (h : Iv s t) (x1 x2 : Int32) : ∃ r s' t', f_X5_value (N + 3000) s x1 x2 = some (r, s') ∧ f_X6_value (N + 3000) t x1 x2 = some (r, t') ∧ Iv s' t' := by
  obtain ⟨m, p, v, u, hA, hB, hC, hD, -⟩ := id h
  have bad : ∀ {A B : Option (Int32 × zS)}, A = some (-2, s) → B = some (-2, t) → ∃ r s' t', A = some (r, s') ∧ B = some (r, t') ∧ Iv s' t' := fun a b => ⟨-2, s, t, a, b, h⟩
  have good : ∀ c, c < 4 → x1 = nI c → _ := fun c hc e => c_add (N := N) h (nI 0) x1 x2 (fun m' hm' => Or.inl ⟨rfl, c, hc, e⟩)
  unfold f_X5_value f_X5_isSimple f_X6_value
  by_cases c0 : x1 = nI 0
  · have c0' : x1 = 0 := c0
    rw [if_pos c0, if_pos c0', zbd_s, if_neg b_10]
    exact good 0 (by omega) c0
  have n0 : ¬ x1 = 0 := c0
  by_cases c1 : x1 = nI 1
  · have e2 : ¬ x1 = nI 2 := by rw [c1]; decide
    have e3 : ¬ x1 = nI 3 := by rw [c1]; decide
    by_cases d1 : x2 < 0
    · simp only [if_neg c0, if_neg n0, if_pos c1, if_pos d1, if_neg e2, if_neg e3]
      exact bad rfl rfl
    by_cases d2 : nI 99 < x2
    · simp only [if_neg c0, if_neg n0, if_pos c1, if_neg d1, if_pos d2, if_neg e2, if_neg e3]
      exact bad rfl rfl
    simp only [if_neg c0, if_neg n0, if_pos c1, if_neg d1, if_neg d2, zbd_s, if_neg b_10]
    exact good 1 (by omega) c1
  by_cases c2 : x1 = nI 2
  · have e3 : ¬ x1 = nI 3 := by rw [c2]; decide
    by_cases d1 : x2 < 0
    · simp only [if_neg c0, if_neg n0, if_neg c1, if_pos c2, if_pos d1, if_neg e3]
      exact bad rfl rfl
    by_cases d2 : nI 4 < x2
    · simp only [if_neg c0, if_neg n0, if_neg c1, if_pos c2, if_neg d1, if_pos d2, if_neg e3]
      exact bad rfl rfl
    simp only [if_neg c0, if_neg n0, if_neg c1, if_pos c2, if_neg d1, if_neg d2, zbd_s, if_neg b_10]
    exact good 2 (by omega) c2
  by_cases c3 : x1 = nI 3
  · simp only [if_neg c0, if_neg n0, if_neg c1, if_neg c2, if_pos c3]
    rcases c_typ (M := N + 3000) hD x2 with ⟨a, b, j, hj, e1⟩ | ⟨a, b⟩
    · rw [a, b, zbd_s, zbd_s, if_neg b_10, bb_1, zq_t, zbd_s, if_neg b_10]
      exact good 3 (by omega) c3
    · rw [a, b]
      exact bad rfl rfl
  simp only [if_neg c0, if_neg n0, if_neg c1, if_neg c2, if_neg c3]
  exact bad rfl rfl
theorem o_instance {N : Nat} {s t : zS} (h : Iv s t) (x1 : Int32) : ∃ r s' t', f_X5_instance (N + 3000) s x1 = some (r, s') ∧ f_X6_instance (N + 3000) t x1 = some (r, t') ∧ Iv s' t' := by
  obtain ⟨m, p, v, u, hI⟩ := id h
  obtain ⟨hA, hB, hC, hD, hE, -⟩ := id hI
  obtain ⟨e1, e2, e3, -⟩ := id hE
  have hm := hA.1
  unfold f_X5_instance f_X6_instance
  rcases c_has (M := N + 3000) hA x1 with ⟨a, b, j, hj, rfl⟩ | ⟨a, b, -⟩
  · rw [a, b, zbd_s, zbd_s, if_neg b_10, if_neg b_10]
    by_cases hv : v = 100
    · subst hv
      unfold f_X3_add
      rw [e2, e3, if_neg (by decide), if_pos rfl]
      exact ⟨-3, s, t, rfl, rfl, h⟩
    · have hv : v < 100 := by omega
      rw [e_addS e2 hv, e3, if_neg (fun q => absurd (nI_inj (by omega) (by omega) q) (by omega)), e_addT (N := N + 2994) e3 hv, zbd_s]
      have hne : ¬ nI v = -3 := by
        intro q
        have h1 := nI_toInt (n := v) (by omega)
        rw [q] at h1
        have h2 : (-3 : Int32).toInt = -3 := by decide
        omega
      rw [if_neg hne, zin_t (by omega), zcl (by omega), zq_t]
      refine ⟨nI v, _, _, rfl, rfl, m, p, v + 1, u, inv_new hI hv (nI 2) (nI j) (nI 10 + nI j) (nI 0) (upd (s 10) j (nI 1)) (Or.inr (Or.inr ⟨rfl, rfl, j, hj, rfl, rfl⟩)) ?_ (fun r hr => zup_n _ _ _ hr)⟩
      have z : zbn 1 (nI 1) = nI 1 := by decide
      rw [z]
      exact zup_s _ _ _ _
  · rw [a, b]
    exact ⟨-2, s, t, rfl, rfl, h⟩
theorem o_cause {M : Nat} {s t : zS} (h : Iv s t) : ∃ r, f_X5_cause M s = some r ∧ f_X6_cause M t = some r := by
  obtain ⟨m, p, v, u, hA, hB, hC, hD, hE, hF, hG, hH, hJ, hK⟩ := h
  exact ⟨_, rfl, by unfold f_X6_cause; rw [hJ.2]⟩
theorem o_letter {M : Nat} {s t : zS} (h : Iv s t) (x1 : Int32) : ∃ r, f_X5_letter M s x1 = some r ∧ f_X6_letter M t x1 = some r := by
  obtain ⟨m, p, v, u, hA, hB, hC, hD, hE, hF, hG, hH, hJ, ⟨l, k1, k2, k3, k4⟩, -⟩ := h
  unfold f_X5_letter f_X6_letter
  rw [k2, k3]
  by_cases c1 : x1 < 0
  · rw [if_pos c1, if_pos c1]
    exact ⟨_, rfl, rfl⟩
  rw [if_neg c1, if_neg c1]
  rcases zix x1 l with ⟨j, hj, rfl⟩ | hx
  · rw [if_pos (nI_lt hj (by omega)), if_pos (nI_lt hj (by omega)), zin_t (by omega), zcl (by omega), k4 j hj]
    exact ⟨_, rfl, rfl⟩
  · have c2 : ¬ x1 < nI l := (zix_out (by omega) hx).resolve_left c1
    rw [if_neg c2, if_neg c2]
    exact ⟨_, rfl, rfl⟩
theorem c_com {M m : Nat} {s t : zS} (hA : iA m (s 2) (s 3) (s 4) (s 5) (s 6) (s 8) (s 9) (s 12) (s 13) (s 14) (t 0) (t 1) (t 2) (t 3) (t 6) (t 4) (t 5) (t 7) (t 8) (t 9)) (x : Int32) : ∃ r, zbd (f_X5_countOfMark M s x) (fun q => some q) = some r ∧ zbd (f_X6_isMark M t (x - (nI 20))) (fun q1 => if q1 = 0 then zbd (f_X6_isMark M t (x - (nI 40))) (fun q2 => if q2 = 0 then some (-2) else zq (zin (x - (nI 40)) 12) <| some (t 4 (x - (nI 40)).toNatClampNeg)) else zq (zin (x - (nI 20)) 12) <| some (t 6 (x - (nI 20)).toNatClampNeg)) = some r := by
  obtain ⟨a1, a2, a3, a4, a5, a6, a7, a8, -⟩ := id hA
  unfold f_X5_countOfMark
  rcases c_has (M := M) hA (x - nI 20) with ⟨a, b, j, hj, e⟩ | ⟨a, b, -⟩
  · rw [a, b, e, zbd_s, zbd_s, if_neg b_10, if_neg b_10, zin_t (by omega), zcl (by omega), zq_t, zq_t, zbd_s, a7 j (by omega)]
    exact ⟨_, rfl, rfl⟩
  · rw [a, b, zbd_s, zbd_s, if_pos b_00, if_pos b_00]
    rcases c_has (M := M) hA (x - nI 40) with ⟨a', b', j, hj, e⟩ | ⟨a', b', -⟩
    · rw [a', b', e, zbd_s, zbd_s, if_neg b_10, if_neg b_10, zin_t (by omega), zcl (by omega), zq_t, zq_t, zbd_s, a8 j (by omega)]
      exact ⟨_, rfl, rfl⟩
    · rw [a', b']
      exact ⟨_, rfl, rfl⟩
theorem o_count {M : Nat} {s t : zS} (h : Iv s t) (x1 : Int32) : ∃ r, f_X5_count M s x1 = some r ∧ f_X6_count M t x1 = some r := by
  obtain ⟨m, p, v, u, hA, hB, hC, hD, hE, hF, hG, hH, hJ, hK⟩ := h
  unfold f_X5_count f_X6_count
  by_cases c0 : x1 = nI 0
  · rw [if_pos c0, if_pos c0, hA.2.1, hA.2.2.1]; exact ⟨_, rfl, rfl⟩
  rw [if_neg c0, if_neg c0]
  by_cases c1 : x1 = nI 1
  · rw [if_pos c1, if_pos c1, hD.2.1, hD.2.2.1]; exact ⟨_, rfl, rfl⟩
  rw [if_neg c1, if_neg c1]
  by_cases c2 : x1 = nI 2
  · rw [if_pos c2, if_pos c2, hE.2.1, hE.2.2.1]; exact ⟨_, rfl, rfl⟩
  rw [if_neg c2, if_neg c2]
  by_cases c3 : x1 = nI 3
  · rw [if_pos c3, if_pos c3, hH.2.1, hH.2.2.1]; exact ⟨_, rfl, rfl⟩
  rw [if_neg c3, if_neg c3]
  have dflt := c_com (M := M) hA x1
  by_cases c4 : x1 = nI 4
  · rw [if_pos c4, if_pos c4]; exact dflt
  rw [if_neg c4, if_neg c4]
  by_cases c5 : x1 = nI 5
  · rw [if_pos c5, if_pos c5]; exact dflt
  rw [if_neg c5, if_neg c5]
  by_cases c6 : x1 = nI 6
  · rw [if_pos c6, if_pos c6]; exact dflt
  rw [if_neg c6, if_neg c6]
  by_cases c7 : x1 = nI 7
  · rw [if_pos c7, if_pos c7]; exact dflt
  rw [if_neg c7, if_neg c7]
  by_cases c8 : x1 = nI 8
  · rw [if_pos c8, if_pos c8]; exact dflt
  rw [if_neg c8, if_neg c8]
  by_cases c9 : x1 = nI 9
  · rw [if_pos c9, if_pos c9]; exact dflt
  rw [if_neg c9, if_neg c9]
  by_cases c10 : x1 = nI 10
  · rw [if_pos c10, if_pos c10]; exact dflt
  rw [if_neg c10, if_neg c10]
  have fl : ∀ c, c < 4 → x1 = nI (10 + c) → ∃ r, (zq (zin (x1 - (nI 10)) 4) <| some (s 0 (x1 - (nI 10)).toNatClampNeg)) = some r ∧ (zq (zin (x1 - (nI 10)) 4) <| some (t 22 (x1 - (nI 10)).toNatClampNeg)) = some r := by
    intro c hc e
    rw [e, pk_sub (by omega), Nat.add_sub_cancel_left, zin_t hc, zcl (by omega), hJ.1 c hc]
    exact ⟨_, rfl, rfl⟩
  by_cases c11 : x1 = nI 11
  · rw [if_pos c11, if_pos c11]; exact fl 1 (by omega) c11
  rw [if_neg c11, if_neg c11]
  by_cases c12 : x1 = nI 12
  · rw [if_pos c12, if_pos c12]; exact fl 2 (by omega) c12
  rw [if_neg c12, if_neg c12]
  by_cases c13 : x1 = nI 13
  · rw [if_pos c13, if_pos c13]; exact fl 3 (by omega) c13
  rw [if_neg c13, if_neg c13]
  exact dflt
theorem dnc_100 {dn : Nat → Int32} {v u : Nat} (h : u ≤ dnc dn v) (hv : v ≤ 100) : u ≤ 100 := by
  have := dnc_le dn v
  omega
theorem lc_stands {M u : Nat} {s : zS} (hu : s 25 0 = nI u) (h100 : u ≤ 100) (x : Int32) : ∀ d k N, k + d = u → d < N → l_X2_howManyAt M N s x (nI (hmc (fun j => decide (s 26 j = x)) k)) (nI k) = some (nI (hmc (fun j => decide (s 26 j = x)) u)) := by
  intro d
  induction d with
  | zero =>
    intro k N hk hN
    obtain ⟨N, rfl⟩ : ∃ N', N = N' + 1 := ⟨N - 1, by omega⟩
    have : k = u := by omega
    subst this
    rw [l_X2_howManyAt, hu, if_neg (Int32.lt_irrefl)]
  | succ d ih =>
    intro k N hk hN
    obtain ⟨N, rfl⟩ : ∃ N', N = N' + 1 := ⟨N - 1, by omega⟩
    rw [l_X2_howManyAt, hu, if_pos (nI_lt (by omega) (by omega)), zin_t (by omega), zcl (by omega), zq_t]
    have e := ih (k + 1) N (by omega) (by omega)
    rw [hmc] at e
    by_cases c : s 26 k = x
    · rw [if_pos c, nI_add, nI_add]
      rw [if_pos (by simpa using c)] at e
      exact e
    · rw [if_neg c, nI_add]
      rw [if_neg (by simpa using c)] at e
      exact e
theorem lm_stands {M u : Nat} {t : zS} (hu : t 32 0 = nI u) (h100 : u ≤ 100) (x : Int32) : ∀ d k N, k + d = u → d < N → l_X6_stands M N t x (nI (hmc (fun j => decide (t 33 j = x)) k)) (nI k) = some (nI (hmc (fun j => decide (t 33 j = x)) u)) := by
  intro d
  induction d with
  | zero =>
    intro k N hk hN
    obtain ⟨N, rfl⟩ : ∃ N', N = N' + 1 := ⟨N - 1, by omega⟩
    have : k = u := by omega
    subst this
    rw [l_X6_stands, hu, if_neg (Int32.lt_irrefl)]
  | succ d ih =>
    intro k N hk hN
    obtain ⟨N, rfl⟩ : ∃ N', N = N' + 1 := ⟨N - 1, by omega⟩
    rw [l_X6_stands, hu, if_pos (nI_lt (by omega) (by omega)), zin_t (by omega), zcl (by omega), zq_t]
    have e := ih (k + 1) N (by omega) (by omega)
    rw [hmc] at e
    by_cases c : t 33 k = x
    · rw [if_pos c, nI_add, nI_add]
      rw [if_pos (by simpa using c)] at e
      exact e
    · rw [if_neg c, nI_add, nI_add]
      rw [if_neg (by simpa using c)] at e
      exact e
theorem o_stands {N : Nat} {s t : zS} (h : Iv s t) (x1 : Int32) : ∃ r, f_X5_stands (N + 3000) s x1 = some r ∧ f_X6_stands (N + 3000) t x1 = some r := by
  obtain ⟨m, p, v, u, hA, hB, hC, hD, hE, hF, hG, hH, hJ, hK⟩ := h
  obtain ⟨g1, g2, g3, g4, g5, g6⟩ := hH
  have hu := dnc_100 g1 hE.1
  unfold f_X5_stands f_X6_stands
  rcases c_plc (M := N + 3000) hD x1 with ⟨a, b, j, hj, rfl⟩ | ⟨a, b, -⟩
  · rw [a, b, zbd_s, zbd_s, if_neg b_10, if_neg b_10]
    unfold f_X2_howManyAt
    have e1 := lc_stands (M := N + 3000) g2 hu (nI j) u 0 (N + 3000) (by omega) (by omega)
    have e2 := lm_stands (M := N + 3000) g3 hu (nI j) u 0 (N + 3000) (by omega) (by omega)
    have e0 : l_X2_howManyAt (N + 3000) (N + 3000) s (nI j) (nI 0) (nI 0) = some (nI (hmc (fun i => decide (s 26 i = nI j)) u)) := e1
    have e3 : l_X6_stands (N + 3000) (N + 3000) t (nI j) (nI 0) (nI 0) = some (nI (hmc (fun i => decide (t 33 i = nI j)) u)) := e2
    have ec : hmc (fun i => decide (t 33 i = nI j)) u = hmc (fun i => decide (s 26 i = nI j)) u := hmc_c u (fun i hi => by rw [g4 i hi])
    exact ⟨_, by rw [e0]; rfl, by rw [e3, ec]⟩
  · rw [a, b]
    exact ⟨_, rfl, rfl⟩
