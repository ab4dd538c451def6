/-! container. -/
section CT
variable {M : Nat} {s t : zS} {c en e0 : Nat}
theorem ohd1 (hc : c < 12) (hen : en ≤ 5) (h6 : s 6 c = nI en) (hn : ∀ e, e < en → (s 12 (5 * c + e) = 0 ↔ e = e0)) : ∀ d k K, k + d = en → d < K → (∀ e, k ≤ e → e < en → e ≠ e0 → s 15 (5 * c + e) ≠ -1) → l_X0_othersHaveDefaults M K s (nI c) (nI k) = some (nI 1) := by
  intro d
  induction d with
  | zero =>
    intro k K hk hK _
    obtain ⟨K, rfl⟩ : ∃ K', K = K' + 1 := ⟨K - 1, by omega⟩
    have : k = en := by omega
    subst this
    rw [l_X0_othersHaveDefaults, zin_t hc, zcl (by omega), zq_t, h6, if_neg (Int32.lt_irrefl)]
  | succ d ih =>
    intro k K hk hK hd
    obtain ⟨K, rfl⟩ : ∃ K', K = K' + 1 := ⟨K - 1, by omega⟩
    have e := ih (k + 1) K (by omega) (by omega) (fun e h1 h2 => hd e (by omega) h2)
    rw [l_X0_othersHaveDefaults, zin_t hc, zcl (by omega), zq_t, h6, if_pos (nI_lt (by omega) (by omega)), pk_mul, nI_add, Nat.mul_comm c 5, zin_t (by omega), zcl (by omega), zq_t, zq_t, nI_add]
    by_cases q : k = e0
    · rw [if_pos ((hn k (by omega)).mpr q)]
      exact e
    · rw [if_neg (fun z => q ((hn k (by omega)).mp z)), if_neg (hd k (by omega) (by omega) q)]
      exact e
theorem ohd0 (hc : c < 12) (hen : en ≤ 5) (h6 : s 6 c = nI en) (hn : ∀ e, e < en → (s 12 (5 * c + e) = 0 ↔ e = e0)) : ∀ d k K, k + d = en → d < K → (∃ e, k ≤ e ∧ e < en ∧ e ≠ e0 ∧ s 15 (5 * c + e) = -1) → l_X0_othersHaveDefaults M K s (nI c) (nI k) = some (nI 0) := by
  intro d
  induction d with
  | zero =>
    intro k K hk hK ⟨e, h1, h2, _⟩
    omega
  | succ d ih =>
    intro k K hk hK ⟨e, h1, h2, h3, h4⟩
    obtain ⟨K, rfl⟩ : ∃ K', K = K' + 1 := ⟨K - 1, by omega⟩
    rw [l_X0_othersHaveDefaults, zin_t hc, zcl (by omega), zq_t, h6, if_pos (nI_lt (by omega) (by omega)), pk_mul, nI_add, Nat.mul_comm c 5, zin_t (by omega), zcl (by omega), zq_t, zq_t, nI_add]
    by_cases q : k = e0
    · rw [if_pos ((hn k (by omega)).mpr q)]
      exact ih (k + 1) K (by omega) (by omega) ⟨e, by omega, h2, h3, h4⟩
    · rw [if_neg (fun z => q ((hn k (by omega)).mp z))]
      by_cases z : s 15 (5 * c + k) = -1
      · rw [if_pos z]
      · rw [if_neg z]
        refine ih (k + 1) K (by omega) (by omega) ⟨e, ?_, h2, h3, h4⟩
        have : e ≠ k := fun w => z (w ▸ h4)
        omega
theorem lic0 (hc : c < 12) (hen : en ≤ 5) (h6 : t 6 c = nI en) (y1 y3 : Int32) : ∀ d k K, k + d = en → d < K → l_X6_isContainer M K t y1 (nI c) y3 (nI 0) (nI (5 * c + k)) = some (nI 0) := by
  intro d
  induction d with
  | zero =>
    intro k K hk hK
    obtain ⟨K, rfl⟩ : ∃ K', K = K' + 1 := ⟨K - 1, by omega⟩
    have : k = en := by omega
    subst this
    rw [l_X6_isContainer, zin_t hc, zcl (n := c) (by omega), zq_t, h6, pk_mul, nI_add, if_neg (Int32.lt_irrefl), if_pos b_00]
  | succ d ih =>
    intro k K hk hK
    obtain ⟨K, rfl⟩ : ∃ K', K = K' + 1 := ⟨K - 1, by omega⟩
    rw [l_X6_isContainer, zin_t hc, zcl (n := c) (by omega), zq_t, h6, pk_mul, nI_add, if_pos (nI_lt (by omega) (by omega)), if_pos b_00, nI_add, Nat.add_assoc]
    exact ih (k + 1) K (by omega) (by omega)
theorem lic1 (hc : c < 12) (hen : en ≤ 5) (h6 : t 6 c = nI en) (y1 : Int32) (he : e0 < en) : ∀ d k K, k + d = en → d < K → (∀ e, k ≤ e → e < en → e ≠ e0 → t 10 (5 * c + e) ≠ -1) → l_X6_isContainer M K t y1 (nI c) (nI (5 * c + e0)) (nI 1) (nI (5 * c + k)) = l_X6_isContainer M 1 t y1 (nI c) (nI (5 * c + e0)) (nI 1) (nI (5 * c + en)) := by
  intro d
  induction d with
  | zero =>
    intro k K hk hK _
    obtain ⟨K, rfl⟩ : ∃ K', K = K' + 1 := ⟨K - 1, by omega⟩
    have : k = en := by omega
    subst this
    have hl : ¬ nI (5 * c + k) < nI (5 * c + k) := Int32.lt_irrefl
    rw [l_X6_isContainer, l_X6_isContainer, zin_t hc, zcl (n := c) (by omega), h6, pk_mul, nI_add, if_neg hl, if_neg hl]
  | succ d ih =>
    intro k K hk hK hd
    obtain ⟨K, rfl⟩ : ∃ K', K = K' + 1 := ⟨K - 1, by omega⟩
    have e := ih (k + 1) K (by omega) (by omega) (fun e h1 h2 => hd e (by omega) h2)
    rw [← e]
    rw [l_X6_isContainer, zin_t hc, zcl (n := c) (by omega), zq_t, h6, pk_mul, nI_add, if_pos (nI_lt (by omega) (by omega)), if_neg b_10, nI_add, Nat.add_assoc]
    by_cases q : k = e0
    · rw [if_pos (by rw [q])]
    · rw [if_neg (fun z => q (by have := nI_inj (by omega) (by omega) z; omega)), zin_t (by omega), zcl (by omega), zq_t, if_neg (hd k (by omega) (by omega) q)]
theorem lic2 (hc : c < 12) (hen : en ≤ 5) (h6 : t 6 c = nI en) (y1 : Int32) (he : e0 < en) : ∀ d k K, k + d = en → d < K → (∃ e, k ≤ e ∧ e < en ∧ e ≠ e0 ∧ t 10 (5 * c + e) = -1) → l_X6_isContainer M K t y1 (nI c) (nI (5 * c + e0)) (nI 1) (nI (5 * c + k)) = some (nI 0) := by
  intro d
  induction d with
  | zero =>
    intro k K hk hK ⟨e, h1, h2, _⟩
    omega
  | succ d ih =>
    intro k K hk hK ⟨e, h1, h2, h3, h4⟩
    obtain ⟨K, rfl⟩ : ∃ K', K = K' + 1 := ⟨K - 1, by omega⟩
    rw [l_X6_isContainer, zin_t hc, zcl (n := c) (by omega), zq_t, h6, pk_mul, nI_add, if_pos (nI_lt (by omega) (by omega)), if_neg b_10, nI_add, Nat.add_assoc]
    by_cases q : k = e0
    · rw [if_pos (by rw [q])]
      exact ih (k + 1) K (by omega) (by omega) ⟨e, by omega, h2, h3, h4⟩
    · rw [if_neg (fun z => q (by have := nI_inj (by omega) (by omega) z; omega)), zin_t (by omega), zcl (by omega), zq_t]
      by_cases z : t 10 (5 * c + k) = -1
      · rw [if_pos z]
        exact lic0 hc hen h6 y1 _ d (k + 1) K (by omega) (by omega)
      · rw [if_neg z]
        refine ih (k + 1) K (by omega) (by omega) ⟨e, ?_, h2, h3, h4⟩
        have : e ≠ k := fun w => z (w ▸ h4)
        omega
theorem lw1 {u : Nat} (hu : t 32 0 = nI u) (h100 : u ≤ 100) (y1 y2 : Int32) : ∀ d k K, k + d = u → d < K → l_X6_container M K t y1 y2 (nI 1) (nI k) = l_X6_container M 1 t y1 y2 (nI 1) (nI u) := by
  intro d
  induction d with
  | zero =>
    intro k K hk hK
    obtain ⟨K, rfl⟩ : ∃ K', K = K' + 1 := ⟨K - 1, by omega⟩
    have : k = u := by omega
    subst this
    rw [l_X6_container, l_X6_container, hu, if_neg (Int32.lt_irrefl), if_neg (Int32.lt_irrefl)]
  | succ d ih =>
    intro k K hk hK
    obtain ⟨K, rfl⟩ : ∃ K', K = K' + 1 := ⟨K - 1, by omega⟩
    rw [l_X6_container, hu, if_pos (nI_lt (by omega) (by omega)), if_neg b_10, nI_add]
    exact ih (k + 1) K (by omega) (by omega)
theorem lw0 {u v : Nat} (hH : iH v u (s 25) (s 26) (s 27) (s 28) (t 16) (t 17) (t 19) (t 32) (t 33) (t 34)) (hv : v ≤ 100) (j : Nat) (y2 : Int32) : ∀ d k K, k + d = u → d < K → l_X6_container M K t (nI j) y2 (nI 0) (nI k) = l_X6_container M 1 t (nI j) y2 (nI 0) (nI u) ∧ (∀ k', k ≤ k' → k' < u → ¬ t 17 (t 34 k').toNatClampNeg = nI j) ∨ l_X6_container M K t (nI j) y2 (nI 0) (nI k) = l_X6_container M 1 t (nI j) y2 (nI 1) (nI u) ∧ ∃ k', k ≤ k' ∧ k' < u ∧ t 17 (t 34 k').toNatClampNeg = nI j := by
  have hu := hH.2.2.1
  have h100 := dnc_100 hH.1 hv
  intro d
  induction d with
  | zero =>
    intro k K hk hK
    obtain ⟨K, rfl⟩ : ∃ K', K = K' + 1 := ⟨K - 1, by omega⟩
    have : k = u := by omega
    subst this
    rw [l_X6_container, l_X6_container, hu, if_neg (Int32.lt_irrefl), if_neg (Int32.lt_irrefl)]
    exact Or.inl ⟨rfl, fun k' h1 h2 => absurd h2 (by omega)⟩
  | succ d ih =>
    intro k K hk hK
    obtain ⟨K, rfl⟩ : ∃ K', K = K' + 1 := ⟨K - 1, by omega⟩
    obtain ⟨x, x1, x2, -⟩ := hH.2.2.2.2.2 k (by omega)
    rw [l_X6_container, hu, if_pos (nI_lt (by omega) (by omega)), if_pos b_00, zin_t (show k < 100 by omega), zcl (n := k) (by omega), zq_t, x2, zin_t (show x < 100 by omega), zcl (n := x) (by omega), zq_t, nI_add]
    by_cases q : t 17 x = nI j
    · rw [if_pos q]
      exact Or.inr ⟨lw1 hu h100 _ _ d (k + 1) K (by omega) (by omega), k, Nat.le_refl k, by omega, by rw [x2, zcl (by omega)]; exact q⟩
    · rw [if_neg q]
      rcases ih (k + 1) K (by omega) (by omega) with ⟨a, b⟩ | ⟨a, k', b1, b2, b3⟩
      · refine Or.inl ⟨a, fun k' h1 h2 => ?_⟩
        by_cases w : k' = k
        · subst w
          rw [x2, zcl (by omega)]
          exact q
        · exact b k' (by omega) h2
      · exact Or.inr ⟨a, k', by omega, b2, b3⟩
end CT
/-- is it as a CONTAINER has to be -/
theorem c_cont {N m v : Nat} {s t : zS} (hA : iA m (s 2) (s 3) (s 4) (s 5) (s 6) (s 8) (s 9) (s 12) (s 13) (s 14) (t 0) (t 1) (t 2) (t 3) (t 6) (t 4) (t 5) (t 7) (t 8) (t 9)) (hB : iB m (t 6) (t 7) (t 8) (t 4) (t 5)) (hG : iG m v (s 15) (t 6) (t 8) (t 9) (t 10) (t 16) (t 17) (t 18) (t 19) (t 20)) {j c : Nat} (hj : j < m) (hc : c < m) : (f_X0_canContain (N + 3000) s (nI c) (nI j) = some (nI 1) ∧ f_X6_isContainer (N + 3000) t (nI j) (nI c) = some (nI 1) ∧ ¬ t 2 c < t 2 j ∧ ∃ e, e < enn (t 6) c ∧ t 7 (5 * c + e) = nI 0 ∧ t 9 (5 * c + e) ≠ 0) ∨ (f_X0_canContain (N + 3000) s (nI c) (nI j) = some (nI 0) ∧ f_X6_isContainer (N + 3000) t (nI j) (nI c) = some (nI 0)) := by
  obtain ⟨a1, a2, a3, a4, a5, a6, a7, a8, a9, a10, a11, a12⟩ := id hA
  obtain ⟨en, hen, een⟩ := hB.1 c (by omega)
  have eq := enn_of een hen
  have s6 : s 6 c = nI en := by rw [a7 c (by omega)]; exact een
  unfold f_X0_canContain f_X6_isContainer
  have z0 : ∀ y1 y3 : Int32, l_X6_isContainer (N + 3000) (N + 3000) t y1 (nI c) y3 (nI 0) (nI 5 * nI c) = some (nI 0) := by
    intro y1 y3
    rw [pk_mul]
    exact lic0 (by omega) hen een y1 y3 en 0 (N + 3000) (by omega) (by omega)
  rcases c_pos (N := N) hA hB hc (nI 0) with ⟨e0, he, he5, hx, -, p2, p3⟩ | ⟨-, -, p2, p3⟩
  · rw [eq] at he
    have hn : ∀ e, e < en → (s 12 (5 * c + e) = 0 ↔ e = e0) := by
      intro e h1
      rw [a10 _ (by omega)]
      constructor
      · intro w
        exact hB.2.2.2.2.2.1 c e e0 hc (by omega) (by omega) (w.trans hx.symm)
      · rintro rfl
        exact hx
    rw [p2, p3, zbd_s, zbd_s, if_neg (nI_m1 (by omega)), if_neg (nI_m1 (by omega)), zin_t (show 5 * c + e0 < 60 by omega), zcl (n := 5 * c + e0) (by omega), zin_t (show c < 12 by omega), zcl (n := c) (by omega), zin_t (show j < 12 by omega), zcl (n := j) (by omega)]
    simp only [zq_t]
    rw [a12 _ (by omega), a11 _ (by omega), a5 c (by omega), a5 j (by omega), a4 c (by omega), a4 j (by omega), a6 c (by omega), a6 j (by omega)]
    by_cases c1 : t 9 (5 * c + e0) = 0
    · rw [if_pos c1, if_pos c1, z0]
      exact Or.inr ⟨rfl, rfl⟩
    rw [if_neg c1, if_neg c1]
    rcases (Decidable.em (t 8 (5 * c + e0) = nI 10 + nI j)).symm with c2 | c2
    · rw [if_neg c2, if_neg c2, z0]
      exact Or.inr ⟨rfl, rfl⟩
    rw [if_pos c2, if_pos c2, pk_mul]
    have sd : ∀ e, e < en → s 15 (5 * c + e) = t 10 (5 * c + e) := fun e h1 => (hG.1 c e hc (by omega)).1
    by_cases hd : ∃ e, e < en ∧ e ≠ e0 ∧ t 10 (5 * c + e) = -1
    · obtain ⟨e, h1, h2, h3⟩ := hd
      have m0 := lic2 (M := N + 3000) (e0 := e0) (by omega) hen een (nI j) he en 0 (N + 3000) (by omega) (by omega) ⟨e, by omega, h1, h2, h3⟩
      have k0 : f_X0_othersHaveDefaults (N + 3000) s (nI c) = some (nI 0) := ohd0 (by omega) hen s6 hn en 0 (N + 3000) (by omega) (by omega) ⟨e, by omega, h1, h2, by rw [sd e h1]; exact h3⟩
      have m0' : l_X6_isContainer (N + 3000) (N + 3000) t (nI j) (nI c) (nI (5 * c + e0)) (nI 1) (nI (5 * c)) = some (nI 0) := m0
      rw [m0', k0]
      simp only [zbd_s, if_pos b_00]
      refine Or.inr ⟨?_, trivial⟩
      repeat' split
      all_goals rfl
    · have hd' : ∀ e, e < en → e ≠ e0 → t 10 (5 * c + e) ≠ -1 := fun e h1 h2 h3 => hd ⟨e, h1, h2, h3⟩
      have m1 := lic1 (M := N + 3000) (e0 := e0) (by omega) hen een (nI j) he en 0 (N + 3000) (by omega) (by omega) (fun e _ h1 h2 => hd' e h1 h2)
      have k1 : f_X0_othersHaveDefaults (N + 3000) s (nI c) = some (nI 1) := ohd1 (by omega) hen s6 hn en 0 (N + 3000) (by omega) (by omega) (fun e _ h1 h2 => by rw [sd e h1]; exact hd' e h1 h2)
      have m1' : l_X6_isContainer (N + 3000) (N + 3000) t (nI j) (nI c) (nI (5 * c + e0)) (nI 1) (nI (5 * c)) = _ := m1
      rw [m1', k1, l_X6_isContainer, zin_t (show c < 12 by omega), zcl (n := c) (by omega), zin_t (show j < 12 by omega), zcl (n := j) (by omega)]
      simp only [zq_t, zbd_s, if_neg b_10]
      rw [een, pk_mul, nI_add, if_neg (Int32.lt_irrefl)]
      by_cases c3 : t 2 c < t 2 j
      · rw [if_pos c3]
        exact Or.inr ⟨rfl, rfl⟩
      rw [if_neg c3]
      rcases (Decidable.em ((t 1 c &&& (t 1 j ^^^ (-1))) = 0)).symm with c4 | c4
      · rw [if_neg c4]
        exact Or.inr ⟨rfl, rfl⟩
      rw [if_pos c4]
      have yes : ¬ t 2 c < t 2 j ∧ ∃ e, e < enn (t 6) c ∧ t 7 (5 * c + e) = nI 0 ∧ t 9 (5 * c + e) ≠ 0 := ⟨c3, e0, by omega, hx, c1⟩
      by_cases c5 : t 3 c = 0
      · rw [if_pos c5]
        by_cases c6 : t 3 j = 0
        · rw [if_pos c6]
          exact Or.inl ⟨rfl, rfl, yes⟩
        · rw [if_neg c6]
          exact Or.inr ⟨rfl, rfl⟩
      · rw [if_neg c5]
        exact Or.inl ⟨rfl, rfl, yes⟩
  · rw [p2, p3, zbd_s, zbd_s, if_pos rfl, if_pos rfl, z0]
    exact Or.inr ⟨rfl, rfl⟩
theorem o_container {N : Nat} {s t : zS} (h : Iv s t) (x1 x2 : Int32) : ∃ r s' t', f_X5_container (N + 3000) s x1 x2 = some (r, s') ∧ f_X6_container (N + 3000) t x1 x2 = some (r, t') ∧ Iv s' t' := by
  obtain ⟨m, p, v, u, hI⟩ := id h
  obtain ⟨hA, hB, hC, hD, hE, hF, hG, hH, hJ, hK, hL, hM⟩ := id hI
  obtain ⟨a1, a2, a3, a4, a5, a6, a7, a8, a9, a10, a11, a12⟩ := id hA
  have hv := hE.1
  have h100 := dnc_100 hH.1 hv
  have bad : ∀ {A B : Option (Int32 × zS)} (c : Int32), A = some (c, s) → B = some (c, t) → ∃ r s' t', A = some (r, s') ∧ B = some (r, t') ∧ Iv s' t' := fun c a b => ⟨c, s, t, a, b, h⟩
  unfold f_X5_container f_X6_container
  rcases (c_has (M := N + 3000) hA x1).symm with ⟨a, b, -⟩ | ⟨a, b, j, hj, rfl⟩
  · rw [a, b]
    exact bad (-2) rfl rfl
  rw [a, b, zbd_s, zbd_s, if_neg b_10, if_neg b_10]
  rcases (c_has (M := N + 3000) hA x2).symm with ⟨a, b, -⟩ | ⟨a, b, c, hc, rfl⟩
  · rw [a, b]
    exact bad (-2) rfl rfl
  rw [a, b, zbd_s, zbd_s, if_neg b_10, if_neg b_10, zin_t (show j < 12 by omega), zcl (n := j) (by omega)]
  simp only [zq_t]
  rw [a8 j (by omega)]
  have tail : ∀ (b : Nat), b ≤ 1 → (s 11 j = nI b) → l_X6_container (N + 3000) (N + 3000) t (nI j) (nI c) (nI 0) (nI 0) = l_X6_container (N + 3000) 1 t (nI j) (nI c) (nI b) (nI u) → ∃ r s' t', (if t 4 j = -1 then if s 11 j = 0 then zbd (f_X0_canContain (N + 3000) s (nI c) (nI j)) (fun q3 => if q3 = 0 then some (nI 0, s) else zq (zin (nI c) 12) <| some (nI 1, zup (zup s 8 j (nI c)) 9 (nI c).toNatClampNeg (nI j))) else some ((-4), s) else some ((-4), s)) = some (r, s') ∧ l_X6_container (N + 3000) (N + 3000) t (nI j) (nI c) (nI 0) (nI 0) = some (r, t') ∧ Iv s' t' := by
    intro b hb e11 el
    rw [el, l_X6_container, hH.2.2.1, if_neg (Int32.lt_irrefl), zin_t (show j < 12 by omega), zcl (n := j) (by omega), zin_t (show c < 12 by omega), zcl (n := c) (by omega), e11]
    simp only [zq_t]
    rcases (Decidable.em (t 4 j = -1)).symm with c1 | c1
    · rw [if_neg c1, if_neg c1]
      exact bad (-4) rfl rfl
    rw [if_pos c1, if_pos c1]
    rcases (Decidable.em (nI b = 0)).symm with c2 | c2
    · rw [if_neg c2, if_neg c2]
      exact bad (-4) rfl rfl
    rw [if_pos c2, if_pos c2]
    rcases (c_cont (N := N) hA hB hG hj hc).symm with ⟨g1, g2⟩ | ⟨g1, g2, g3, g4⟩
    · rw [g1, g2]
      exact bad (nI 0) rfl rfl
    rw [g1, g2]
    refine ⟨nI 1, _, _, rfl, rfl, m, p, v, u, ?_⟩
    unfold Inv
    refine ⟨⟨a1, a2, a3, a4, a5, a6, a7, zeq_upd a8 _ _, zeq_upd a9 _ _, a10, a11, a12⟩, ?_, hC, hD, hE, hF, hG, hH, hJ, hK, ?_, hM⟩
    · show iB m (t 6) (t 7) (t 8) (upd (t 4) j (nI c)) (upd (t 5) c (nI j))
      obtain ⟨b1, b2, b3, b4, b5, b6, b7⟩ := hB
      refine ⟨b1, fun i h1 h2 => ?_, fun i h1 => ?_, fun i h1 => ?_, b5, b6, b7⟩
      · rw [upd_n _ _ (by omega), upd_n _ _ (by omega)]
        exact b2 i h1 h2
      · by_cases q : i = j
        · rw [q, upd_s]
          exact Or.inr ⟨c, hc, rfl⟩
        · rw [upd_n _ _ q]
          exact b3 i h1
      · by_cases q : i = c
        · rw [q, upd_s]
          exact Or.inr ⟨j, hj, rfl⟩
        · rw [upd_n _ _ q]
          exact b4 i h1
    · show iL (t 2) (upd (t 4) j (nI c)) (upd (t 5) c (nI j)) (t 6) (t 7) (t 9)
      refine ⟨hL.1, fun i d h1 h2 h3 => ?_⟩
      by_cases q : i = j
      · subst q
        rw [upd_s] at h3
        have : c = d := nI_inj (by omega) (by omega) h3
        subst this
        rw [upd_s]
        exact ⟨nI_m1 (by omega), g3, g4⟩
      · rw [upd_n _ _ q] at h3
        obtain ⟨k1, k2, k3⟩ := hL.2 i d h1 h2 h3
        refine ⟨?_, k2, k3⟩
        by_cases q2 : d = c
        · rw [q2, upd_s]
          exact nI_m1 (by omega)
        · rw [upd_n _ _ q2]
          exact k1
  rcases lw0 (M := N + 3000) hH hv j (nI c) u 0 (N + 3000) (by omega) (by omega) with ⟨w1, w2⟩ | ⟨w1, k', -, w2, w3⟩
  · refine tail 0 (by omega) ?_ w1
    rcases hC.2.2 j (by omega) with ⟨-, k, z1, z2⟩ | ⟨z, -⟩
    · exact absurd z2 (w2 k (by omega) z1)
    · exact z
  · refine tail 1 (by omega) ?_ w1
    rcases hC.2.2 j (by omega) with ⟨z, -⟩ | ⟨-, z⟩
    · exact z
    · exact absurd w3 (z k' w2)
