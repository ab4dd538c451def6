/-! ELEMENTS by NAME, parts; part. -/
theorem lp_c {M : Nat} {s : zS} {j en : Nat} (hj : j < 12) (hen : en ≤ 5) (h6 : s 6 j = nI en) (x : Int32) : ∀ d k K, k + d = en → d < K → (∀ e, k ≤ e → e < en → s 12 (5 * j + e) ≠ x) → l_X0_positionOf M K s (nI j) x (nI k) = some (-1) := by
  intro d
  induction d with
  | zero =>
    intro k K hk hK hn
    obtain ⟨K, rfl⟩ : ∃ K', K = K' + 1 := ⟨K - 1, by omega⟩
    have : k = en := by omega
    subst this
    rw [l_X0_positionOf, zin_t hj, zcl (by omega), zq_t, h6, if_neg (Int32.lt_irrefl)]
  | succ d ih =>
    intro k K hk hK hn
    obtain ⟨K, rfl⟩ : ∃ K', K = K' + 1 := ⟨K - 1, by omega⟩
    rw [l_X0_positionOf, zin_t hj, zcl (by omega), zq_t, h6, if_pos (nI_lt (by omega) (by omega)), pk_mul, nI_add, Nat.mul_comm j 5, zin_t (by omega), zcl (by omega), zq_t, if_neg (hn k (by omega) (by omega)), nI_add]
    exact ih (k + 1) K (by omega) (by omega) (fun e h1 h2 => hn e (by omega) h2)
theorem lp_h {M : Nat} {s : zS} {j en e : Nat} (hj : j < 12) (hen : en ≤ 5) (h6 : s 6 j = nI en) (x : Int32) (he : e < en) (hx : s 12 (5 * j + e) = x) (hd : ∀ i, i < en → s 12 (5 * j + i) = x → i = e) : ∀ d k K, k + d = e → d < K → l_X0_positionOf M K s (nI j) x (nI k) = some (nI e) := by
  intro d
  induction d with
  | zero =>
    intro k K hk hK
    obtain ⟨K, rfl⟩ : ∃ K', K = K' + 1 := ⟨K - 1, by omega⟩
    have : k = e := by omega
    subst this
    rw [l_X0_positionOf, zin_t hj, zcl (by omega), zq_t, h6, if_pos (nI_lt (by omega) (by omega)), pk_mul, nI_add, Nat.mul_comm j 5, zin_t (by omega), zcl (by omega), zq_t, if_pos hx]
  | succ d ih =>
    intro k K hk hK
    obtain ⟨K, rfl⟩ : ∃ K', K = K' + 1 := ⟨K - 1, by omega⟩
    rw [l_X0_positionOf, zin_t hj, zcl (by omega), zq_t, h6, if_pos (nI_lt (by omega) (by omega)), pk_mul, nI_add, Nat.mul_comm j 5, zin_t (by omega), zcl (by omega), zq_t, if_neg (fun q => absurd (hd k (by omega) q) (by omega)), nI_add]
    exact ih (k + 1) K (by omega) (by omega)
theorem lm_c {M : Nat} {t : zS} {j en : Nat} (hj : j < 12) (hen : en ≤ 5) (h6 : t 6 j = nI en) (x y : Int32) : ∀ d k K, k + d = en → d < K → (∀ e, k ≤ e → e < en → t 7 (5 * j + e) ≠ x) → l_X6_elementOf M K t (nI j) x y (nI k) = some y := by
  intro d
  induction d with
  | zero =>
    intro k K hk hK hn
    obtain ⟨K, rfl⟩ : ∃ K', K = K' + 1 := ⟨K - 1, by omega⟩
    have : k = en := by omega
    subst this
    rw [l_X6_elementOf, zin_t hj, zcl (by omega), zq_t, h6, if_neg (Int32.lt_irrefl)]
  | succ d ih =>
    intro k K hk hK hn
    obtain ⟨K, rfl⟩ : ∃ K', K = K' + 1 := ⟨K - 1, by omega⟩
    rw [l_X6_elementOf, zin_t hj, zcl (by omega), zq_t, h6, if_pos (nI_lt (by omega) (by omega)), pk_mul, nI_add, zin_t (by omega), zcl (by omega), zq_t, if_neg (hn k (by omega) (by omega)), nI_add]
    exact ih (k + 1) K (by omega) (by omega) (fun e h1 h2 => hn e (by omega) h2)
theorem lm_h {M : Nat} {t : zS} {j en e : Nat} (hj : j < 12) (hen : en ≤ 5) (h6 : t 6 j = nI en) (x : Int32) (he : e < en) (hx : t 7 (5 * j + e) = x) (hd : ∀ i, i < en → t 7 (5 * j + i) = x → i = e) : ∀ d k K y, k + d = e → en < K + k → l_X6_elementOf M K t (nI j) x y (nI k) = some (nI (5 * j + e)) := by
  intro d
  induction d with
  | zero =>
    intro k K y hk hK
    obtain ⟨K, rfl⟩ : ∃ K', K = K' + 1 := ⟨K - 1, by omega⟩
    have : k = e := by omega
    subst this
    rw [l_X6_elementOf, zin_t hj, zcl (by omega), zq_t, h6, if_pos (nI_lt (by omega) (by omega)), pk_mul, nI_add, zin_t (by omega), zcl (by omega), zq_t, if_pos hx, nI_add]
    exact lm_c hj hen h6 x _ (en - (k + 1)) (k + 1) K (by omega) (by omega) (fun i h1 h2 q => absurd (hd i h2 q) (by omega))
  | succ d ih =>
    intro k K y hk hK
    obtain ⟨K, rfl⟩ : ∃ K', K = K' + 1 := ⟨K - 1, by omega⟩
    rw [l_X6_elementOf, zin_t hj, zcl (by omega), zq_t, h6, if_pos (nI_lt (by omega) (by omega)), pk_mul, nI_add, zin_t (by omega), zcl (by omega), zq_t, if_neg (fun q => absurd (hd k (by omega) q) (by omega)), nI_add]
    exact ih (k + 1) K y (by omega) (by omega)
theorem c_pos {N m : Nat} {s t : zS} (hA : iA m (s 2) (s 3) (s 4) (s 5) (s 6) (s 8) (s 9) (s 12) (s 13) (s 14) (t 0) (t 1) (t 2) (t 3) (t 6) (t 4) (t 5) (t 7) (t 8) (t 9)) (hB : iB m (t 6) (t 7) (t 8) (t 4) (t 5)) {j : Nat} (hj : j < m) (x : Int32) :
    (∃ e, e < enn (t 6) j ∧ e < 5 ∧ t 7 (5 * j + e) = x ∧ f_X0_positionOf (N + 3000) s (nI j) x = some (nI e) ∧ f_X0_slotOf (N + 3000) s (nI j) x = some (nI (5 * j + e)) ∧ f_X6_elementOf (N + 3000) t (nI j) x = some (nI (5 * j + e))) ∨
    ((∀ e, e < enn (t 6) j → t 7 (5 * j + e) ≠ x) ∧ f_X0_positionOf (N + 3000) s (nI j) x = some (-1) ∧ f_X0_slotOf (N + 3000) s (nI j) x = some (-1) ∧ f_X6_elementOf (N + 3000) t (nI j) x = some (-1)) := by
  obtain ⟨a1, a2, a3, a4, a5, a6, a7, a8, a9, a10, a11, a12⟩ := id hA
  obtain ⟨en, hen, een⟩ := hB.1 j (by omega)
  have eq := enn_of een hen
  have s6 : s 6 j = nI en := by rw [a7 j (by omega)]; exact een
  have hs : f_X0_has (N + 3000) s (nI j) = some (nI 1) := by
    rcases c_has (M := N + 3000) hA (nI j) with ⟨a, -⟩ | ⟨-, -, b⟩
    · exact a
    · exact absurd rfl (b j hj)
  unfold f_X0_slotOf f_X0_positionOf f_X6_elementOf
  rw [hs, zbd_s, if_neg b_10, eq]
  by_cases h : ∃ e, e < en ∧ t 7 (5 * j + e) = x
  · obtain ⟨e, he, hx⟩ := h
    have hd : ∀ i, i < en → t 7 (5 * j + i) = x → i = e := fun i hi q => hB.2.2.2.2.2.1 j i e hj (by omega) (by omega) (q.trans hx.symm)
    left
    refine ⟨e, he, by omega, hx, ?_⟩
    rw [lp_h (by omega) hen s6 x he (by rw [a10 _ (by omega)]; exact hx) (fun i hi q => hd i hi (by rw [← a10 _ (by omega)]; exact q)) e 0 (N + 3000) (by omega) (by omega), lm_h (by omega) hen een x he hx hd e 0 (N + 3000) _ (by omega) (by omega), zbd_s, if_neg (nI_m1 (by omega)), pk_mul, nI_add, Nat.mul_comm j 5]
    exact ⟨rfl, rfl, rfl⟩
  · have hn : ∀ e, e < en → t 7 (5 * j + e) ≠ x := fun e he q => h ⟨e, he, q⟩
    right
    refine ⟨hn, ?_⟩
    rw [lp_c (by omega) hen s6 x en 0 (N + 3000) (by omega) (by omega) (fun e _ he => by rw [a10 _ (by omega)]; exact hn e he), lm_c (by omega) hen een x _ en 0 (N + 3000) (by omega) (by omega) (fun e _ he => hn e he)]
    exact ⟨rfl, rfl, rfl⟩
theorem c_sort {M v : Nat} {s t : zS} (hE : iE v (s 19) (s 20) (s 21) (s 22) (s 23) (s 24) (t 15) (t 16) (t 17) (t 18) (t 19) (t 20)) (x y : Int32) : (f_X3_isSort M s x y = some (nI 1) ∧ f_X6_isSort M t x y = some (nI 1) ∧ ∃ j, j < v ∧ x = nI j ∧ t 16 j = y) ∨ (f_X3_isSort M s x y = some (nI 0) ∧ f_X6_isSort M t x y = some (nI 0) ∧ ∀ j, j < v → x = nI j → t 16 j ≠ y) := by
  unfold f_X3_isSort f_X6_isSort
  obtain ⟨f1, f2, f3, f4, -⟩ := id hE
  rcases c_val (M := M) hE x with ⟨a, b, j, hj, rfl⟩ | ⟨a, b, c⟩
  · rw [a, b, zbd_s, zbd_s, if_neg b_10, if_neg b_10, zin_t (by omega), zcl (by omega), zq_t, zq_t, f4 j (by omega)]
    by_cases q : t 16 j = y
    · rw [if_pos q]
      exact Or.inl ⟨rfl, rfl, j, hj, rfl, q⟩
    · rw [if_neg q]
      refine Or.inr ⟨rfl, rfl, fun i hi e => ?_⟩
      have : j = i := nI_inj (by omega) (by omega) e
      subst this
      exact q
  · rw [a, b]
    exact Or.inr ⟨rfl, rfl, fun i hi e => absurd e (c i hi)⟩
theorem c_mkof {M m v : Nat} {s t : zS} (hE : iE v (s 19) (s 20) (s 21) (s 22) (s 23) (s 24) (t 15) (t 16) (t 17) (t 18) (t 19) (t 20)) (hm : m ≤ 12) {x j : Nat} (hx : x < v) (hj : j < m) (q1 : t 16 x = nI 2) (q2 : t 17 x = nI j) : f_X3_markOf M s (nI x) = some (nI j) := by
  obtain ⟨f1, f2, f3, f4, f5, f6, f7, f8, f9, f10⟩ := hE
  unfold f_X3_markOf
  rw [zin_t (by omega), zcl (by omega), zq_t, f9 x hx, if_pos q1, q2, nI_add, pk_sub (by omega), Nat.add_sub_cancel_left]
theorem c_prt {M v : Nat} {s t : zS} (hE : iE v (s 19) (s 20) (s 21) (s 22) (s 23) (s 24) (t 15) (t 16) (t 17) (t 18) (t 19) (t 20)) {x e : Nat} (hx : x < v) (he : e < 5) : f_X3_partAt M s (nI x) (nI e) = some (t 20 (5 * x + e)) := by
  obtain ⟨f1, f2, f3, f4, f5, f6, f7, f8, f9, f10⟩ := hE
  unfold f_X3_partAt
  rw [pk_mul, nI_add, Nat.mul_comm x 5, zin_t (by omega), zcl (by omega), zq_t, f7 _ (by omega)]
theorem c_elm {M m v : Nat} {s t : zS} (hE : iE v (s 19) (s 20) (s 21) (s 22) (s 23) (s 24) (t 15) (t 16) (t 17) (t 18) (t 19) (t 20)) (hB : iB m (t 6) (t 7) (t 8) (t 4) (t 5)) (hG : iG m v (s 15) (t 6) (t 8) (t 9) (t 10) (t 16) (t 17) (t 18) (t 19) (t 20)) (hm : m ≤ 12) {x j e : Nat} (hx : x < v) (hj : j < m) (q1 : t 16 x = nI 2) (q2 : t 17 x = nI j) (he : e < enn (t 6) j) : f_X3_elementAt M s (nI x) (nI e) = some (inn (t 17) (t 20) (t 10) x e) ∧ f_X6_inner M t (nI x) (nI e) = some (inn (t 17) (t 20) (t 10) x e) := by
  obtain ⟨en, hen, een⟩ := hB.1 j (by omega)
  have eq := enn_of een hen
  have hv := hE.1
  constructor
  · unfold f_X3_elementAt inn
    rw [c_prt hE hx (by omega), zbd_s, q2, zcl (n := j) (by omega)]
    by_cases c : t 20 (5 * x + e) = -1
    · rw [if_pos c, if_pos c, c_mkof hE hm hx hj q1 q2, zbd_s, pk_mul, nI_add, Nat.mul_comm j 5, zin_t (by omega), zcl (by omega), zq_t, (hG.1 j e hj he).1]
    · rw [if_neg c, if_neg c]
  · unfold f_X6_inner inn
    rw [pk_mul, nI_add, zin_t (show 5 * x + e < 500 by omega), zcl (n := 5 * x + e) (by omega), zin_t (show x < 100 by omega), zcl (n := x) (by omega), zq_t, zq_t, if_pos q1]
    by_cases c : t 20 (5 * x + e) = -1
    · rw [if_pos c, if_pos c, q2, pk_mul, nI_add, zin_t (show 5 * j + e < 60 by omega), zcl (n := 5 * j + e) (by omega), zcl (n := j) (by omega)]
      rfl
    · rw [if_neg c, if_neg c]
theorem s_ne {t16 : Nat → Int32} {x : Nat} {a b : Nat} (h : t16 x = nI a) (hab : a ≠ b) (ha : a < 100) (hb : b < 100) : t16 x ≠ nI b := fun q => hab (nI_inj (by omega) (by omega) (h.symm.trans q))
theorem o_part {N : Nat} {s t : zS} (h : Iv s t) (x1 x2 : Int32) : ∃ r, f_X5_part (N + 3000) s x1 x2 = some r ∧ f_X6_part (N + 3000) t x1 x2 = some r := by
  obtain ⟨m, p, v, u, hA, hB, hC, hD, hE, hF, hG, hH, hJ, hK⟩ := h
  have hm := hA.1
  obtain ⟨f1, f2, f3, f4, f5, f6, f7, f8, f9, f10⟩ := id hE
  unfold f_X5_part f_X6_part
  rcases c_val (M := N + 3000) hE x1 with ⟨a, b, x, hx, rfl⟩ | ⟨a, b, c⟩
  · rw [b, zbd_s, if_neg b_10, zin_t (show x < 100 by omega), zcl (n := x) (by omega), zq_t, zq_t, zq_t]
    obtain ⟨-, q⟩ := hF x hx
    rcases q with ⟨q, -⟩ | ⟨q, -, n, hn, en, hc⟩ | ⟨q, j, hj, ej, hc⟩
    · have d1 : f_X3_isSort (N + 3000) s (nI x) (nI 1) = some (nI 0) := by
        rcases c_sort (M := N + 3000) hE (nI x) (nI 1) with ⟨-, -, y, hy, e, e2⟩ | ⟨a, -⟩
        · rw [nI_inj (by omega) (by omega) e] at q
          exact absurd e2 (s_ne q (by omega) (by omega) (by omega))
        · exact a
      have d2 : f_X3_isSort (N + 3000) s (nI x) (nI 2) = some (nI 0) := by
        rcases c_sort (M := N + 3000) hE (nI x) (nI 2) with ⟨-, -, y, hy, e, e2⟩ | ⟨a, -⟩
        · rw [nI_inj (by omega) (by omega) e] at q
          exact absurd e2 (s_ne q (by omega) (by omega) (by omega))
        · exact a
      rw [d1, d2, q]
      exact ⟨-2, rfl, rfl⟩
    · have d1 : f_X3_isSort (N + 3000) s (nI x) (nI 1) = some (nI 1) := by
        rcases c_sort (M := N + 3000) hE (nI x) (nI 1) with ⟨a, -⟩ | ⟨-, -, c⟩
        · exact a
        · exact absurd q (c x hx rfl)
      unfold f_X3_inRow
      rw [d1, q, zbd_s, if_neg b_10, zbd_s, if_neg b_10, if_neg (show ¬ (nI 1 : Int32) = 0 by decide), if_pos rfl, zin_t (show x < 100 by omega), zcl (n := x) (by omega), zq_t, f5 x (by omega), en]
      by_cases c1 : x2 < 0
      · rw [if_pos c1, if_pos c1]
        exact ⟨-1, rfl, rfl⟩
      rw [if_neg c1, if_neg c1]
      rcases zix x2 n with ⟨e, he, rfl⟩ | hx2
      · rw [if_pos (nI_lt he (by omega)), if_pos (nI_lt he (by omega)), c_prt hE hx (by omega), pk_mul, nI_add, zin_t (by omega), zcl (by omega)]
        exact ⟨_, rfl, rfl⟩
      · have c2 := (zix_out (by omega) hx2).resolve_left c1
        rw [if_neg c2, if_neg c2]
        exact ⟨-1, rfl, rfl⟩
    · have d1 : f_X3_isSort (N + 3000) s (nI x) (nI 1) = some (nI 0) := by
        rcases c_sort (M := N + 3000) hE (nI x) (nI 1) with ⟨-, -, y, hy, e, e2⟩ | ⟨a, -⟩
        · rw [nI_inj (by omega) (by omega) e] at q
          exact absurd e2 (s_ne q (by omega) (by omega) (by omega))
        · exact a
      have d2 : f_X3_isSort (N + 3000) s (nI x) (nI 2) = some (nI 1) := by
        rcases c_sort (M := N + 3000) hE (nI x) (nI 2) with ⟨a, -⟩ | ⟨-, -, c⟩
        · exact a
        · exact absurd q (c x hx rfl)
      unfold f_X3_elementByName
      rw [d1, d2, zbd_s, zbd_s, if_pos b_00, if_neg b_10, q, if_neg (show ¬ (nI 2 : Int32) = 0 by decide), if_neg (show ¬ (nI 2 : Int32) = nI 1 by decide), c_mkof hE hm hx hj q ej, zbd_s, ej, zq_t]
      rcases c_pos (N := N) hA hB hj x2 with ⟨e, he, he5, -, p1, -, p3⟩ | ⟨-, p1, -, p3⟩
      · rw [p1, p3, zbd_s, zbd_s, if_neg (nI_m1 (by omega)), if_neg (nI_m1 (by omega)), pk_mul, pk_sub (by omega), Nat.add_sub_cancel_left, (c_elm (M := N + 3000) hE hB hG hm hx hj q ej he).1, (c_elm (M := N + 3000) hE hB hG hm hx hj q ej he).2]
        exact ⟨_, rfl, rfl⟩
      · rw [p1, p3]
        exact ⟨-1, rfl, rfl⟩
  · have d : ∀ y, f_X3_isSort (N + 3000) s x1 y = some (nI 0) := by
      intro y
      rcases c_sort (M := N + 3000) hE x1 y with ⟨-, -, z, hz, e, -⟩ | ⟨a, -⟩
      · exact absurd e (c z hz)
      · exact a
    rw [b, d, d]
    exact ⟨-2, rfl, rfl⟩
