/-! WHOLE: the class's way. -/
section WC
variable {m v : Nat} {s t : zS}
theorem bo_1 : ((nI 1 : Int32) &&& 1 == nI 1) = true := by decide
theorem bo_0 : ((nI 0 : Int32) &&& 1 == nI 0) = true := by decide
theorem w_row {M : Nat} {rec : Nat → zS → Int32 → Int32 → Option (Int32)} {P : Nat → Prop} {x n d : Nat} (hE : iE v (s 19) (s 20) (s 21) (s 22) (s 23) (s 24) (t 15) (t 16) (t 17) (t 18) (t 19) (t 20)) (hx : x < v) (hn : n ≤ 4) (en : t 18 x = nI n)
    (hr : ∀ e, e < n → (P e ∧ rec 0 s (t 20 (5 * x + e)) (nI (d + 1)) = some (nI 1)) ∨ (¬ P e ∧ rec 0 s (t 20 (5 * x + e)) (nI (d + 1)) = some (nI 0))) : ∀ c k K, k + c = n → c < K →
    ((∀ e, k ≤ e → e < n → P e) ∧ l_X3_areAllWhole M rec K s (nI x) (nI d) (nI k) = some (nI 1)) ∨ ((¬ ∀ e, k ≤ e → e < n → P e) ∧ l_X3_areAllWhole M rec K s (nI x) (nI d) (nI k) = some (nI 0)) := by
  obtain ⟨f1, f2, f3, f4, f5, f6, f7, f8, f9, f10⟩ := id hE
  intro c
  induction c with
  | zero =>
    intro k K hk hK
    obtain ⟨K, rfl⟩ : ∃ K', K = K' + 1 := ⟨K - 1, by omega⟩
    left
    refine ⟨fun e h1 h2 => absurd h2 (by omega), ?_⟩
    rw [l_X3_areAllWhole, zin_t (show x < 100 by omega), zq_t, zcl (n := x) (by omega), f5 x (by omega), en, if_neg (nI_nlt (by omega) (by omega))]
  | succ c ih =>
    intro k K hk hK
    obtain ⟨K, rfl⟩ : ∃ K', K = K' + 1 := ⟨K - 1, by omega⟩
    rw [l_X3_areAllWhole, zin_t (show x < 100 by omega), zq_t, zcl (n := x) (by omega), f5 x (by omega), en, if_pos (nI_lt (by omega) (by omega)), c_prt hE hx (by omega), zbd_s, nI_add]
    rcases hr k (by omega) with ⟨h1, h2⟩ | ⟨h1, h2⟩
    · rw [h2, zbd_s, if_neg b_10, nI_add]
      rcases ih (k + 1) K (by omega) (by omega) with ⟨g1, g2⟩ | ⟨g1, g2⟩
      · left
        refine ⟨fun e h3 h4 => ?_, g2⟩
        rcases Nat.lt_or_ge k e with h5 | h5
        · exact g1 e h5 h4
        · rw [show e = k by omega]
          exact h1
      · exact Or.inr ⟨fun z => g1 (fun e h3 h4 => z e (by omega) h4), g2⟩
    · right
      rw [h2, zbd_s, if_pos b_00]
      exact ⟨fun z => h1 (z k (by omega) (by omega)), rfl⟩
theorem w_ins {M : Nat} {rec : Nat → zS → Int32 → Int32 → Option (Int32)} {P : Nat → Prop} {x j d : Nat} (hA : iA m (s 2) (s 3) (s 4) (s 5) (s 6) (s 8) (s 9) (s 12) (s 13) (s 14) (t 0) (t 1) (t 2) (t 3) (t 6) (t 4) (t 5) (t 7) (t 8) (t 9)) (hB : iB m (t 6) (t 7) (t 8) (t 4) (t 5)) (hE : iE v (s 19) (s 20) (s 21) (s 22) (s 23) (s 24) (t 15) (t 16) (t 17) (t 18) (t 19) (t 20)) (hG : iG m v (s 15) (t 6) (t 8) (t 9) (t 10) (t 16) (t 17) (t 18) (t 19) (t 20)) (hx : x < v) (hj : j < m) (q1 : t 16 x = nI 2) (q2 : t 17 x = nI j)
    (hr : ∀ e, e < enn (t 6) j → (P e ∧ ((t 20 (5 * x + e) = -1 ∧ inn (t 17) (t 20) (t 10) x e ≠ -1) ∨ (t 20 (5 * x + e) ≠ -1 ∧ rec 0 s (t 20 (5 * x + e)) (nI (d + 1)) = some (nI 1)))) ∨
      (¬ P e ∧ ((t 20 (5 * x + e) = -1 ∧ inn (t 17) (t 20) (t 10) x e = -1) ∨ (t 20 (5 * x + e) ≠ -1 ∧ rec 0 s (t 20 (5 * x + e)) (nI (d + 1)) = some (nI 0))))) : ∀ c k K, k + c = enn (t 6) j → c < K →
    ((∀ e, k ≤ e → e < enn (t 6) j → P e) ∧ l_X3_hasAllElementsWhole M rec K s (nI x) (nI d) (nI k) = some (nI 1)) ∨ ((¬ ∀ e, k ≤ e → e < enn (t 6) j → P e) ∧ l_X3_hasAllElementsWhole M rec K s (nI x) (nI d) (nI k) = some (nI 0)) := by
  obtain ⟨a1, a2, a3, a4, a5, a6, a7, -⟩ := id hA
  obtain ⟨en, hen, een⟩ := hB.1 j (by omega)
  have eq := enn_of een hen
  rw [eq] at hr ⊢
  have hv := hE.1
  have hw : f_X3_howManyElements M s (nI x) = some (nI en) := by
    unfold f_X3_howManyElements
    rw [c_mkof hE a1 hx hj q1 q2, zbd_s, zin_t (show j < 12 by omega), zq_t, zcl (n := j) (by omega), a7 j (by omega), een]
  intro c
  induction c with
  | zero =>
    intro k K hk hK
    obtain ⟨K, rfl⟩ : ∃ K', K = K' + 1 := ⟨K - 1, by omega⟩
    left
    refine ⟨fun e h1 h2 => absurd h2 (by omega), ?_⟩
    rw [l_X3_hasAllElementsWhole, hw, zbd_s, if_neg (nI_nlt (by omega) (by omega))]
  | succ c ih =>
    intro k K hk hK
    obtain ⟨K, rfl⟩ : ∃ K', K = K' + 1 := ⟨K - 1, by omega⟩
    have go : ∀ h1 : P k, ((∀ e, k ≤ e → e < en → P e) ∧ l_X3_hasAllElementsWhole M rec K s (nI x) (nI d) (nI (k + 1)) = some (nI 1)) ∨ ((¬ ∀ e, k ≤ e → e < en → P e) ∧ l_X3_hasAllElementsWhole M rec K s (nI x) (nI d) (nI (k + 1)) = some (nI 0)) := by
      intro h1
      rcases ih (k + 1) K (by omega) (by omega) with ⟨g1, g2⟩ | ⟨g1, g2⟩
      · left
        refine ⟨fun e h3 h4 => ?_, g2⟩
        rcases Nat.lt_or_ge k e with h5 | h5
        · exact g1 e h5 h4
        · rw [show e = k by omega]
          exact h1
      · exact Or.inr ⟨fun z => g1 (fun e h3 h4 => z e (by omega) h4), g2⟩
    rw [l_X3_hasAllElementsWhole, hw, zbd_s, if_pos (nI_lt (by omega) (by omega)), c_prt hE hx (by omega), zbd_s, nI_add, nI_add]
    rcases hr k (by omega) with ⟨h1, ⟨h2, h3⟩ | ⟨h2, h3⟩⟩ | ⟨h1, ⟨h2, h3⟩ | ⟨h2, h3⟩⟩
    · rw [if_pos h2, (c_elm hE hB hG a1 hx hj q1 q2 (by omega)).1, zbd_s, if_neg h3]
      exact go h1
    · rw [if_neg h2, h3, zbd_s, if_neg b_10]
      exact go h1
    · rw [if_pos h2, (c_elm hE hB hG a1 hx hj q1 q2 (by omega)).1, zbd_s, if_pos h3]
      exact Or.inr ⟨fun z => h1 (z k (by omega) (by omega)), rfl⟩
    · rw [if_neg h2, h3, zbd_s, if_pos b_00]
      exact Or.inr ⟨fun z => h1 (z k (by omega) (by omega)), rfl⟩
theorem w_c {M : Nat} (hM : 10 < M) (hA : iA m (s 2) (s 3) (s 4) (s 5) (s 6) (s 8) (s 9) (s 12) (s 13) (s 14) (t 0) (t 1) (t 2) (t 3) (t 6) (t 4) (t 5) (t 7) (t 8) (t 9)) (hB : iB m (t 6) (t 7) (t 8) (t 4) (t 5)) (hE : iE v (s 19) (s 20) (s 21) (s 22) (s 23) (s 24) (t 15) (t 16) (t 17) (t 18) (t 19) (t 20)) (hF : iF m v (t 6) (t 8) (t 9) (t 16) (t 17) (t 18) (t 19) (t 20)) (hG : iG m v (s 15) (t 6) (t 8) (t 9) (t 10) (t 16) (t 17) (t 18) (t 19) (t 20)) : ∀ n x d K, x < v → hgt (t 16) (t 17) (t 18) (t 20) (t 6) (t 10) n x → n + d ≤ 16 → n + n < K →
    (whl (t 16) (t 17) (t 18) (t 20) (t 6) (t 10) n x ∧ g_X3_isWhole M K 0 s (nI x) (nI d) = some (nI 1)) ∨ (¬ whl (t 16) (t 17) (t 18) (t 20) (t 6) (t 10) n x ∧ g_X3_isWhole M K 0 s (nI x) (nI d) = some (nI 0)) := by
  have hv := hE.1
  have hm := hA.1
  intro n
  induction n with
  | zero =>
    intro x d K hx hh hd hK
    obtain ⟨K, rfl⟩ : ∃ K', K = K' + 1 := ⟨K - 1, by omega⟩
    left
    refine ⟨hh, ?_⟩
    have hh : t 16 x = nI 0 := hh
    rw [g_X3_isWhole]
    show b_X3_isWhole _ _ _ _ _ = _
    unfold b_X3_isWhole
    rcases c_val (M := M) hE (nI x) with ⟨a, -⟩ | ⟨-, -, c⟩
    · rw [a, zbd_s, if_neg b_10, if_neg (nI_nlt (by omega) (by omega)), zin_t (show x < 100 by omega), zq_t, zcl (n := x) (by omega), hE.2.2.2.1 x (by omega), hh, if_neg (by decide), if_neg (by decide)]
    · exact absurd rfl (c x hx)
  | succ n ih =>
    intro x d K hx hh hd hK
    obtain ⟨K, rfl⟩ : ∃ K', K = K' + 2 := ⟨K - 2, by omega⟩
    have e1 : f_X3_has M s (nI x) = some (nI 1) := by
      rcases c_val (M := M) hE (nI x) with ⟨a, -⟩ | ⟨-, -, c⟩
      · exact a
      · exact absurd rfl (c x hx)
    have e0 : g_X3_isWhole M (K + 2) 0 s (nI x) (nI d) = if t 16 x = nI 1 then zbd (l_X3_areAllWhole M (g_X3_isWhole M K) M s (nI x) (nI d) (nI 0)) (fun q2 => zq (q2 &&& 1 == q2) <| some q2) else if t 16 x = nI 2 then zbd (l_X3_hasAllElementsWhole M (g_X3_isWhole M K) M s (nI x) (nI d) (nI 0)) (fun q2 => zq (q2 &&& 1 == q2) <| some q2) else some (nI 1) := by
      rw [g_X3_isWhole]
      show b_X3_isWhole _ _ _ _ _ = _
      unfold b_X3_isWhole
      rw [e1, zbd_s, if_neg b_10, if_neg (nI_nlt (by omega) (by omega)), zin_t (show x < 100 by omega), zq_t, zcl (n := x) (by omega), hE.2.2.2.1 x (by omega)]
      rfl
    rw [e0, whl_s hv hB hF hx]
    have hk := (w_kid hm hv hB hF hG hx).2
    obtain ⟨-, q⟩ := hF x hx
    rcases q with ⟨q, -⟩ | ⟨q, -, n', hn, en, hc⟩ | ⟨q, j, hj, ej, hc⟩
    · rw [q, if_neg (by decide), if_neg (by decide)]
      left
      refine ⟨fun e he => absurd he ?_, rfl⟩
      unfold wth
      rw [q, if_neg (by decide), if_neg (by decide)]
      omega
    · have ew : wth (t 16) (t 17) (t 18) (t 6) x = n' := by
        unfold wth
        rw [q, if_pos rfl, en, zcl (by omega)]
      have ek : ∀ e, kid (t 16) (t 17) (t 20) (t 10) x e = t 20 (5 * x + e) := by
        intro e
        unfold kid
        rw [q, if_neg (by decide)]
      rw [ew]
      rw [hgt, ew] at hh
      simp only [ek] at hh ⊢
      rw [q, if_pos rfl]
      have hr : ∀ e, e < n' → ((t 20 (5 * x + e) ≠ -1 ∧ whl (t 16) (t 17) (t 18) (t 20) (t 6) (t 10) n (t 20 (5 * x + e)).toNatClampNeg) ∧ g_X3_isWhole M K 0 s (t 20 (5 * x + e)) (nI (d + 1)) = some (nI 1)) ∨ (¬ (t 20 (5 * x + e) ≠ -1 ∧ whl (t 16) (t 17) (t 18) (t 20) (t 6) (t 10) n (t 20 (5 * x + e)).toNatClampNeg) ∧ g_X3_isWhole M K 0 s (t 20 (5 * x + e)) (nI (d + 1)) = some (nI 0)) := by
        intro e he
        obtain ⟨y, y1, y2, -⟩ := hc e he
        have hh := hh e he (by rw [y2]; exact nI_m1 (by omega))
        rw [y2, zcl (by omega)] at hh
        rw [y2, zcl (by omega)]
        rcases ih y (d + 1) K y1 hh (by omega) (by omega) with ⟨z1, z2⟩ | ⟨z1, z2⟩
        · exact Or.inl ⟨⟨nI_m1 (by omega), z1⟩, z2⟩
        · exact Or.inr ⟨fun z => z1 z.2, z2⟩
      rcases w_row (M := M) (P := fun e => t 20 (5 * x + e) ≠ -1 ∧ whl (t 16) (t 17) (t 18) (t 20) (t 6) (t 10) n (t 20 (5 * x + e)).toNatClampNeg) hE hx hn en hr n' 0 M (by omega) (by omega) with ⟨g1, g2⟩ | ⟨g1, g2⟩
      · left
        rw [g2, zbd_s, bo_1, zq_t]
        exact ⟨fun e he => g1 e (by omega) he, rfl⟩
      · right
        rw [g2, zbd_s, bo_0, zq_t]
        exact ⟨fun z => g1 (fun e _ he => z e he), rfl⟩
    · have ew : wth (t 16) (t 17) (t 18) (t 6) x = enn (t 6) j := by
        unfold wth
        rw [q, if_neg (by decide), if_pos rfl, ej, zcl (by omega)]
      have ek : ∀ e, kid (t 16) (t 17) (t 20) (t 10) x e = inn (t 17) (t 20) (t 10) x e := by
        intro e
        unfold kid
        rw [q, if_pos rfl]
      rw [ew]
      rw [hgt, ew] at hh
      simp only [ek] at hh ⊢
      rw [q, if_neg (by decide), if_pos rfl]
      obtain ⟨en, hen, een⟩ := hB.1 j (by omega)
      have eq := enn_of een hen
      have hr : ∀ e, e < enn (t 6) j → ((inn (t 17) (t 20) (t 10) x e ≠ -1 ∧ whl (t 16) (t 17) (t 18) (t 20) (t 6) (t 10) n (inn (t 17) (t 20) (t 10) x e).toNatClampNeg) ∧ ((t 20 (5 * x + e) = -1 ∧ inn (t 17) (t 20) (t 10) x e ≠ -1) ∨ (t 20 (5 * x + e) ≠ -1 ∧ g_X3_isWhole M K 0 s (t 20 (5 * x + e)) (nI (d + 1)) = some (nI 1)))) ∨ (¬ (inn (t 17) (t 20) (t 10) x e ≠ -1 ∧ whl (t 16) (t 17) (t 18) (t 20) (t 6) (t 10) n (inn (t 17) (t 20) (t 10) x e).toNatClampNeg) ∧ ((t 20 (5 * x + e) = -1 ∧ inn (t 17) (t 20) (t 10) x e = -1) ∨ (t 20 (5 * x + e) ≠ -1 ∧ g_X3_isWhole M K 0 s (t 20 (5 * x + e)) (nI (d + 1)) = some (nI 0)))) := by
        intro e he
        by_cases hz : t 20 (5 * x + e) = -1
        · have ei : inn (t 17) (t 20) (t 10) x e = t 10 (5 * j + e) := by
            unfold inn
            rw [if_pos hz, ej, zcl (by omega)]
          rcases (hG.1 j e hj he).2 with g | ⟨y, y1, y2, -, -, y5⟩
          · right
            refine ⟨fun z => z.1 (by rw [ei]; exact g), Or.inl ⟨hz, by rw [ei]; exact g⟩⟩
          · have hh := hh e he (by rw [ei, y2]; exact nI_m1 (by omega))
            rw [ei, y2, zcl (by omega)] at hh
            rw [ei, y2, zcl (by omega)]
            have w := (whl_n hm hv hB hF hG n 16 y (by omega) y1 hh).symm
            have w8 := h_all hm hv hB hF hG y y1
            have w7 := whl_n hm hv hB hF hG 7 8 y (by omega) y1 w8
            have w6 := whl_n hm hv hB hF hG 7 16 y (by omega) y1 w8
            exact Or.inl ⟨⟨nI_m1 (by omega), w.mpr (w6.mpr (w7.mp y5))⟩, Or.inl ⟨hz, nI_m1 (by omega)⟩⟩
        · have ei : inn (t 17) (t 20) (t 10) x e = t 20 (5 * x + e) := by
            unfold inn
            rw [if_neg hz]
          rcases hc e he with g | ⟨y, y1, y2, -⟩
          · exact absurd g hz
          · have hh := hh e he (by rw [ei, y2]; exact nI_m1 (by omega))
            rw [ei, y2, zcl (by omega)] at hh
            rw [ei, y2, zcl (by omega)]
            rcases ih y (d + 1) K y1 hh (by omega) (by omega) with ⟨z1, z2⟩ | ⟨z1, z2⟩
            · exact Or.inl ⟨⟨nI_m1 (by omega), z1⟩, Or.inr ⟨nI_m1 (by omega), z2⟩⟩
            · exact Or.inr ⟨fun z => z1 z.2, Or.inr ⟨nI_m1 (by omega), z2⟩⟩
      rcases w_ins (M := M) (P := fun e => inn (t 17) (t 20) (t 10) x e ≠ -1 ∧ whl (t 16) (t 17) (t 18) (t 20) (t 6) (t 10) n (inn (t 17) (t 20) (t 10) x e).toNatClampNeg) hA hB hE hG hx hj q ej hr (enn (t 6) j) 0 M (by omega) (by omega) with ⟨g1, g2⟩ | ⟨g1, g2⟩
      · left
        rw [g2, zbd_s, bo_1, zq_t]
        exact ⟨fun e he => g1 e (by omega) he, rfl⟩
      · right
        rw [g2, zbd_s, bo_0, zq_t]
        exact ⟨fun z => g1 (fun e _ he => z e he), rfl⟩
end WC
