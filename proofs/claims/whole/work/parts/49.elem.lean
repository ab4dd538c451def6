/-! element. -/
theorem enn_up {t6 : Nat → Int32} {j e : Nat} (he : e < 5) (x : Nat) : enn (upd t6 j (nI (e + 1))) x = if x = j then e + 1 else enn t6 x := by
  unfold enn
  by_cases c : x = j
  · rw [c, upd_s, if_pos rfl, zcl (by omega)]
  · rw [upd_n _ _ c, if_neg c]
theorem inv_elem {m p v u : Nat} {s t : zS} (h : Inv m p v u s t) {j e n l : Nat} {x f : Int32} (hj : j < m) (he : e < 5) (ee : t 6 j = nI e) (hn : n ≤ 9) (hnn : ∀ e', e' < e → t 7 (5 * j + e') ≠ nI n) (hk : kOK m x) (t5 : t 5 j = -1) (hi : ∀ x, x < v → ¬ (t 16 x = nI 2 ∧ t 17 x = nI j))
    (hp : ∀ a, a < m → ¬ pth m (fun a c => edg (t 6) (t 8) a c ∨ (a = j ∧ x = nI (10 + c))) 3 a) (hl : l < 2 ^ 12) (bl : ∀ c, c < 12 → (l.testBit c = true ↔ x = nI (10 + c))) :
    Inv m p v u (zup (zup (zup (zup (zup s 12 (5 * j + e) (nI n)) 13 (5 * j + e) x) 14 (5 * j + e) f) 7 j (s 7 j ||| nI l)) 6 j (nI (e + 1))) (zup (zup (zup (zup (zup t 7 (5 * j + e) (nI n)) 8 (5 * j + e) x) 9 (5 * j + e) f) 10 (5 * j + e) (-1)) 6 j (nI (e + 1))) := by
  obtain ⟨hA, hB, hC, hD, hE, hF, hG, hH, hJ, hK, hL, hM⟩ := h
  obtain ⟨a1, a2, a3, a4, a5, a6, a7, a8, a9, a10, a11, a12⟩ := id hA
  obtain ⟨b1, b2, b3, b4, b5, b6, b7⟩ := id hB
  have hv := hE.1
  have eq : enn (t 6) j = e := enn_of ee (by omega)
  have le5 : ∀ x, x < 12 → enn (t 6) x ≤ 5 := by
    intro x hx
    obtain ⟨k, h1, h2⟩ := b1 x hx
    rw [enn_of h2 h1]
    exact h1
  have en' := fun x => enn_up (t6 := t 6) (j := j) he x
  have e8 : ∀ a c, a < 12 → (edg (upd (t 6) j (nI (e + 1))) (upd (t 8) (5 * j + e) x) a c ↔ (edg (t 6) (t 8) a c ∨ (a = j ∧ x = nI (10 + c)))) := by
    intro a c ha
    unfold edg
    rw [en' a]
    by_cases q : a = j
    · subst q
      rw [if_pos rfl, eq]
      constructor
      · rintro ⟨e', h1, h2⟩
        by_cases q : e' = e
        · rw [q, upd_s] at h2
          exact Or.inr ⟨rfl, h2⟩
        · rw [upd_n _ _ (by omega)] at h2
          exact Or.inl ⟨e', by omega, h2⟩
      · rintro (⟨e', h1, h2⟩ | ⟨-, h2⟩)
        · exact ⟨e', by omega, by rw [upd_n _ _ (by omega)]; exact h2⟩
        · exact ⟨e, by omega, by rw [upd_s]; exact h2⟩
    · rw [if_neg q]
      have := le5 a ha
      constructor
      · rintro ⟨e', h1, h2⟩
        rw [upd_n _ _ (by omega)] at h2
        exact Or.inl ⟨e', h1, h2⟩
      · rintro (⟨e', h1, h2⟩ | ⟨h1, -⟩)
        · exact ⟨e', h1, by rw [upd_n _ _ (by omega)]; exact h2⟩
        · exact absurd h1 q
  have kw := whl_keep (b6 := upd (t 6) j (nI (e + 1))) (b10 := upd (t 10) (5 * j + e) (-1)) (b16 := t 16) (b17 := t 17) (b18 := t 18) (b20 := t 20) hB.1 a1 hv hF hG (fun x hx q => ⟨rfl, rfl, rfl, fun _ _ => rfl⟩) (fun x j' hx hj' q1 q2 => by
    have q : j' ≠ j := fun c => hi x hx ⟨q1, by rw [← c]; exact q2⟩
    rw [en' j', if_neg q]
    have := le5 j' (by omega)
    exact ⟨rfl, fun e' he' => by rw [upd_n _ _ (by omega)]⟩)
  have ix : ∀ j' e', j' < 12 → j' ≠ j → e' < enn (t 6) j' → 5 * j' + e' ≠ 5 * j + e := by
    intro j' e' h1 h2 h3
    have := le5 j' h1
    omega
  have hk8 : ∀ a e', a < m → e' < enn (upd (t 6) j (nI (e + 1))) a → kOK m (upd (t 8) (5 * j + e) x (5 * a + e')) := by
    intro a e' ha he'
    rw [en' a] at he'
    by_cases q : a = j
    · rw [if_pos q] at he'
      subst q
      by_cases q : e' = e
      · rw [q, upd_s]
        exact hk
      · rw [upd_n _ _ (by omega)]
        exact (b5 a e' ha (by omega)).1
    · rw [if_neg q] at he'
      rw [upd_n _ _ (ix a e' (by omega) q he')]
      exact (b5 a e' ha he').1
  refine ⟨⟨a1, a2, a3, a4, a5, a6, zeq_upd a7 _ _, a8, a9, zeq_upd a10 _ _, zeq_upd a11 _ _, zeq_upd a12 _ _⟩, ⟨?_, ?_, b3, b4, ?_, ?_, ?_⟩, ⟨?_, hC.2.1, hC.2.2⟩, hD, hE, ?_, ⟨?_, ?_⟩, hH, hJ, hK, ⟨hL.1, ?_⟩, hM⟩
  · intro j' hj'
    show ∃ k, k ≤ 5 ∧ upd (t 6) j (nI (e + 1)) j' = nI k
    by_cases q : j' = j
    · rw [q, upd_s]
      exact ⟨e + 1, by omega, rfl⟩
    · rw [upd_n _ _ q]
      exact b1 j' hj'
  · intro j' h1 h2
    show upd (t 6) j (nI (e + 1)) j' = nI 0 ∧ _
    rw [upd_n _ _ (by omega)]
    exact b2 j' h1 h2
  · intro j' e' h1 h2
    refine ⟨hk8 j' e' h1 h2, ?_⟩
    have h2 : e' < enn (upd (t 6) j (nI (e + 1))) j' := h2
    show ∃ k, k ≤ 9 ∧ upd (t 7) (5 * j + e) (nI n) (5 * j' + e') = nI k
    rw [en' j'] at h2
    by_cases q : j' = j
    · rw [if_pos q] at h2
      subst q
      by_cases q : e' = e
      · rw [q, upd_s]
        exact ⟨n, hn, rfl⟩
      · rw [upd_n _ _ (by omega)]
        exact (b5 j' e' h1 (by omega)).2
    · rw [if_neg q] at h2
      rw [upd_n _ _ (ix j' e' (by omega) q h2)]
      exact (b5 j' e' h1 h2).2
  · intro j' e1 e2 h1 h2 h3 h4
    have h2 : e1 < enn (upd (t 6) j (nI (e + 1))) j' := h2
    have h3 : e2 < enn (upd (t 6) j (nI (e + 1))) j' := h3
    have h4 : upd (t 7) (5 * j + e) (nI n) (5 * j' + e1) = upd (t 7) (5 * j + e) (nI n) (5 * j' + e2) := h4
    rw [en' j'] at h2 h3
    by_cases q : j' = j
    · rw [if_pos q] at h2 h3
      subst q
      by_cases q1 : e1 = e <;> by_cases q2 : e2 = e
      · omega
      · rw [q1, upd_s, upd_n _ _ (by omega)] at h4
        exact absurd h4.symm (hnn e2 (by omega))
      · rw [q2, upd_s, upd_n _ _ (by omega)] at h4
        exact absurd h4 (hnn e1 (by omega))
      · rw [upd_n _ _ (by omega), upd_n _ _ (by omega)] at h4
        exact b6 j' e1 e2 h1 (by omega) (by omega) h4
    · rw [if_neg q] at h2 h3
      rw [upd_n _ _ (ix j' e1 (by omega) q h2), upd_n _ _ (ix j' e2 (by omega) q h3)] at h4
      exact b6 j' e1 e2 h1 h2 h3 h4
  · rintro a b c d ha hb hc hd ⟨g1, g2, g3⟩
    have g1 : edg (upd (t 6) j (nI (e + 1))) (upd (t 8) (5 * j + e) x) a b := g1
    have g2 : edg (upd (t 6) j (nI (e + 1))) (upd (t 8) (5 * j + e) x) b c := g2
    have g3 : edg (upd (t 6) j (nI (e + 1))) (upd (t 8) (5 * j + e) x) c d := g3
    have low : ∀ a b, a < 12 → b < 12 → edg (upd (t 6) j (nI (e + 1))) (upd (t 8) (5 * j + e) x) a b → a < m ∧ b < m := by
      rintro a b ha hb ⟨e', h1, h2⟩
      have am : a < m := by
        apply Classical.byContradiction
        intro q
        rw [en' a, if_neg (by omega), enn_of (b2 a (by omega) ha).1 (by omega)] at h1
        omega
      refine ⟨am, ?_⟩
      rcases hk8 a e' am h1 with ⟨k, k1, k2⟩ | ⟨k, k1, k2⟩
      · have := nI_inj (by omega) (by omega) (k2.symm.trans h2)
        omega
      · have := nI_inj (by omega) (by omega) (k2.symm.trans h2)
        omega
    exact hp a (low a b ha hb g1).1 ⟨b, (low a b ha hb g1).2, (e8 a b ha).mp g1, c, (low b c hb hc g2).2, (e8 b c hb).mp g2, d, (low c d hc hd g3).2, (e8 c d hc).mp g3, trivial⟩
  · obtain ⟨b, hb⟩ := hC.1
    refine ⟨fun a => if a = j then b j ||| l else b a, fun a ha => ?_⟩
    show upd (s 7) j (s 7 j ||| nI l) a = _ ∧ _ ∧ ∀ c, c < 12 → (_ ↔ edg (upd (t 6) j (nI (e + 1))) (upd (t 8) (5 * j + e) x) a c)
    dsimp only
    by_cases q : a = j
    · obtain ⟨g1, g2, g3⟩ := hb j (by omega)
      rw [if_pos q, q, upd_s, g1, b_or]
      refine ⟨rfl, Nat.or_lt_two_pow (n := 12) (by omega) hl, fun c hc => ?_⟩
      rw [Nat.testBit_or, Bool.or_eq_true, g3 c hc, bl c hc, e8 j c (by omega)]
      exact ⟨fun z => z.imp id (fun z => ⟨rfl, z⟩), fun z => z.imp id (fun z => z.2)⟩
    · obtain ⟨g1, g2, g3⟩ := hb a ha
      rw [if_neg q, upd_n _ _ q]
      refine ⟨g1, g2, fun c hc => ?_⟩
      rw [g3 c hc, e8 a c ha]
      exact ⟨Or.inl, fun z => z.elim id (fun z => absurd z.1 q)⟩
  · intro y hy
    obtain ⟨q0, q⟩ := hF y hy
    refine ⟨q0, ?_⟩
    rcases q with q | q | ⟨q, j', g1, g2, g3⟩
    · exact Or.inl q
    · exact Or.inr (Or.inl q)
    · refine Or.inr (Or.inr ⟨q, j', g1, g2, fun e' he' => ?_⟩)
      have hjj : j' ≠ j := fun c => hi y hy ⟨q, by rw [← c]; exact g2⟩
      have he' : e' < enn (upd (t 6) j (nI (e + 1))) j' := he'
      rw [en' j', if_neg hjj] at he'
      refine (g3 e' he').imp id ?_
      rintro ⟨z, z1, z2, z3, z4⟩
      refine ⟨z, z1, z2, ?_, z4⟩
      show fts (t 16) (t 17) (upd (t 8) (5 * j + e) x) (upd (t 9) (5 * j + e) f) z (5 * j' + e')
      unfold fts
      rw [upd_n _ _ (ix j' e' (by omega) hjj he'), upd_n _ _ (ix j' e' (by omega) hjj he')]
      exact z3
  · intro j' e' h1 h2
    have h2 : e' < enn (upd (t 6) j (nI (e + 1))) j' := h2
    show s 15 (5 * j' + e') = upd (t 10) (5 * j + e) (-1) (5 * j' + e') ∧ (upd (t 10) (5 * j + e) (-1) (5 * j' + e') = -1 ∨ ∃ y, y < v ∧ upd (t 10) (5 * j + e) (-1) (5 * j' + e') = nI y ∧ fts (t 16) (t 17) (upd (t 8) (5 * j + e) x) (upd (t 9) (5 * j + e) f) y (5 * j' + e') ∧ fin (t 16) (t 19) y ∧ whl (t 16) (t 17) (t 18) (t 20) (upd (t 6) j (nI (e + 1))) (upd (t 10) (5 * j + e) (-1)) 8 y)
    rw [en' j'] at h2
    by_cases q : 5 * j' + e' = 5 * j + e
    · have : j' = j ∧ e' = e := by
        by_cases q2 : j' = j
        · exact ⟨q2, by omega⟩
        · rw [if_neg q2] at h2
          exact absurd q (ix j' e' (by omega) q2 h2)
      rw [q, upd_s]
      exact ⟨hG.2 j e (by omega) (by omega) he, Or.inl rfl⟩
    · have h2' : e' < enn (t 6) j' := by
        by_cases q2 : j' = j
        · rw [if_pos q2] at h2
          subst q2
          omega
        · rw [if_neg q2] at h2
          exact h2
      obtain ⟨g1, g2⟩ := hG.1 j' e' h1 h2'
      rw [upd_n _ _ q]
      refine ⟨g1, g2.imp id ?_⟩
      rintro ⟨y, y1, y2, y3, y4, y5⟩
      refine ⟨y, y1, y2, ?_, y4, (kw 8 y y1 y4).mpr y5⟩
      unfold fts
      rw [upd_n _ _ q, upd_n _ _ q]
      exact y3
  · intro j' e' h1 h2 h3
    have h2 : enn (upd (t 6) j (nI (e + 1))) j' ≤ e' := h2
    rw [en' j'] at h2
    show s 15 (5 * j' + e') = -1
    refine hG.2 j' e' h1 ?_ h3
    by_cases q2 : j' = j
    · rw [if_pos q2] at h2
      subst q2
      omega
    · rw [if_neg q2] at h2
      exact h2
  · intro j' c h1 h2 h3
    obtain ⟨g1, g2, e', g3, g4, g5⟩ := hL.2 j' c h1 h2 h3
    have q : c ≠ j := fun z => g1 (by rw [z]; exact t5)
    refine ⟨g1, g2, e', ?_, ?_, ?_⟩
    · show e' < enn (upd (t 6) j (nI (e + 1))) c
      rw [en' c, if_neg q]
      exact g3
    · show upd (t 7) (5 * j + e) (nI n) (5 * c + e') = nI 0
      rw [upd_n _ _ (ix c e' h2 q g3)]
      exact g4
    · show upd (t 9) (5 * j + e) f (5 * c + e') ≠ 0
      rw [upd_n _ _ (ix c e' h2 q g3)]
      exact g5
theorem inv_pD {m p v u : Nat} {s t T : zS} (h : Inv m p v u s t) (hp : pD t T) : Inv m p v u s T := by
  unfold Inv at h ⊢
  rw [hp 0 (by omega), hp 1 (by omega), hp 2 (by omega), hp 3 (by omega), hp 4 (by omega), hp 5 (by omega), hp 6 (by omega), hp 7 (by omega), hp 8 (by omega), hp 9 (by omega), hp 10 (by omega), hp 12 (by omega), hp 13 (by omega), hp 14 (by omega), hp 15 (by omega), hp 16 (by omega), hp 17 (by omega), hp 18 (by omega), hp 19 (by omega), hp 20 (by omega), hp 21 (by omega), hp 22 (by omega), hp 27 (by omega), hp 28 (by omega), hp 32 (by omega), hp 33 (by omega), hp 34 (by omega)]
  exact h
theorem o_element {N : Nat} {s t : zS} (h : Iv s t) (x1 x2 x3 x4 : Int32) : ∃ r s' t', f_X5_element (N + 3000) s x1 x2 x3 x4 = some (r, s') ∧ f_X6_element (N + 3000) t x1 x2 x3 x4 = some (r, t') ∧ Iv s' t' := by
  obtain ⟨m, p, v, u, hI⟩ := id h
  obtain ⟨hA, hB, hC, hD, hE, hF, hG, hH, hJ, hK, hL, hM⟩ := id hI
  obtain ⟨a1, a2, a3, a4, a5, a6, a7, a8, a9, a10, a11, a12⟩ := id hA
  unfold f_X5_element f_X6_element
  rcases (c_has (M := N + 3000) hA x1).symm with ⟨a, b, -⟩ | ⟨a, b, j, hj, rfl⟩
  · rw [a, b]
    exact ⟨_, _, _, rfl, rfl, h⟩
  rw [a, b, zbd_s, zbd_s, if_neg b_10, if_neg b_10]
  by_cases n0 : x2 < 0
  · rw [if_pos n0, if_pos n0]
    exact ⟨_, _, _, rfl, rfl, h⟩
  rw [if_neg n0, if_neg n0]
  by_cases n9 : nI 9 < x2
  · rw [if_pos n9, if_pos n9]
    exact ⟨_, _, _, rfl, rfl, h⟩
  rw [if_neg n9, if_neg n9]
  obtain ⟨n, hn, rfl⟩ : ∃ n, n ≤ 9 ∧ x2 = nI n := by
    rcases zix x2 10 with ⟨n, hn, e⟩ | hx
    · exact ⟨n, by omega, e⟩
    · exfalso
      rcases zix_out (by omega) hx with z | z
      · exact n0 z
      · apply n9
        have z1 : (10 : Int) ≤ x2.toInt := by
          have := Int32.not_lt.mp z
          have := Int32.le_iff_toInt_le.mp this
          rw [nI_toInt (by omega)] at this
          exact this
        rw [Int32.lt_iff_toInt_lt, nI_toInt (by omega)]
        omega
  rcases (c_kind (M := N + 3000) hA x3).symm with ⟨a, b, -⟩ | ⟨a, b, hk⟩
  · rw [a, b]
    exact ⟨_, _, _, rfl, rfl, h⟩
  rw [a, b, zbd_s, zbd_s, if_neg b_10, if_neg b_10]
  rcases c_pos (N := N) hA hB hj (nI n) with ⟨e, he, he5, p0, p1, p2, p3⟩ | ⟨p0, p1, p2, p3⟩
  · rw [p2, p3, zbd_s, zbd_s, if_neg (nI_m1 (by omega)), if_neg (nI_m1 (by omega))]
    exact ⟨_, _, _, rfl, rfl, h⟩
  rw [p2, p3, zbd_s, zbd_s, if_pos rfl, if_pos rfl]
  rcases c_fix (N := N) hA hC hE hj with ⟨g1, g2⟩ | ⟨g1, g2, t4, t5, hi⟩
  · rw [g1, g2]
    exact ⟨_, _, _, rfl, rfl, h⟩
  rw [g1, g2, zbd_s, zbd_s, if_pos b_00, if_pos b_00]
  obtain ⟨e, he5, ee⟩ := hB.1 j (by omega)
  have eq := enn_of ee he5
  have zj : zin (nI j) 12 = true := zin_t (by omega)
  have cj : (nI j).toNatClampNeg = j := zcl (by omega)
  obtain ⟨l, hl, el, bl⟩ : ∃ l, l < 2 ^ 12 ∧ (∀ S : zS, f_X0_leadOf (N + 3000) S x3 = some (nI l)) ∧ ∀ c, c < 12 → (l.testBit c = true ↔ x3 = nI (10 + c)) := by
    unfold f_X0_leadOf
    rcases hk with ⟨c, hc, rfl⟩ | ⟨c, hc, rfl⟩
    · rw [if_pos (nI_lt (by omega) (by omega))]
      refine ⟨0, by omega, fun _ => rfl, fun c' hc' => ?_⟩
      rw [Nat.zero_testBit]
      exact ⟨fun z => absurd z (by decide), fun z => absurd (nI_inj (by omega) (by omega) z) (by omega)⟩
    · rw [if_neg (nI_nlt (by omega) (by omega)), pk_sub (by omega), Nat.add_sub_cancel_left, b_shl (by omega)]
      refine ⟨2 ^ c, p2_12 (by omega), fun _ => rfl, fun c' hc' => ?_⟩
      rw [Nat.testBit_two_pow, decide_eq_true_eq]
      exact ⟨fun z => by rw [z], fun z => by have := nI_inj (by omega) (by omega) z; omega⟩
  -- what both do in the end
  have fin2 : ∀ T, pD t T → (∀ a, a < m → ¬ pth m (fun a c => edg (t 6) (t 8) a c ∨ (a = j ∧ x3 = nI (10 + c))) 3 a) → ∃ r s' t', zbd (f_X0_addElement (N + 3000) s (nI j) (nI n) x3 x4) (fun q6 => some (q6.1, q6.2)) = some (r, s') ∧
      (zq (zin (nI j) 12) <| if (T 6 (nI j).toNatClampNeg) = (nI 5) then some ((-3), T) else zq (zin (nI j) 12) <| zq (zin (((nI 5) * nI j) + (T 6 (nI j).toNatClampNeg)) 60) <| zq (zin (((nI 5) * nI j) + (T 6 (nI j).toNatClampNeg)) 60) <| zq (zin (((nI 5) * nI j) + (T 6 (nI j).toNatClampNeg)) 60) <| zq (zin (((nI 5) * nI j) + (T 6 (nI j).toNatClampNeg)) 60) <| zq (zin (nI j) 12) <| zq (zin (nI j) 12) <| zq (zin (nI j) 12) <| some ((zup (zup (zup (zup (zup T 7 (((nI 5) * nI j) + (T 6 (nI j).toNatClampNeg)).toNatClampNeg (nI n)) 8 (((nI 5) * nI j) + (T 6 (nI j).toNatClampNeg)).toNatClampNeg x3) 9 (((nI 5) * nI j) + (T 6 (nI j).toNatClampNeg)).toNatClampNeg (zbn 1 x4)) 10 (((nI 5) * nI j) + (T 6 (nI j).toNatClampNeg)).toNatClampNeg (-1)) 6 (nI j).toNatClampNeg ((T 6 (nI j).toNatClampNeg) + (nI 1))) 6 (nI j).toNatClampNeg, zup (zup (zup (zup (zup T 7 (((nI 5) * nI j) + (T 6 (nI j).toNatClampNeg)).toNatClampNeg (nI n)) 8 (((nI 5) * nI j) + (T 6 (nI j).toNatClampNeg)).toNatClampNeg x3) 9 (((nI 5) * nI j) + (T 6 (nI j).toNatClampNeg)).toNatClampNeg (zbn 1 x4)) 10 (((nI 5) * nI j) + (T 6 (nI j).toNatClampNeg)).toNatClampNeg (-1)) 6 (nI j).toNatClampNeg ((T 6 (nI j).toNatClampNeg) + (nI 1)))) = some (r, t') ∧ Iv s' t' := by
    intro T pd hp
    have hT := inv_pD hI pd
    have e6 : T 6 j = nI e := by rw [pd 6 (by omega)]; exact ee
    have s6 : s 6 j = nI e := (a7 j (by omega)).trans ee
    unfold f_X0_addElement
    rw [zj, cj, e6, s6]
    by_cases q : e = 5
    · subst q
      rw [if_neg (by decide), if_pos rfl]
      exact ⟨_, _, _, rfl, rfl, m, p, v, u, hT⟩
    · have he : e < 5 := by omega
      have ci : (nI (5 * j + e)).toNatClampNeg = 5 * j + e := zcl (by omega)
      have zi : zin (nI (5 * j + e)) 60 = true := zin_t (by omega)
      rw [if_pos (nI_lt he (by omega)), if_neg (fun z => q (nI_inj (by omega) (by omega) z)), pk_mul, pk_mul, show j * 5 = 5 * j by omega]
      simp only [nI_add, ci, zi, zq_t, el, zbd_s]
      refine ⟨nI (e + 1), _, _, ?_, ?_, m, p, v, u, inv_elem hT (n := n) (x := x3) (f := zbn 1 x4) hj he e6 hn ?_ hk ?_ ?_ ?_ hl bl⟩
      · rw [show ∀ (S : zS) (w : Int32), (zup S 6 j w) 6 j = w from fun S w => by rw [zup_s, upd_s]]
      · rw [show ∀ (S : zS) (w : Int32), (zup S 6 j w) 6 j = w from fun S w => by rw [zup_s, upd_s]]
      · intro e' he'
        rw [pd 7 (by omega)]
        exact p0 e' (by omega)
      · rw [pd 5 (by omega)]
        exact t5
      · rw [pd 16 (by omega), pd 17 (by omega)]
        exact hi
      · rw [pd 6 (by omega), pd 8 (by omega)]
        exact hp
  rcases c_far (M := N + 3000) (by omega) hA hC hj hk with ⟨c1, c2⟩ | ⟨c1, c2⟩
  · rw [c2, zbd_s, if_pos b_00]
    rcases id hk with ⟨c, hc, rfl⟩ | ⟨c, hc, rfl⟩
    · rw [if_pos (nI_lt (show c < 10 by omega) (by omega))]
      exact fin2 t (fun _ _ => rfl) c1
    · rw [if_neg (nI_nlt (show 10 ≤ 10 + c by omega) (by omega)), pk_sub (show 10 ≤ 10 + c by omega), Nat.add_sub_cancel_left]
      have eE : (fun a y => edg (t 6) (t 8) a y ∨ (a = j ∧ nI (10 + c) = nI (10 + y))) = (fun a y => edg (t 6) (t 8) a y ∨ (a = j ∧ y = c)) → True := fun _ => trivial
      obtain ⟨T, pd, ⟨g1, -⟩ | ⟨g1, g2⟩⟩ := c_lead (M := N + 3000) (by omega) hB a1 a3 hj hc
      · rw [g1, zbd_s, if_neg b_10]
        exact fin2 T pd c1
      · exfalso
        apply g2
        intro a ha hp
        apply c1 a ha
        obtain ⟨y1, h1, h2, y2, h3, h4, y3, h5, h6, -⟩ := hp
        have cv : ∀ a y, y < m → (edg (t 6) (t 8) a y ∨ (a = j ∧ y = c)) → (edg (t 6) (t 8) a y ∨ (a = j ∧ nI (10 + c) = nI (10 + y))) := fun a y _ z => z.imp id (fun z => ⟨z.1, by rw [z.2]⟩)
        exact ⟨y1, h1, cv _ _ h1 h2, y2, h3, cv _ _ h3 h4, y3, h5, cv _ _ h5 h6, trivial⟩
  · rw [c2, zbd_s, if_neg b_10]
    rcases id hk with ⟨c, hc, rfl⟩ | ⟨c, hc, rfl⟩
    · exfalso
      apply c1
      intro a ha hp
      obtain ⟨y1, h1, h2, y2, h3, h4, y3, h5, h6, -⟩ := hp
      have cv : ∀ a y, y < m → (edg (t 6) (t 8) a y ∨ (a = j ∧ nI c = nI (10 + y))) → edg (t 6) (t 8) a y := fun a y hy z => z.elim id (fun z => absurd (nI_inj (by omega) (by omega) z.2) (by omega))
      exact hB.2.2.2.2.2.2 a y1 y2 y3 (by omega) (by omega) (by omega) (by omega) ⟨cv _ _ h1 h2, cv _ _ h3 h4, cv _ _ h5 h6⟩
    · rw [if_neg (nI_nlt (show 10 ≤ 10 + c by omega) (by omega)), pk_sub (show 10 ≤ 10 + c by omega), Nat.add_sub_cancel_left]
      obtain ⟨T, pd, ⟨g1, g2⟩ | ⟨g1, g2⟩⟩ := c_lead (M := N + 3000) (by omega) hB a1 a3 hj hc
      · exfalso
        apply c1
        intro a ha hp
        apply g2 a ha
        obtain ⟨y1, h1, h2, y2, h3, h4, y3, h5, h6, -⟩ := hp
        have cv : ∀ a y, y < m → (edg (t 6) (t 8) a y ∨ (a = j ∧ nI (10 + c) = nI (10 + y))) → (edg (t 6) (t 8) a y ∨ (a = j ∧ y = c)) := fun a y hy z => z.imp id (fun z => ⟨z.1, by have := nI_inj (by omega) (by omega) z.2; omega⟩)
        exact ⟨y1, h1, cv _ _ h1 h2, y2, h3, cv _ _ h3 h4, y3, h5, cv _ _ h5 h6, trivial⟩
      · rw [g1, zbd_s, if_pos b_00]
        exact ⟨_, _, _, rfl, rfl, m, p, v, u, inv_pD hI pd⟩
