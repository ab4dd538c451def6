/-! EQUAL: the reference's way. -/
def ce : Nat → Nat
  | 0 => 2
  | n + 1 => 5 * ce n + 2
theorem ce_pos : ∀ n, 2 ≤ ce n
  | 0 => Nat.le_refl 2
  | n + 1 => by unfold ce; omega
theorem c_like {M v : Nat} {t T : zS} (hv : v ≤ 100) (h16 : T 16 = t 16) (h17 : T 17 = t 17) (h18 : T 18 = t 18) {x y : Nat} (hx : x < v) (hy : y < v) : (lik t x y ∧ f_X6_isLike M T (nI x) (nI y) = some (nI 1)) ∨ (¬ lik t x y ∧ f_X6_isLike M T (nI x) (nI y) = some (nI 0)) := by
  unfold f_X6_isLike lik
  rw [zin_t (show x < 100 by omega), zin_t (show y < 100 by omega), zcl (n := x) (by omega), zcl (n := y) (by omega), h16, h17, h18]
  simp only [zq_t]
  by_cases c1 : t 16 x = t 16 y
  · rw [if_pos c1]
    by_cases c2 : t 17 x = t 17 y
    · rw [if_pos c2]
      by_cases c3 : t 16 x = nI 2
      · rw [if_pos c3]
        exact Or.inl ⟨⟨c1, c2, Or.inl c3⟩, rfl⟩
      · rw [if_neg c3]
        by_cases c4 : t 18 x = t 18 y
        · rw [if_pos c4]
          exact Or.inl ⟨⟨c1, c2, Or.inr c4⟩, rfl⟩
        · rw [if_neg c4]
          exact Or.inr ⟨fun z => z.2.2.elim c3 c4, rfl⟩
    · rw [if_neg c2]
      exact Or.inr ⟨fun z => c2 z.2.1, rfl⟩
  · rw [if_neg c1]
    exact Or.inr ⟨fun z => c1 z.1, rfl⟩
section EM
variable {m v : Nat} {s t : zS}
/-- what comes of a pair on top -/
def eres (M : Nat) (t : zS) (Q : Prop) (T : zS) (p K cost : Nat) : Prop :=
  (Q ∧ ∃ T' K', K ≤ K' + cost ∧ pT t T' ∧ T' 23 0 = nI p ∧ (∀ i, i < p → T' 24 i = T 24 i ∧ T' 25 i = T 25 i ∧ T' 26 i = T 26 i) ∧ l_X6_areEqual M K T (nI 1) = l_X6_areEqual M K' T' (nI 1)) ∨
  (¬ Q ∧ ∃ T', pT t T' ∧ l_X6_areEqual M K T (nI 1) = some (nI 0, T'))
theorem e_pop {M : Nat} (hA : iA m (s 2) (s 3) (s 4) (s 5) (s 6) (s 8) (s 9) (s 12) (s 13) (s 14) (t 0) (t 1) (t 2) (t 3) (t 6) (t 4) (t 5) (t 7) (t 8) (t 9)) (hB : iB m (t 6) (t 7) (t 8) (t 4) (t 5)) (hE : iE v (s 19) (s 20) (s 21) (s 22) (s 23) (s 24) (t 15) (t 16) (t 17) (t 18) (t 19) (t 20)) (hF : iF m v (t 6) (t 8) (t 9) (t 16) (t 17) (t 18) (t 19) (t 20)) (hG : iG m v (s 15) (t 6) (t 8) (t 9) (t 10) (t 16) (t 17) (t 18) (t 19) (t 20)) {x p : Nat} (hx : x < v) {T : zS} (pt : pT t T) (t23 : T 23 0 = nI (p + 1)) (hp : p < 64) (t24 : T 24 p = nI x) (t26 : T 26 p = nI (wd t x)) (K : Nat) : l_X6_areEqual M (K + 1) T (nI 1) = l_X6_areEqual M K (zup T 23 0 (nI p)) (nI 1) := by
  rw [l_X6_areEqual, if_neg b_10, t23, if_pos (nI_gt0 (p := p) (by omega)), nI_sub1, zin_t (show p < 64 by omega), zcl (n := p) (by omega), t24, t26, pT_wi (pt 16 (by omega)) (pt 17 (by omega)) (pt 18 (by omega)) (pt 6 (by omega)), e_wth hA.1 hE.1 hB hF hx]
  simp only [zq_t, zbd_s]
  exact if_pos rfl
theorem em_i {M n : Nat} (hA : iA m (s 2) (s 3) (s 4) (s 5) (s 6) (s 8) (s 9) (s 12) (s 13) (s 14) (t 0) (t 1) (t 2) (t 3) (t 6) (t 4) (t 5) (t 7) (t 8) (t 9)) (hB : iB m (t 6) (t 7) (t 8) (t 4) (t 5)) (hE : iE v (s 19) (s 20) (s 21) (s 22) (s 23) (s 24) (t 15) (t 16) (t 17) (t 18) (t 19) (t 20)) (hF : iF m v (t 6) (t 8) (t 9) (t 16) (t 17) (t 18) (t 19) (t 20)) (hG : iG m v (s 15) (t 6) (t 8) (t 9) (t 10) (t 16) (t 17) (t 18) (t 19) (t 20))
    (sub : ∀ x y, x < v → y < v → hg t n x → lik t x y → ∀ T p K, pT t T → T 23 0 = nI (p + 1) → p + n < 64 → T 24 p = nI x → T 25 p = nI y → T 26 p = nI 0 → ce n < K + 1 → eres M t (eqv t n x y) T p K (ce n - 1)) :
    ∀ x y, x < v → y < v → hg t (n + 1) x → lik t x y → ∀ c k T p K, k + c = wd t x → pT t T → T 23 0 = nI (p + 1) → p + n < 63 → T 24 p = nI x → T 25 p = nI y → T 26 p = nI k → c * ce n + 1 < K → eres M t (∀ e, k ≤ e → e < wd t x → eqk t n (kd t x e) (kd t y e)) T p K (c * ce n + 1) := by
  have hv := hE.1
  have hm := hA.1
  intro x y hx hy hh hl c
  obtain ⟨h5, hk⟩ := w_kid hm hv hB hF hG hx
  have hky := (w_kid hm hv hB hF hG hy).2
  have hwy := lik_w hB hF hy hl
  induction c with
  | zero =>
    intro k T p K ek pt t23 hp t24 t25 t26 hK
    left
    refine ⟨fun e h1 h2 => absurd h2 (by omega), ?_⟩
    obtain ⟨K, rfl⟩ : ∃ K', K = K' + 1 := ⟨K - 1, by omega⟩
    refine ⟨zup T 23 0 (nI p), K, by omega, pT_up pt (by omega) _ _, by rw [zup_s, upd_s], fun i hi => ⟨by rw [zup_n _ _ _ (by omega)], by rw [zup_n _ _ _ (by omega)], by rw [zup_n _ _ _ (by omega)]⟩, ?_⟩
    exact e_pop hA hB hE hF hG hx pt t23 (by omega) t24 (by rw [t26, ← ek]; rfl) K
  | succ c ih =>
    intro k T p K ek pt t23 hp t24 t25 t26 hK
    have hce := ce_pos n
    rw [Nat.succ_mul] at hK
    obtain ⟨K, rfl⟩ : ∃ K', K = K' + 1 := ⟨K - 1, by omega⟩
    have hkl : k < wd t x := by omega
    have hkl2 : k < wth (t 16) (t 17) (t 18) (t 6) x := hkl
    have hkl3 : k < wth (t 16) (t 17) (t 18) (t 6) y := by unfold wd at hwy hkl; omega
    have h5 : wd t x ≤ 5 := h5
    have pt1 : pT t (zup T 26 p (nI (k + 1))) := pT_up pt (by omega) _ _
    have a23 : zup T 26 p (nI (k + 1)) 23 0 = nI (p + 1) := by rw [zup_n _ _ _ (by omega)]; exact t23
    have a24 : zup T 26 p (nI (k + 1)) 24 p = nI x := by rw [zup_n _ _ _ (by omega)]; exact t24
    have a25 : zup T 26 p (nI (k + 1)) 25 p = nI y := by rw [zup_n _ _ _ (by omega)]; exact t25
    have a26 : zup T 26 p (nI (k + 1)) 26 p = nI (k + 1) := by rw [zup_s, upd_s]
    have ao : ∀ i, i < p → zup T 26 p (nI (k + 1)) 24 i = T 24 i ∧ zup T 26 p (nI (k + 1)) 25 i = T 25 i ∧ zup T 26 p (nI (k + 1)) 26 i = T 26 i := fun i hi => ⟨by rw [zup_n _ _ _ (by omega)], by rw [zup_n _ _ _ (by omega)], by rw [zup_s, upd_n _ _ (by omega)]⟩
    have go : l_X6_areEqual M (K + 1) T (nI 1) = if kd t x k = kd t y k then l_X6_areEqual M K (zup T 26 p (nI (k + 1))) (nI 1) else if kd t x k = -1 then l_X6_areEqual M K (zup T 26 p (nI (k + 1))) (nI 0) else if kd t y k = -1 then l_X6_areEqual M K (zup T 26 p (nI (k + 1))) (nI 0) else zbd (f_X6_isLike M (zup T 26 p (nI (k + 1))) (kd t x k) (kd t y k)) (fun q5 => if q5 = 0 then l_X6_areEqual M K (zup T 26 p (nI (k + 1))) (nI 0) else zbd (f_X6_pile M (zup T 26 p (nI (k + 1))) (kd t x k) (kd t y k)) (fun q6 => l_X6_areEqual M K q6 (nI 1))) := by
      rw [l_X6_areEqual, if_neg b_10, t23, if_pos (nI_gt0 (p := p) (by omega)), nI_sub1, zin_t (show p < 64 by omega), zcl (n := p) (by omega), t24, t25, t26, pT_wi (pt 16 (by omega)) (pt 17 (by omega)) (pt 18 (by omega)) (pt 6 (by omega)), e_wth hm hv hB hF hx, pT_in (pt 16 (by omega)) (pt 17 (by omega)) (pt 20 (by omega)) (pt 10 (by omega)), pT_in (pt 16 (by omega)) (pt 17 (by omega)) (pt 20 (by omega)) (pt 10 (by omega)), e_kid hA hE hB hF hG hx hkl2, e_kid hA hE hB hF hG hy hkl3, nI_add]
      simp only [zq_t, zbd_s]
      rw [if_neg (fun q => absurd (nI_inj (by unfold wd at hkl; omega) (by unfold wd at h5; omega) q) (by omega))]
      unfold kd
      by_cases c0 : kid (t 16) (t 17) (t 20) (t 10) x k = kid (t 16) (t 17) (t 20) (t 10) y k
      · simp only [if_pos c0]
      · simp only [if_neg c0]
    unfold eres
    rw [go]
    -- what is left, once this pair is EQUAL
    have left : ∀ T2 K2, eqk t n (kd t x k) (kd t y k) → pT t T2 → T2 23 0 = nI (p + 1) → T2 24 p = nI x → T2 25 p = nI y → T2 26 p = nI (k + 1) → (∀ i, i < p → T2 24 i = T 24 i ∧ T2 25 i = T 25 i ∧ T2 26 i = T 26 i) → K + 1 ≤ K2 + ce n →
        ((∀ e, k ≤ e → e < wd t x → eqk t n (kd t x e) (kd t y e)) ∧ ∃ T' K', K + 1 ≤ K' + ((c + 1) * ce n + 1) ∧ pT t T' ∧ T' 23 0 = nI p ∧ (∀ i, i < p → T' 24 i = T 24 i ∧ T' 25 i = T 25 i ∧ T' 26 i = T 26 i) ∧ l_X6_areEqual M K2 T2 (nI 1) = l_X6_areEqual M K' T' (nI 1)) ∨
        ((¬ ∀ e, k ≤ e → e < wd t x → eqk t n (kd t x e) (kd t y e)) ∧ ∃ T', pT t T' ∧ l_X6_areEqual M K2 T2 (nI 1) = some (nI 0, T')) := by
      intro T2 K2 hwy q1 q2 q3 q4 q5 q6 q7
      rcases ih (k + 1) T2 p K2 (by omega) q1 q2 hp q3 q4 q5 (by omega) with ⟨g1, T', K', g2, g3, g4, g5, g6⟩ | ⟨g1, g2⟩
      · left
        refine ⟨fun e h1 h2 => ?_, T', K', by rw [Nat.succ_mul]; omega, g3, g4, fun i hi => ⟨(g5 i hi).1.trans (q6 i hi).1, (g5 i hi).2.1.trans (q6 i hi).2.1, (g5 i hi).2.2.trans (q6 i hi).2.2⟩, g6⟩
        rcases Nat.lt_or_ge k e with h5 | h5
        · exact g1 e h5 h2
        · rw [show e = k by omega]
          exact hwy
      · exact Or.inr ⟨fun z => g1 (fun e h1 h2 => z e (by omega) h2), g2⟩
    have bad : ¬ eqk t n (kd t x k) (kd t y k) → ((∀ e, k ≤ e → e < wd t x → eqk t n (kd t x e) (kd t y e)) ∧ ∃ T' K', K + 1 ≤ K' + ((c + 1) * ce n + 1) ∧ pT t T' ∧ T' 23 0 = nI p ∧ (∀ i, i < p → T' 24 i = T 24 i ∧ T' 25 i = T 25 i ∧ T' 26 i = T 26 i) ∧ l_X6_areEqual M K (zup T 26 p (nI (k + 1))) (nI 0) = l_X6_areEqual M K' T' (nI 1)) ∨
        ((¬ ∀ e, k ≤ e → e < wd t x → eqk t n (kd t x e) (kd t y e)) ∧ ∃ T', pT t T' ∧ l_X6_areEqual M K (zup T 26 p (nI (k + 1))) (nI 0) = some (nI 0, T')) := by
      intro hne
      right
      refine ⟨fun z => hne (z k (by omega) hkl), _, pt1, ?_⟩
      obtain ⟨K, rfl⟩ : ∃ K', K = K' + 1 := ⟨K - 1, by omega⟩
      rw [l_X6_areEqual, if_pos b_00, bo_0, zq_t]
    by_cases c0 : kd t x k = kd t y k
    · rw [if_pos c0]
      exact left _ K (Or.inl c0) pt1 a23 a24 a25 a26 ao (by omega)
    rw [if_neg c0]
    rcases hk k hkl with hz | ⟨x', hx', ex'⟩
    · have hz : kd t x k = -1 := hz
      rw [if_pos hz]
      exact bad (fun z => z.elim c0 (fun z => z.1 hz))
    have ex' : kd t x k = nI x' := ex'
    rw [if_neg (by rw [ex']; exact nI_m1 (by omega))]
    rcases hky k hkl3 with hz | ⟨y', hy', ey'⟩
    · have hz : kd t y k = -1 := hz
      rw [if_pos hz]
      exact bad (fun z => z.elim c0 (fun z => z.2.1 hz))
    have ey' : kd t y k = nI y' := ey'
    rw [if_neg (by rw [ey']; exact nI_m1 (by omega))]
    have hch : hg t n x' := by
      have := hh k hkl (by show kd t x k ≠ -1; rw [ex']; exact nI_m1 (by omega))
      have this : hg t n (kd t x k).toNatClampNeg := this
      rw [ex', zcl (by omega)] at this
      exact this
    have hne : x' ≠ y' := fun z => c0 (by rw [ex', ey', z])
    have eqi : eqk t n (kd t x k) (kd t y k) ↔ eqv t n x' y' := by
      unfold eqk
      rw [ex', ey', zcl (n := x') (by omega), zcl (n := y') (by omega)]
      constructor
      · rintro (z | z)
        · exact absurd (nI_inj (by omega) (by omega) z) hne
        · exact z.2.2
      · exact fun z => Or.inr ⟨nI_m1 (by omega), nI_m1 (by omega), z⟩
    rw [ex', ey']
    rcases (c_like (M := M) hv (pt1 16 (by omega)) (pt1 17 (by omega)) (pt1 18 (by omega)) hx' hy').symm with ⟨k1, k2⟩ | ⟨k1, k2⟩
    · rw [k2, zbd_s, if_pos b_00]
      refine bad (fun z => k1 ?_)
      have := eqi.mp z
      cases n with
      | zero => exact this.elim (fun z => absurd z hne) id
      | succ n => exact this.elim (fun z => absurd z hne) (fun z => z.1)
    · rw [k2, zbd_s, if_neg b_10, e_pile a23 (by omega), zbd_s]
      have b1 : pT t (zup (zup (zup (zup (zup T 26 p (nI (k + 1))) 24 (p + 1) (nI x')) 25 (p + 1) (nI y')) 26 (p + 1) (nI 0)) 23 0 (nI (p + 1 + 1))) := pT_up (pT_up (pT_up (pT_up pt1 (by omega) _ _) (by omega) _ _) (by omega) _ _) (by omega) _ _
      have b24 : ∀ i, zup (zup (zup (zup (zup T 26 p (nI (k + 1))) 24 (p + 1) (nI x')) 25 (p + 1) (nI y')) 26 (p + 1) (nI 0)) 23 0 (nI (p + 1 + 1)) 24 i = upd (T 24) (p + 1) (nI x') i := by
        intro i
        rw [zup_n _ _ _ (by omega), zup_n _ _ _ (by omega), zup_n _ _ _ (by omega), zup_s, zup_n _ _ _ (by omega)]
      have b25 : ∀ i, zup (zup (zup (zup (zup T 26 p (nI (k + 1))) 24 (p + 1) (nI x')) 25 (p + 1) (nI y')) 26 (p + 1) (nI 0)) 23 0 (nI (p + 1 + 1)) 25 i = upd (T 25) (p + 1) (nI y') i := by
        intro i
        rw [zup_n _ _ _ (by omega), zup_n _ _ _ (by omega), zup_s, zup_n _ _ _ (by omega), zup_n _ _ _ (by omega)]
      have b26 : ∀ i, zup (zup (zup (zup (zup T 26 p (nI (k + 1))) 24 (p + 1) (nI x')) 25 (p + 1) (nI y')) 26 (p + 1) (nI 0)) 23 0 (nI (p + 1 + 1)) 26 i = upd (upd (T 26) p (nI (k + 1))) (p + 1) (nI 0) i := by
        intro i
        rw [zup_n _ _ _ (by omega), zup_s, zup_n _ _ _ (by omega), zup_n _ _ _ (by omega), zup_s]
      rcases sub x' y' hx' hy' hch k1 _ (p + 1) K b1 (by rw [zup_s, upd_s]) (by omega) (by rw [b24, upd_s]) (by rw [b25, upd_s]) (by rw [b26, upd_s]) (by omega) with ⟨g1, T', K', g2, g3, g4, g5, g6⟩ | ⟨g1, T', g2, g3⟩
      · rw [g6]
        rw [ex', ey'] at left eqi
        refine left T' K' (eqi.mpr g1) g3 g4 ?_ ?_ ?_ (fun i hi => ⟨?_, ?_, ?_⟩) (by omega)
        · rw [(g5 p (by omega)).1, b24, upd_n _ _ (by omega)]
          exact t24
        · rw [(g5 p (by omega)).2.1, b25, upd_n _ _ (by omega)]
          exact t25
        · rw [(g5 p (by omega)).2.2, b26, upd_n _ _ (by omega), upd_s]
        · rw [(g5 i (by omega)).1, b24, upd_n _ _ (by omega)]
        · rw [(g5 i (by omega)).2.1, b25, upd_n _ _ (by omega)]
        · rw [(g5 i (by omega)).2.2, b26, upd_n _ _ (by omega), upd_n _ _ (by omega)]
      · right
        exact ⟨fun z => g1 (eqi.mp (z k (by omega) hkl)), T', g2, g3⟩
theorem em {M : Nat} (hA : iA m (s 2) (s 3) (s 4) (s 5) (s 6) (s 8) (s 9) (s 12) (s 13) (s 14) (t 0) (t 1) (t 2) (t 3) (t 6) (t 4) (t 5) (t 7) (t 8) (t 9)) (hB : iB m (t 6) (t 7) (t 8) (t 4) (t 5)) (hE : iE v (s 19) (s 20) (s 21) (s 22) (s 23) (s 24) (t 15) (t 16) (t 17) (t 18) (t 19) (t 20)) (hF : iF m v (t 6) (t 8) (t 9) (t 16) (t 17) (t 18) (t 19) (t 20)) (hG : iG m v (s 15) (t 6) (t 8) (t 9) (t 10) (t 16) (t 17) (t 18) (t 19) (t 20)) : ∀ n x y, x < v → y < v → hg t (n + 1) x → lik t x y → ∀ c k T p K, k + c = wd t x → pT t T → T 23 0 = nI (p + 1) → p + n < 63 → T 24 p = nI x → T 25 p = nI y → T 26 p = nI k → c * ce n + 1 < K → eres M t (∀ e, k ≤ e → e < wd t x → eqk t n (kd t x e) (kd t y e)) T p K (c * ce n + 1) := by
  intro n
  induction n with
  | zero =>
    refine em_i hA hB hE hF hG (fun x y hx hy hh hl T p K pt t23 hp t24 t25 t26 hK => ?_)
    left
    refine ⟨Or.inr hl, ?_⟩
    have e2 : ce 0 = 2 := rfl
    obtain ⟨K, rfl⟩ : ∃ K', K = K' + 1 := ⟨K - 1, by omega⟩
    have hw : wd t x = 0 := by
      have hh : t 16 x = nI 0 := hh
      unfold wd wth
      rw [hh, if_neg (by decide), if_neg (by decide)]
    refine ⟨zup T 23 0 (nI p), K, by omega, pT_up pt (by omega) _ _, by rw [zup_s, upd_s], fun i hi => ⟨by rw [zup_n _ _ _ (by omega)], by rw [zup_n _ _ _ (by omega)], by rw [zup_n _ _ _ (by omega)]⟩, ?_⟩
    exact e_pop hA hB hE hF hG hx pt t23 (by omega) t24 (by rw [t26, hw]) K
  | succ n ih =>
    have hv := hE.1
    have hm := hA.1
    refine em_i hA hB hE hF hG (fun x y hx hy hh hl T p K pt t23 hp t24 t25 t26 hK => ?_)
    have h5w : wd t x ≤ 5 := (w_kid hm hv hB hF hG hx).1
    have hmul := Nat.mul_le_mul_right (ce n) h5w
    have ec : ce (n + 1) = 5 * ce n + 2 := rfl
    rcases ih x y hx hy hh hl _ 0 T p K (Nat.zero_add _) pt t23 (by omega) t24 t25 t26 (by omega) with ⟨g1, T', K', g2, g3⟩ | ⟨g1, g2⟩
    · exact Or.inl ⟨Or.inr ⟨hl, fun e he => g1 e (by omega) he⟩, T', K', by omega, g3⟩
    · refine Or.inr ⟨fun z => ?_, g2⟩
      rcases z with rfl | z
      · exact g1 (fun e _ _ => Or.inl rfl)
      · exact g1 (fun e _ he => z.2 e he)
end EM
theorem o_equal {N : Nat} (hN : 9000000 ≤ N) {s t : zS} (h : Iv s t) (x1 x2 : Int32) : ∃ r t', f_X5_equal (N + 3000) s x1 x2 = some r ∧ f_X6_equal (N + 3000) t x1 x2 = some (r, t') ∧ Iv s t' := by
  obtain ⟨m, p, v, u, hI⟩ := id h
  obtain ⟨hA, hB, hC, hD, hE, hF, hG, hH, hJ, hK⟩ := id hI
  have hv := hE.1
  have hm := hA.1
  unfold f_X5_equal f_X6_equal
  rcases (c_val (M := N + 3000) hE x1).symm with ⟨a, b, -⟩ | ⟨a, b, x, hx, rfl⟩
  · rw [a, b]
    exact ⟨_, _, rfl, rfl, h⟩
  rw [a, b, zbd_s, zbd_s, if_neg b_10, if_neg b_10]
  rcases (c_val (M := N + 3000) hE x2).symm with ⟨a, b, -⟩ | ⟨a, b, y, hy, rfl⟩
  · rw [a, b]
    exact ⟨_, _, rfl, rfl, h⟩
  rw [a, b, zbd_s, zbd_s, if_neg b_10, if_neg b_10]
  have h7 := h_all hm hv hB hF hG x hx
  unfold f_X6_areEqual f_X5_asNumber
  have e23 : (zup t 23 0 (nI 0)) 23 0 = nI 0 := by rw [zup_s, upd_s]
  rw [e_pile (p := 0) e23 (by omega)]
  generalize hT : (zup (zup (zup (zup (zup t 23 0 (nI 0)) 24 0 (nI x)) 25 0 (nI y)) 26 0 (nI 0)) 23 0 (nI (0 + 1))) = T
  have pt : pT t T := by
    rw [← hT]
    exact pT_up (pT_up (pT_up (pT_up (pT_up pT_r (by omega) _ _) (by omega) _ _) (by omega) _ _) (by omega) _ _) (by omega) _ _
  have i23 : T 23 0 = nI (0 + 1) := by rw [← hT, zup_s, upd_s]
  have i24 : T 24 0 = nI x := by rw [← hT, zup_n _ _ _ (by omega), zup_n _ _ _ (by omega), zup_n _ _ _ (by omega), zup_s, upd_s]
  have i25 : T 25 0 = nI y := by rw [← hT, zup_n _ _ _ (by omega), zup_n _ _ _ (by omega), zup_s, upd_s]
  have i26 : T 26 0 = nI 0 := by rw [← hT, zup_n _ _ _ (by omega), zup_s, upd_s]
  have ek : eqk t 7 (nI x) (nI y) ↔ eqv t 7 x y := by
    unfold eqk
    rw [zcl (n := x) (by omega), zcl (n := y) (by omega)]
    constructor
    · rintro (z | z)
      · exact Or.inl (nI_inj (by omega) (by omega) z)
      · exact z.2.2
    · exact fun z => Or.inr ⟨nI_m1 (by omega), nI_m1 (by omega), z⟩
  -- the reference
  have ref : (eqv t 7 x y ∧ ∃ T', pT t T' ∧ zbd (f_X6_isLike (N + 3000) t (nI x) (nI y)) (fun q1 => zbd (some T) (fun q2 => l_X6_areEqual (N + 3000) (N + 3000) q2 q1)) = some (nI 1, T')) ∨ (¬ eqv t 7 x y ∧ ∃ T', pT t T' ∧ zbd (f_X6_isLike (N + 3000) t (nI x) (nI y)) (fun q1 => zbd (some T) (fun q2 => l_X6_areEqual (N + 3000) (N + 3000) q2 q1)) = some (nI 0, T')) := by
    rcases c_like (M := N + 3000) (t := t) (T := t) hv rfl rfl rfl hx hy with ⟨k1, k2⟩ | ⟨k1, k2⟩
    · rw [k2, zbd_s, zbd_s]
      have h5w : wd t x ≤ 5 := (w_kid hm hv hB hF hG hx).1
      have hmul := Nat.mul_le_mul_right (ce 6) h5w
      have c6 : ce 6 = 39062 := by decide
      rcases em (M := N + 3000) hA hB hE hF hG 6 x y hx hy h7 k1 _ 0 T 0 (N + 3000) (Nat.zero_add _) pt i23 (by omega) i24 i25 i26 (by omega) with ⟨g1, T', K', g2, g3, g4, g5, g6⟩ | ⟨g1, g2⟩
      · refine Or.inl ⟨Or.inr ⟨k1, fun e he => g1 e (by omega) he⟩, T', g3, ?_⟩
        rw [g6]
        obtain ⟨K', rfl⟩ : ∃ K2, K' = K2 + 1 := ⟨K' - 1, by omega⟩
        rw [l_X6_areEqual, if_neg b_10, g4, if_neg (show ¬ (0 : Int32) < nI 0 by decide), bo_1, zq_t]
      · refine Or.inr ⟨fun z => ?_, g2⟩
        rcases z with rfl | z
        · exact g1 (fun e _ _ => Or.inl rfl)
        · exact g1 (fun e _ he => z.2 e he)
    · rw [k2, zbd_s, zbd_s]
      refine Or.inr ⟨fun z => ?_, T, pt, ?_⟩
      · rcases z with rfl | z
        · exact k1 (lik_r _)
        · exact k1 z.1
      · obtain ⟨K', hK'⟩ : ∃ K2, N + 3000 = K2 + 1 := ⟨N + 2999, rfl⟩
        have z : ∀ K, K = K' + 1 → l_X6_areEqual (N + 3000) K T (nI 0) = some (nI 0, T) := by
          intro K e
          subst e
          rw [l_X6_areEqual, if_pos b_00, bo_0, zq_t]
        exact z _ hK'
  rcases e_c (M := N + 3000) (by omega) hA hB hE hF hG 7 (nI x) (nI y) 0 20 (Or.inr ⟨x, hx, rfl, h7⟩) (Or.inr ⟨y, hy, rfl⟩) (by omega) (by omega) with ⟨c1, c2⟩ | ⟨c1, c2⟩
  · rcases ref with ⟨-, T', r1, r2⟩ | ⟨r1, -⟩
    · rw [c2, r2, zbd_s, zbd_s, if_neg b_10, zbd_s]
      exact ⟨_, _, rfl, if_neg b_10, m, p, v, u, inv_pT hI r1⟩
    · exact absurd (ek.mp c1) r1
  · rcases ref with ⟨r1, -⟩ | ⟨-, T', r1, r2⟩
    · exact absurd (ek.mpr r1) c1
    · rw [c2, r2, zbd_s, zbd_s, if_pos b_00, zbd_s]
      exact ⟨_, _, rfl, if_pos b_00, m, p, v, u, inv_pT hI r1⟩
