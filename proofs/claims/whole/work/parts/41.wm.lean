/-! WHOLE: the reference's way, by piles. -/
def pT (t T : zS) : Prop := ∀ r, r < 23 ∨ 26 < r → T r = t r
theorem pT_r {t : zS} : pT t t := fun _ _ => rfl
theorem pT_up {t T : zS} (h : pT t T) {r : Nat} (hr : 23 ≤ r ∧ r ≤ 26) (j : Nat) (x : Int32) : pT t (zup T r j x) := fun r' h' => (zup_n _ _ _ (by omega)).trans (h r' h')
theorem inv_pT {m p v u : Nat} {s t T : zS} (h : Inv m p v u s t) (hp : pT t T) : Inv m p v u s T := by
  unfold Inv at h ⊢
  rw [hp 0 (by omega), hp 1 (by omega), hp 2 (by omega), hp 3 (by omega), hp 4 (by omega), hp 5 (by omega), hp 6 (by omega), hp 7 (by omega), hp 8 (by omega), hp 9 (by omega), hp 10 (by omega), hp 12 (by omega), hp 13 (by omega), hp 14 (by omega), hp 15 (by omega), hp 16 (by omega), hp 17 (by omega), hp 18 (by omega), hp 19 (by omega), hp 20 (by omega), hp 21 (by omega), hp 22 (by omega), hp 27 (by omega), hp 28 (by omega), hp 32 (by omega), hp 33 (by omega), hp 34 (by omega)]
  exact h
theorem pT_wi {M : Nat} {t T : zS} (h : T 16 = t 16) (h17 : T 17 = t 17) (h18 : T 18 = t 18) (h6 : T 6 = t 6) (a : Int32) : f_X6_within M T a = f_X6_within M t a := by
  unfold f_X6_within
  rw [h, h17, h18, h6]
theorem pT_in {M : Nat} {t T : zS} (h : T 16 = t 16) (h17 : T 17 = t 17) (h20 : T 20 = t 20) (h10 : T 10 = t 10) (a b : Int32) : f_X6_inner M T a b = f_X6_inner M t a b := by
  unfold f_X6_inner
  rw [h, h17, h20, h10]
theorem nI_gt0 {p : Nat} (h : p < 1000) : (0 : Int32) < nI (p + 1) := nI_lt (show 0 < p + 1 by omega) (show p + 1 < 2 ^ 31 by omega)
section WM
variable {m v : Nat} {s t : zS}
theorem e_wth {M : Nat} (hm : m ≤ 12) (hv : v ≤ 100) (hB : iB m (t 6) (t 7) (t 8) (t 4) (t 5)) (hF : iF m v (t 6) (t 8) (t 9) (t 16) (t 17) (t 18) (t 19) (t 20)) {x : Nat} (hx : x < v) : f_X6_within M t (nI x) = some (nI (wth (t 16) (t 17) (t 18) (t 6) x)) := by
  obtain ⟨-, q⟩ := hF x hx
  unfold f_X6_within wth
  rw [zin_t (show x < 100 by omega), zcl (n := x) (by omega)]
  simp only [zq_t]
  rcases q with ⟨q, -⟩ | ⟨q, -, n, hn, en, hc⟩ | ⟨q, j, hj, ej, hc⟩
  · rw [q, if_neg (by decide), if_neg (by decide), if_neg (by decide), if_neg (by decide)]
  · rw [q, if_pos rfl, if_pos rfl, en, zcl (n := n) (by omega)]
  · obtain ⟨en, hen, een⟩ := hB.1 j (by omega)
    rw [q, if_neg (by decide), if_pos rfl, if_neg (by decide), if_pos rfl, ej, zin_t (show j < 12 by omega), zq_t, zcl (n := j) (by omega), een, enn_of een hen]
theorem e_kid {M : Nat} (hA : iA m (s 2) (s 3) (s 4) (s 5) (s 6) (s 8) (s 9) (s 12) (s 13) (s 14) (t 0) (t 1) (t 2) (t 3) (t 6) (t 4) (t 5) (t 7) (t 8) (t 9)) (hE : iE v (s 19) (s 20) (s 21) (s 22) (s 23) (s 24) (t 15) (t 16) (t 17) (t 18) (t 19) (t 20)) (hB : iB m (t 6) (t 7) (t 8) (t 4) (t 5)) (hF : iF m v (t 6) (t 8) (t 9) (t 16) (t 17) (t 18) (t 19) (t 20)) (hG : iG m v (s 15) (t 6) (t 8) (t 9) (t 10) (t 16) (t 17) (t 18) (t 19) (t 20)) {x e : Nat} (hx : x < v) (he : e < wth (t 16) (t 17) (t 18) (t 6) x) : f_X6_inner M t (nI x) (nI e) = some (kid (t 16) (t 17) (t 20) (t 10) x e) := by
  have hv := hE.1
  have hm := hA.1
  have h5 := (w_kid hm hv hB hF hG hx).1
  obtain ⟨-, q⟩ := hF x hx
  rcases q with ⟨q, -⟩ | ⟨q, -, n, hn, en, hc⟩ | ⟨q, j, hj, ej, hc⟩
  · unfold wth at he
    rw [q, if_neg (by decide), if_neg (by decide)] at he
    omega
  · unfold f_X6_inner kid
    rw [zcl (n := x) (by omega), q, if_neg (by decide), if_neg (by decide), pk_mul, nI_add, zin_t (show 5 * x + e < 500 by omega), zin_t (show x < 100 by omega), zq_t, zq_t, zcl (n := 5 * x + e) (by omega)]
  · unfold kid
    rw [q, if_pos rfl]
    unfold wth at he
    rw [q, if_neg (by decide), if_pos rfl, ej, zcl (by omega)] at he
    exact (c_elm hE hB hG hm hx hj q ej he).2
end WM
/-- rounds for one thing within -/
def cw : Nat → Nat
  | 0 => 1
  | n + 1 => 5 * cw n + 2
theorem cw_pos : ∀ n, 1 ≤ cw n
  | 0 => Nat.le_refl 1
  | n + 1 => by unfold cw; omega
theorem e_pile {M p : Nat} {T : zS} (h : T 23 0 = nI p) (hp : p < 64) (a b : Int32) : f_X6_pile M T a b = some (zup (zup (zup (zup T 24 p a) 25 p b) 26 p (nI 0)) 23 0 (nI (p + 1))) := by
  unfold f_X6_pile
  rw [h, zin_t hp, zcl (n := p) (by omega), nI_add]
  simp only [zq_t]
section WL
variable {m v : Nat} {s t : zS}
theorem wm_i {M n : Nat} (hA : iA m (s 2) (s 3) (s 4) (s 5) (s 6) (s 8) (s 9) (s 12) (s 13) (s 14) (t 0) (t 1) (t 2) (t 3) (t 6) (t 4) (t 5) (t 7) (t 8) (t 9)) (hB : iB m (t 6) (t 7) (t 8) (t 4) (t 5)) (hE : iE v (s 19) (s 20) (s 21) (s 22) (s 23) (s 24) (t 15) (t 16) (t 17) (t 18) (t 19) (t 20)) (hF : iF m v (t 6) (t 8) (t 9) (t 16) (t 17) (t 18) (t 19) (t 20)) (hG : iG m v (s 15) (t 6) (t 8) (t 9) (t 10) (t 16) (t 17) (t 18) (t 19) (t 20)) (sub : ∀ y, y < v → hgt (t 16) (t 17) (t 18) (t 20) (t 6) (t 10) n y → t 16 y ≠ nI 0 → ∀ T p K, pT t T → T 23 0 = nI (p + 1) → p + n < 64 → T 24 p = nI y → T 26 p = nI 0 → cw n < K + 1 →
    (whl (t 16) (t 17) (t 18) (t 20) (t 6) (t 10) n y ∧ ∃ T' K', K + 1 ≤ K' + cw n ∧ pT t T' ∧ T' 23 0 = nI p ∧ (∀ i, i < p → T' 24 i = T 24 i ∧ T' 26 i = T 26 i) ∧ l_X6_isWhole M K T (nI 1) = l_X6_isWhole M K' T' (nI 1)) ∨
    (¬ whl (t 16) (t 17) (t 18) (t 20) (t 6) (t 10) n y ∧ ∃ T', pT t T' ∧ l_X6_isWhole M K T (nI 1) = some (nI 0, T'))) : ∀ x, x < v → hgt (t 16) (t 17) (t 18) (t 20) (t 6) (t 10) (n + 1) x → ∀ c k T p K, k + c = wth (t 16) (t 17) (t 18) (t 6) x → pT t T → T 23 0 = nI (p + 1) → p + n < 63 → T 24 p = nI x → T 26 p = nI k → c * cw n + 1 < K →
    ((∀ e, k ≤ e → e < wth (t 16) (t 17) (t 18) (t 6) x → kid (t 16) (t 17) (t 20) (t 10) x e ≠ -1 ∧ whl (t 16) (t 17) (t 18) (t 20) (t 6) (t 10) n (kid (t 16) (t 17) (t 20) (t 10) x e).toNatClampNeg) ∧ ∃ T' K', K ≤ K' + (c * cw n + 1) ∧ pT t T' ∧ T' 23 0 = nI p ∧ (∀ i, i < p → T' 24 i = T 24 i ∧ T' 26 i = T 26 i) ∧ l_X6_isWhole M K T (nI 1) = l_X6_isWhole M K' T' (nI 1)) ∨
    ((¬ ∀ e, k ≤ e → e < wth (t 16) (t 17) (t 18) (t 6) x → kid (t 16) (t 17) (t 20) (t 10) x e ≠ -1 ∧ whl (t 16) (t 17) (t 18) (t 20) (t 6) (t 10) n (kid (t 16) (t 17) (t 20) (t 10) x e).toNatClampNeg) ∧ ∃ T', pT t T' ∧ l_X6_isWhole M K T (nI 1) = some (nI 0, T')) := by
  have hv := hE.1
  have hm := hA.1
  intro x hx hh c
  obtain ⟨h5, hk⟩ := w_kid hm hv hB hF hG hx
  have hw := e_wth (M := M) hm hv hB hF hx
  induction c with
  | zero =>
    intro k T p K ek pt t23 hp t24 t26 hK
    left
    refine ⟨fun e h1 h2 => absurd h2 (by omega), ?_⟩
    obtain ⟨K, rfl⟩ : ∃ K', K = K' + 1 := ⟨K - 1, by omega⟩
    refine ⟨zup T 23 0 (nI p), K, by omega, pT_up pt (by omega) _ _, by rw [zup_s, upd_s], fun i hi => ⟨by rw [zup_n _ _ _ (by omega)], by rw [zup_n _ _ _ (by omega)]⟩, ?_⟩
    rw [l_X6_isWhole, if_neg b_10, t23, if_pos (nI_gt0 (p := p) (by omega)), nI_sub1, zin_t (show p < 64 by omega), zcl (n := p) (by omega), t24, t26, pT_wi (pt 16 (by omega)) (pt 17 (by omega)) (pt 18 (by omega)) (pt 6 (by omega)), hw]
    simp only [zq_t, zbd_s]
    rw [if_pos (by rw [← ek]; rfl)]
  | succ c ih =>
    intro k T p K ek pt t23 hp t24 t26 hK
    have hcw := cw_pos n
    rw [Nat.succ_mul] at hK
    obtain ⟨K, rfl⟩ : ∃ K', K = K' + 1 := ⟨K - 1, by omega⟩
    have hkl : k < wth (t 16) (t 17) (t 18) (t 6) x := by omega
    have hch := hh k hkl
    have pt1 : pT t (zup T 26 p (nI (k + 1))) := pT_up pt (by omega) _ _
    have a23 : zup T 26 p (nI (k + 1)) 23 0 = nI (p + 1) := by rw [zup_n _ _ _ (by omega)]; exact t23
    have a24 : zup T 26 p (nI (k + 1)) 24 p = nI x := by rw [zup_n _ _ _ (by omega)]; exact t24
    have a26 : zup T 26 p (nI (k + 1)) 26 p = nI (k + 1) := by rw [zup_s, upd_s]
    have ao : ∀ i, i < p → zup T 26 p (nI (k + 1)) 24 i = T 24 i ∧ zup T 26 p (nI (k + 1)) 26 i = T 26 i := fun i hi => ⟨by rw [zup_n _ _ _ (by omega)], by rw [zup_s, upd_n _ _ (by omega)]⟩
    have go : l_X6_isWhole M (K + 1) T (nI 1) = if kid (t 16) (t 17) (t 20) (t 10) x k = -1 then l_X6_isWhole M K (zup T 26 p (nI (k + 1))) (nI 0) else zq (zin (kid (t 16) (t 17) (t 20) (t 10) x k) 100) <| if t 16 (kid (t 16) (t 17) (t 20) (t 10) x k).toNatClampNeg = 0 then l_X6_isWhole M K (zup T 26 p (nI (k + 1))) (nI 1) else zbd (f_X6_pile M (zup T 26 p (nI (k + 1))) (kid (t 16) (t 17) (t 20) (t 10) x k) (-1)) (fun q3 => l_X6_isWhole M K q3 (nI 1)) := by
      rw [l_X6_isWhole, if_neg b_10, t23, if_pos (nI_gt0 (p := p) (by omega)), nI_sub1, zin_t (show p < 64 by omega), zcl (n := p) (by omega), t24, t26, pT_wi (pt 16 (by omega)) (pt 17 (by omega)) (pt 18 (by omega)) (pt 6 (by omega)), hw, pT_in (pt 16 (by omega)) (pt 17 (by omega)) (pt 20 (by omega)) (pt 10 (by omega)), e_kid hA hE hB hF hG hx hkl, pt 16 (by omega), nI_add]
      simp only [zq_t, zbd_s]
      rw [if_neg (fun q => absurd (nI_inj (by omega) (by omega) q) (by omega))]
    rw [go]
    rcases hk k hkl with hz | ⟨y, hy, ey⟩
    · right
      refine ⟨fun z => (z k (by omega) hkl).1 hz, _, pt1, ?_⟩
      rw [if_pos hz]
      obtain ⟨K, rfl⟩ : ∃ K', K = K' + 1 := ⟨K - 1, by omega⟩
      rw [l_X6_isWhole, if_pos b_00, bo_0, zq_t]
    · have hne : kid (t 16) (t 17) (t 20) (t 10) x k ≠ -1 := by rw [ey]; exact nI_m1 (by omega)
      have hch := hch hne
      rw [ey, zcl (n := y) (by omega)] at hch
      -- what is left, once this thing is WHOLE
      have left : ∀ T2 K2, whl (t 16) (t 17) (t 18) (t 20) (t 6) (t 10) n y → pT t T2 → T2 23 0 = nI (p + 1) → T2 24 p = nI x → T2 26 p = nI (k + 1) → (∀ i, i < p → T2 24 i = T 24 i ∧ T2 26 i = T 26 i) → K + 1 ≤ K2 + cw n →
          ((∀ e, k ≤ e → e < wth (t 16) (t 17) (t 18) (t 6) x → kid (t 16) (t 17) (t 20) (t 10) x e ≠ -1 ∧ whl (t 16) (t 17) (t 18) (t 20) (t 6) (t 10) n (kid (t 16) (t 17) (t 20) (t 10) x e).toNatClampNeg) ∧ ∃ T' K', K + 1 ≤ K' + ((c + 1) * cw n + 1) ∧ pT t T' ∧ T' 23 0 = nI p ∧ (∀ i, i < p → T' 24 i = T 24 i ∧ T' 26 i = T 26 i) ∧ l_X6_isWhole M K2 T2 (nI 1) = l_X6_isWhole M K' T' (nI 1)) ∨
          ((¬ ∀ e, k ≤ e → e < wth (t 16) (t 17) (t 18) (t 6) x → kid (t 16) (t 17) (t 20) (t 10) x e ≠ -1 ∧ whl (t 16) (t 17) (t 18) (t 20) (t 6) (t 10) n (kid (t 16) (t 17) (t 20) (t 10) x e).toNatClampNeg) ∧ ∃ T', pT t T' ∧ l_X6_isWhole M K2 T2 (nI 1) = some (nI 0, T')) := by
        intro T2 K2 hwy q1 q2 q3 q4 q5 q6
        rcases ih (k + 1) T2 p K2 (by omega) q1 q2 hp q3 q4 (by omega) with ⟨g1, T', K', g2, g3, g4, g5, g6⟩ | ⟨g1, g2⟩
        · left
          refine ⟨fun e h1 h2 => ?_, T', K', by rw [Nat.succ_mul]; omega, g3, g4, fun i hi => ⟨(g5 i hi).1.trans (q5 i hi).1, (g5 i hi).2.trans (q5 i hi).2⟩, g6⟩
          rcases Nat.lt_or_ge k e with h5 | h5
          · exact g1 e h5 h2
          · rw [show e = k by omega]
            refine ⟨hne, ?_⟩
            rw [ey, zcl (n := y) (by omega)]
            exact hwy
        · exact Or.inr ⟨fun z => g1 (fun e h1 h2 => z e (by omega) h2), g2⟩
      rw [if_neg hne, ey, zin_t (show y < 100 by omega), zq_t, zcl (n := y) (by omega)]
      by_cases hs : t 16 y = nI 0
      · rw [if_pos (show t 16 y = 0 from hs)]
        exact left _ K (whl_0 hs n) pt1 a23 a24 a26 ao (by omega)
      · rw [if_neg (show ¬ t 16 y = 0 from hs), e_pile a23 (by omega), zbd_s]
        have b1 : pT t (zup (zup (zup (zup (zup T 26 p (nI (k + 1))) 24 (p + 1) (nI y)) 25 (p + 1) (-1)) 26 (p + 1) (nI 0)) 23 0 (nI (p + 1 + 1))) := pT_up (pT_up (pT_up (pT_up pt1 (by omega) _ _) (by omega) _ _) (by omega) _ _) (by omega) _ _
        have b24 : ∀ i, zup (zup (zup (zup (zup T 26 p (nI (k + 1))) 24 (p + 1) (nI y)) 25 (p + 1) (-1)) 26 (p + 1) (nI 0)) 23 0 (nI (p + 1 + 1)) 24 i = upd (T 24) (p + 1) (nI y) i := by
          intro i
          rw [zup_n _ _ _ (by omega), zup_n _ _ _ (by omega), zup_n _ _ _ (by omega), zup_s, zup_n _ _ _ (by omega)]
        have b26 : ∀ i, zup (zup (zup (zup (zup T 26 p (nI (k + 1))) 24 (p + 1) (nI y)) 25 (p + 1) (-1)) 26 (p + 1) (nI 0)) 23 0 (nI (p + 1 + 1)) 26 i = upd (upd (T 26) p (nI (k + 1))) (p + 1) (nI 0) i := by
          intro i
          rw [zup_n _ _ _ (by omega), zup_s, zup_n _ _ _ (by omega), zup_n _ _ _ (by omega), zup_s]
        rcases sub y hy hch hs _ (p + 1) K b1 (by rw [zup_s, upd_s]) (by omega) (by rw [b24, upd_s]) (by rw [b26, upd_s]) (by omega) with ⟨g1, T', K', g2, g3, g4, g5, g6⟩ | ⟨g1, T', g2, g3⟩
        · rw [g6]
          refine left T' K' g1 g3 g4 ?_ ?_ (fun i hi => ⟨?_, ?_⟩) g2
          · rw [(g5 p (by omega)).1, b24, upd_n _ _ (by omega)]
            exact t24
          · rw [(g5 p (by omega)).2, b26, upd_n _ _ (by omega), upd_s]
          · rw [(g5 i (by omega)).1, b24, upd_n _ _ (by omega)]
          · rw [(g5 i (by omega)).2, b26, upd_n _ _ (by omega), upd_n _ _ (by omega)]
        · right
          refine ⟨fun z => g1 ?_, T', g2, g3⟩
          have := (z k (by omega) hkl).2
          rw [ey, zcl (n := y) (by omega)] at this
          exact this
theorem wm {M : Nat} (hA : iA m (s 2) (s 3) (s 4) (s 5) (s 6) (s 8) (s 9) (s 12) (s 13) (s 14) (t 0) (t 1) (t 2) (t 3) (t 6) (t 4) (t 5) (t 7) (t 8) (t 9)) (hB : iB m (t 6) (t 7) (t 8) (t 4) (t 5)) (hE : iE v (s 19) (s 20) (s 21) (s 22) (s 23) (s 24) (t 15) (t 16) (t 17) (t 18) (t 19) (t 20)) (hF : iF m v (t 6) (t 8) (t 9) (t 16) (t 17) (t 18) (t 19) (t 20)) (hG : iG m v (s 15) (t 6) (t 8) (t 9) (t 10) (t 16) (t 17) (t 18) (t 19) (t 20)) : ∀ n, ∀ x, x < v → hgt (t 16) (t 17) (t 18) (t 20) (t 6) (t 10) (n + 1) x → ∀ c k T p K, k + c = wth (t 16) (t 17) (t 18) (t 6) x → pT t T → T 23 0 = nI (p + 1) → p + n < 63 → T 24 p = nI x → T 26 p = nI k → c * cw n + 1 < K →
    ((∀ e, k ≤ e → e < wth (t 16) (t 17) (t 18) (t 6) x → kid (t 16) (t 17) (t 20) (t 10) x e ≠ -1 ∧ whl (t 16) (t 17) (t 18) (t 20) (t 6) (t 10) n (kid (t 16) (t 17) (t 20) (t 10) x e).toNatClampNeg) ∧ ∃ T' K', K ≤ K' + (c * cw n + 1) ∧ pT t T' ∧ T' 23 0 = nI p ∧ (∀ i, i < p → T' 24 i = T 24 i ∧ T' 26 i = T 26 i) ∧ l_X6_isWhole M K T (nI 1) = l_X6_isWhole M K' T' (nI 1)) ∨
    ((¬ ∀ e, k ≤ e → e < wth (t 16) (t 17) (t 18) (t 6) x → kid (t 16) (t 17) (t 20) (t 10) x e ≠ -1 ∧ whl (t 16) (t 17) (t 18) (t 20) (t 6) (t 10) n (kid (t 16) (t 17) (t 20) (t 10) x e).toNatClampNeg) ∧ ∃ T', pT t T' ∧ l_X6_isWhole M K T (nI 1) = some (nI 0, T')) := by
  intro n
  induction n with
  | zero => exact wm_i hA hB hE hF hG (fun y _ h h' => absurd h h')
  | succ n ih =>
    have hv := hE.1
    have hm := hA.1
    refine wm_i hA hB hE hF hG (fun y hy hh _ T p K h1 h2 h3 h4 h5 h6 => ?_)
    have h5w := (w_kid hm hv hB hF hG hy).1
    have hmul := Nat.mul_le_mul_right (cw n) h5w
    have ec : cw (n + 1) = 5 * cw n + 2 := rfl
    rcases ih y hy hh _ 0 T p K (Nat.zero_add _) h1 h2 (by omega) h4 h5 (by omega) with ⟨g1, T', K', g2, g3⟩ | ⟨g1, g2⟩
    · exact Or.inl ⟨(whl_s hv hB hF hy n).mpr (fun e he => g1 e (by omega) he), T', K', by omega, g3⟩
    · exact Or.inr ⟨fun z => g1 (fun e _ he => (whl_s hv hB hF hy n).mp z e he), g2⟩
/-- WHOLE, as both answer -/
theorem c_whl {M : Nat} (hM : 9000000 ≤ M) (hA : iA m (s 2) (s 3) (s 4) (s 5) (s 6) (s 8) (s 9) (s 12) (s 13) (s 14) (t 0) (t 1) (t 2) (t 3) (t 6) (t 4) (t 5) (t 7) (t 8) (t 9)) (hB : iB m (t 6) (t 7) (t 8) (t 4) (t 5)) (hE : iE v (s 19) (s 20) (s 21) (s 22) (s 23) (s 24) (t 15) (t 16) (t 17) (t 18) (t 19) (t 20)) (hF : iF m v (t 6) (t 8) (t 9) (t 16) (t 17) (t 18) (t 19) (t 20)) (hG : iG m v (s 15) (t 6) (t 8) (t 9) (t 10) (t 16) (t 17) (t 18) (t 19) (t 20)) {x : Nat} (hx : x < v) : (whl (t 16) (t 17) (t 18) (t 20) (t 6) (t 10) 8 x ∧ g_X3_isWhole M 20 0 s (nI x) (nI 0) = some (nI 1) ∧ ∃ T, pT t T ∧ f_X6_isWhole M t (nI x) = some (nI 1, T)) ∨ (¬ whl (t 16) (t 17) (t 18) (t 20) (t 6) (t 10) 8 x ∧ g_X3_isWhole M 20 0 s (nI x) (nI 0) = some (nI 0) ∧ ∃ T, pT t T ∧ f_X6_isWhole M t (nI x) = some (nI 0, T)) := by
  have hv := hE.1
  have hm := hA.1
  have h7 := h_all hm hv hB hF hG x hx
  have w87 := whl_n hm hv hB hF hG 7 8 x (by omega) hx h7
  have e0 : f_X6_isWhole M t (nI x) = l_X6_isWhole M M (zup (zup (zup (zup (zup t 23 0 (nI 0)) 24 0 (nI x)) 25 0 (-1)) 26 0 (nI 0)) 23 0 (nI (0 + 1))) (nI 1) := by
    unfold f_X6_isWhole
    rw [e_pile (p := 0) (by rw [zup_s, upd_s]) (by omega), zbd_s]
  have pt : pT t (zup (zup (zup (zup (zup t 23 0 (nI 0)) 24 0 (nI x)) 25 0 (-1)) 26 0 (nI 0)) 23 0 (nI (0 + 1))) := pT_up (pT_up (pT_up (pT_up (pT_up pT_r (by omega) _ _) (by omega) _ _) (by omega) _ _) (by omega) _ _) (by omega) _ _
  have h5w := (w_kid hm hv hB hF hG hx).1
  have hmul := Nat.mul_le_mul_right (cw 6) h5w
  have c6 : cw 6 = 23437 := by decide
  have e26 : zup (zup (zup (zup (zup t 23 0 (nI 0)) 24 0 (nI x)) 25 0 (-1)) 26 0 (nI 0)) 23 0 (nI (0 + 1)) 26 0 = nI 0 := by rw [zup_n _ _ _ (by omega), zup_s, upd_s]
  have e24 : zup (zup (zup (zup (zup t 23 0 (nI 0)) 24 0 (nI x)) 25 0 (-1)) 26 0 (nI 0)) 23 0 (nI (0 + 1)) 24 0 = nI x := by rw [zup_n _ _ _ (by omega), zup_n _ _ _ (by omega), zup_n _ _ _ (by omega), zup_s, upd_s]
  have r := wm (M := M) hA hB hE hF hG 6 x hx h7 _ 0 _ 0 M (Nat.zero_add _) pt (by rw [zup_s, upd_s]) (by omega) e24 e26 (by omega)
  rw [← e0] at r
  rcases w_c (M := M) (by omega) hA hB hE hF hG 7 x 0 20 hx h7 (by omega) (by omega) with ⟨a1, a2⟩ | ⟨a1, a2⟩
  · left
    refine ⟨w87.mpr a1, a2, ?_⟩
    rcases r with ⟨g1, T', K', g2, g3, g4, g5, g6⟩ | ⟨g1, -⟩
    · refine ⟨T', g3, ?_⟩
      rw [g6]
      obtain ⟨K', rfl⟩ : ∃ K2, K' = K2 + 1 := ⟨K' - 1, by omega⟩
      rw [l_X6_isWhole, if_neg b_10, g4, if_neg (show ¬ (0 : Int32) < nI 0 by decide), bo_1, zq_t]
    · exact absurd (fun e _ he => (whl_s hv hB hF hx 6).mp a1 e he) g1
  · right
    refine ⟨fun z => a1 (w87.mp z), a2, ?_⟩
    rcases r with ⟨g1, -⟩ | ⟨-, g2⟩
    · exact absurd ((whl_s hv hB hF hx 6).mpr (fun e he => g1 e (by omega) he)) a1
    · exact g2
end WL
