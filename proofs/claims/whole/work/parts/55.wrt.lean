/-! writing: the reference's way, and both. -/
theorem mS_up {t T : zS} {L : List Int32} (h : mS t T L) {r : Nat} (hr : 23 ≤ r ∧ r ≤ 26) (j : Nat) (x : Int32) : mS t (zup T r j x) L := by
  obtain ⟨h1, h2, h3⟩ := h
  unfold mS
  rw [zup_n _ _ _ (show 29 ≠ r by omega), zup_n _ _ _ (show 30 ≠ r by omega)]
  exact ⟨fun r' hr' => (zup_n _ _ _ (by omega)).trans (h1 r' hr'), h2, h3⟩
def bE (M K : Nat) (y : Int32) (T2 : zS) : Option (Int32 × zS) := zbd (f_X6_begin M T2 y) (fun q8 => zq (zin y 100) <| if q8 16 y.toNatClampNeg = 0 then l_X6_written M K 0 q8 0 else zbd (f_X6_pile M q8 y (-1)) (fun q9 => l_X6_written M K 0 q9 0))
def lE (M K x k : Nat) (y : Int32) (T0 T2 : zS) : Option (Int32 × zS) := if T0 16 x = nI 2 then zq (zin ((nI 5 * T0 17 x) + nI k) 60) <| zbd (f_X6_write M T2 (nI 48 + T0 7 ((nI 5 * T0 17 x) + nI k).toNatClampNeg)) (fun q6 => zbd (f_X6_write M q6 (nI 61)) (fun q7 => bE M K y q7)) else bE M K y T2
def wres (M : Nat) (t T : zS) (p C K : Nat) (E : Option (Int32 × zS)) (L' : List Int32) : Prop :=
  (∃ T' K', K ≤ K' + C ∧ mS t T' L' ∧ T' 23 0 = nI p ∧ (∀ i, i < p → T' 24 i = T 24 i ∧ T' 26 i = T 26 i) ∧ E = l_X6_written M K' 0 T' 0) ∨ (2000 < L'.length ∧ ∃ T', (∀ r, r < 23 ∨ 31 < r ∨ r = 27 ∨ r = 28 → T' r = t r) ∧ E = some (-3, T'))
section WR
variable {m v : Nat} {s t : zS}
theorem r_begin {M : Nat} (hM : 100 < M) (hm : m ≤ 12) (hv : v ≤ 100) (hF : iF m v (t 6) (t 8) (t 9) (t 16) (t 17) (t 18) (t 19) (t 20)) {T : zS} {L : List Int32} (h : mS t T L) (hl : L.length + 50 < 2 ^ 30) {x : Nat} (hx : x < v) : ∃ T', f_X6_begin M T (nI x) = some T' ∧ mS t T' (L ++ hdr t x) ∧ kS T T' := by
  unfold f_X6_begin
  rw [zin_t (show x < 100 by omega), zcl (n := x) (by omega), h.1 16 (by omega), h.1 17 (by omega)]
  simp only [zq_t]
  have hk1 : ∀ c, ∃ T', zbd (f_X6_write M T (nI c)) (fun q => zbd (f_X6_writeNumber M q (q 18 x)) (fun q => some q)) = some T' ∧ mS t T' (L ++ ([nI c] ++ num (t 18 x))) ∧ kS T T' := by
    intro c
    obtain ⟨T1, g1, g2, g3, -⟩ := r_b (M := M) h (by omega) (nI c)
    rw [g1, zbd_s, g2.1 18 (by omega)]
    obtain ⟨T2, g4, g5, g6⟩ := r_num hM g2 (by simp; omega) (t 18 x)
    rw [g4, zbd_s]
    exact ⟨T2, rfl, by simpa using g5, kS_t g3 g6⟩
  obtain ⟨-, q⟩ := hF x hx
  rcases q with ⟨q, c, hc, ec⟩ | ⟨q, -⟩ | ⟨q, j, hj, ej, -⟩
  · have eh : hdr t x = pre (t 17 x) ++ num (t 18 x) := by
      unfold hdr
      rw [q, if_neg (by decide), if_neg (by decide)]
    rw [eh, q, if_neg (show ¬ (nI 0 : Int32) = nI 1 by decide), if_neg (show ¬ (nI 0 : Int32) = nI 2 by decide), ec]
    rcases (show c = 0 ∨ c = 1 ∨ c = 2 ∨ c = 3 by omega) with rfl | rfl | rfl | rfl
    · rw [if_neg (show ¬ (0 : Int32) < nI 0 by decide), h.1 18 (by omega), show pre (nI 0) = [] by decide, List.nil_append]
      obtain ⟨T2, g4, g5, g6⟩ := r_num hM h (by omega) (t 18 x)
      rw [g4, zbd_s]
      exact ⟨T2, rfl, g5, g6⟩
    · rw [if_pos (show (0 : Int32) < nI 1 by decide), if_pos rfl, show pre (nI 1) = [nI 119] by decide]
      exact hk1 119
    · rw [if_pos (show (0 : Int32) < nI 2 by decide), if_neg (show ¬ (nI 2 : Int32) = nI 1 by decide), if_pos rfl, show pre (nI 2) = [nI 99] by decide]
      exact hk1 99
    · rw [if_pos (show (0 : Int32) < nI 3 by decide), if_neg (show ¬ (nI 3 : Int32) = nI 1 by decide), if_neg (show ¬ (nI 3 : Int32) = nI 2 by decide), show pre (nI 3) = [nI 116] by decide]
      exact hk1 116
  · have eh : hdr t x = [nI 123] := by unfold hdr; rw [if_pos q]
    rw [eh, q, if_pos rfl]
    obtain ⟨T1, g1, g2, g3, -⟩ := r_b (M := M) h (by omega) (nI 123)
    rw [g1, zbd_s]
    exact ⟨T1, rfl, g2, g3⟩
  · have eh : hdr t x = [nI 64] ++ num (t 17 x) ++ [nI 40] := by unfold hdr; rw [q, if_neg (by decide), if_pos rfl]
    rw [eh, q, if_neg (show ¬ (nI 2 : Int32) = nI 1 by decide), if_pos rfl]
    obtain ⟨T1, g1, g2, g3, -⟩ := r_b (M := M) h (by omega) (nI 64)
    rw [g1, zbd_s, g2.1 17 (by omega)]
    obtain ⟨T2, g4, g5, g6⟩ := r_num hM g2 (by simp; omega) (t 17 x)
    rw [g4, zbd_s]
    have hn := num_l (t 17 x)
    obtain ⟨T3, g7, g8, g9, -⟩ := r_b (M := M) g5 (by simp; omega) (nI 40)
    rw [g7, zbd_s]
    exact ⟨T3, rfl, by simpa using g8, kS_t (kS_t g3 g6) g9⟩
theorem r_beh {M : Nat} (hM : 100 < M) (hA : iA m (s 2) (s 3) (s 4) (s 5) (s 6) (s 8) (s 9) (s 12) (s 13) (s 14) (t 0) (t 1) (t 2) (t 3) (t 6) (t 4) (t 5) (t 7) (t 8) (t 9)) (hE : iE v (s 19) (s 20) (s 21) (s 22) (s 23) (s 24) (t 15) (t 16) (t 17) (t 18) (t 19) (t 20)) (hB : iB m (t 6) (t 7) (t 8) (t 4) (t 5)) (hF : iF m v (t 6) (t 8) (t 9) (t 16) (t 17) (t 18) (t 19) (t 20)) (hG : iG m v (s 15) (t 6) (t 8) (t 9) (t 10) (t 16) (t 17) (t 18) (t 19) (t 20)) {T : zS} {L : List Int32} (h : mS t T L) {x k : Nat} (hx : x < v) (hk : k ≤ wd t x) : f_X6_isBehind M T (nI x) (nI k) = some (if bhd t x k = true then nI 1 else nI 0) := by
  have h5 : wd t x ≤ 5 := (w_kid hA.1 hE.1 hB hF hG hx).1
  have lo : ∀ c e K, e + c = k → c < K → l_X6_isBehind M K T (nI x) (nI k) (if bhd t x e = true then nI 1 else nI 0) (nI e) = some (if bhd t x k = true then nI 1 else nI 0) := by
    intro c
    induction c with
    | zero =>
      intro e K he hK
      obtain ⟨K, rfl⟩ : ∃ K', K = K' + 1 := ⟨K - 1, by omega⟩
      rw [l_X6_isBehind, if_neg (nI_nlt (by omega) (by omega)), show e = k by omega]
      by_cases c : bhd t x k = true
      · simp only [c, if_true, bo_1, zq_t]
      · simp only [c, Bool.false_eq_true, if_false, bo_0, zq_t]
    | succ c ih =>
      intro e K he hK
      obtain ⟨K, rfl⟩ : ∃ K', K = K' + 1 := ⟨K - 1, by omega⟩
      have := ih (e + 1) K (by omega) (by omega)
      have ebh : bhd t x (e + 1) = (bhd t x e || decide (kd t x e ≠ -1)) := rfl
      have hel : e < wth (t 16) (t 17) (t 18) (t 6) x := by unfold wd at hk; omega
      rw [l_X6_isBehind, if_pos (nI_lt (by omega) (by omega)), nI_add, pT_in (h.1 16 (by omega)) (h.1 17 (by omega)) (h.1 20 (by omega)) (h.1 10 (by omega)), e_kid hA hE hB hF hG hx hel, zbd_s]
      by_cases c : bhd t x e = true
      · simp only [c, if_true]
        rw [if_neg b_10]
        rw [ebh, c] at this
        simp only [Bool.true_or, if_true] at this
        exact this
      · simp only [c, Bool.false_eq_true, if_false]
        rw [if_pos b_00]
        by_cases z : kid (t 16) (t 17) (t 20) (t 10) x e = -1
        · rw [if_pos z]
          have e2 : bhd t x (e + 1) = false := by
            rw [ebh]
            unfold kd
            simp [z, c]
          rw [e2] at this
          simpa using this
        · rw [if_neg z]
          have e2 : bhd t x (e + 1) = true := by
            rw [ebh]
            unfold kd
            simp [z]
          rw [e2] at this
          simpa using this
  exact lo k 0 M (by omega) (by omega)
theorem wr_i {M n : Nat} (hM : 100 < M) (hA : iA m (s 2) (s 3) (s 4) (s 5) (s 6) (s 8) (s 9) (s 12) (s 13) (s 14) (t 0) (t 1) (t 2) (t 3) (t 6) (t 4) (t 5) (t 7) (t 8) (t 9)) (hB : iB m (t 6) (t 7) (t 8) (t 4) (t 5)) (hE : iE v (s 19) (s 20) (s 21) (s 22) (s 23) (s 24) (t 15) (t 16) (t 17) (t 18) (t 19) (t 20)) (hF : iF m v (t 6) (t 8) (t 9) (t 16) (t 17) (t 18) (t 19) (t 20)) (hG : iG m v (s 15) (t 6) (t 8) (t 9) (t 10) (t 16) (t 17) (t 18) (t 19) (t 20))
    (sub : ∀ y X, y < v → hg t n y → t 16 y ≠ nI 0 → txt t n y = hdr t y ++ X → ∀ T p K L, mS t T L → T 23 0 = nI (p + 1) → p + n < 64 → T 24 p = nI y → T 26 p = nI 0 → L.length + X.length + 60 < 2 ^ 30 → cw n < K + 1 → wres M t T p (cw n) (K + 1) (l_X6_written M K 0 T 0) (L ++ X)) :
    ∀ x, x < v → t 16 x ≠ nI 0 → hg t (n + 1) x → ∀ c k T p K L, k + c = wd t x → mS t T L → T 23 0 = nI (p + 1) → p + n < 63 → T 24 p = nI x → T 26 p = nI k → L.length + (bod t (txt t n) x k c).length + 60 < 2 ^ 30 → c * cw n + 1 < K → wres M t T p (c * cw n + 1) K (l_X6_written M K 0 T 0) (L ++ bod t (txt t n) x k c ++ cls t x) := by
  have hv := hE.1
  have hm := hA.1
  intro x hx hx0 hh c
  obtain ⟨h5, hk⟩ := w_kid hm hv hB hF hG hx
  have hw := e_wth (M := M) hm hv hB hF hx
  -- already too long
  have too : ∀ {T : zS} {L X : List Int32} {p K C : Nat}, mS t T L → L.length < 2 ^ 30 → T 23 0 = nI (p + 1) → p < 64 → 1 ≤ K → nI 2000 < T 29 0 → wres M t T p C K (l_X6_written M K 0 T 0) (L ++ X) := by
    intro T L X p K C h hl t23 hp hK h2
    obtain ⟨K, rfl⟩ : ∃ K', K = K' + 1 := ⟨K - 1, by omega⟩
    right
    obtain ⟨h1, ⟨a, h3, h4⟩, h6⟩ := id h
    have ha := h4.1
    refine ⟨?_, T, h1, ?_⟩
    · rw [h3] at h2
      have : 2000 < a := by
        rcases Nat.lt_or_ge 2000 a with z | z
        · exact z
        · exact absurd h2 (nI_nlt z (by omega))
      rw [List.length_append]
      omega
    · rw [l_X6_written, t23, if_pos (nI_gt0 (p := p) (by omega)), if_pos h2, if_pos h2]
  induction c with
  | zero =>
    intro k T p K L ek h t23 hp t24 t26 hl hK
    unfold bod
    rw [List.append_nil]
    by_cases h2 : nI 2000 < T 29 0
    · exact too h (by omega) t23 (by omega) (by omega) h2
    left
    obtain ⟨K, rfl⟩ : ∃ K', K = K' + 1 := ⟨K - 1, by omega⟩
    have fin : ∀ ch, ∃ T' K', K + 1 ≤ K' + (0 * cw n + 1) ∧ mS t T' (L ++ [nI ch]) ∧ T' 23 0 = nI p ∧ (∀ i, i < p → T' 24 i = T 24 i ∧ T' 26 i = T 26 i) ∧ zbd (f_X6_write M T (nI ch)) (fun q2 => l_X6_written M K 0 (zup q2 23 0 ((q2 23 0) - (nI 1))) 0) = l_X6_written M K' 0 T' 0 := by
      intro ch
      obtain ⟨T1, g1, g2, g3, -⟩ := r_b (M := M) h (by omega) (nI ch)
      have e23 : T1 23 0 = nI (p + 1) := by rw [g3 23 (by omega)]; exact t23
      refine ⟨zup T1 23 0 (nI p), K, by omega, mS_up g2 (by omega) _ _, by rw [zup_s, upd_s], fun i hi => ⟨by rw [zup_n _ _ _ (by omega), g3 24 (by omega)], by rw [zup_n _ _ _ (by omega), g3 26 (by omega)]⟩, ?_⟩
      rw [g1, zbd_s, e23, nI_sub1]
    have go : l_X6_written M (K + 1) 0 T 0 = if t 16 x = nI 1 then zbd (f_X6_write M T (nI 125)) (fun q2 => l_X6_written M K 0 (zup q2 23 0 ((q2 23 0) - (nI 1))) 0) else zbd (f_X6_write M T (nI 41)) (fun q2 => l_X6_written M K 0 (zup q2 23 0 ((q2 23 0) - (nI 1))) 0) := by
      rw [l_X6_written, t23, if_pos (nI_gt0 (p := p) (by omega)), if_neg h2, nI_sub1, zin_t (show p < 64 by omega), zcl (n := p) (by omega), t24, t26, pT_wi (h.1 16 (by omega)) (h.1 17 (by omega)) (h.1 18 (by omega)) (h.1 6 (by omega)), hw, zin_t (show x < 100 by omega), zcl (n := x) (by omega), h.1 16 (by omega)]
      simp only [zq_t, zbd_s]
      rw [if_pos (by unfold wd at ek; rw [← ek]; rfl)]
    rw [go]
    unfold cls
    by_cases c1 : t 16 x = nI 1
    · rw [if_pos c1, if_pos c1]
      exact fin 125
    · rw [if_neg c1, if_neg c1]
      exact fin 41
  | succ c ih =>
    intro k T p K L ek h t23 hp t24 t26 hl hK
    by_cases h2 : nI 2000 < T 29 0
    · rw [List.append_assoc]
      exact too h (by omega) t23 (by omega) (by omega) h2
    have hcw := cw_pos n
    rw [Nat.succ_mul] at hK
    obtain ⟨K, rfl⟩ : ∃ K', K = K' + 1 := ⟨K - 1, by omega⟩
    have hkl : k < wd t x := by omega
    have hkl2 : k < wth (t 16) (t 17) (t 18) (t 6) x := hkl
    have h5 : wd t x ≤ 5 := h5
    have m1 : mS t (zup T 26 p (nI (k + 1))) L := mS_up h (by omega) _ _
    have a23 : zup T 26 p (nI (k + 1)) 23 0 = nI (p + 1) := by rw [zup_n _ _ _ (by omega)]; exact t23
    have a24 : zup T 26 p (nI (k + 1)) 24 p = nI x := by rw [zup_n _ _ _ (by omega)]; exact t24
    have a26 : zup T 26 p (nI (k + 1)) 26 p = nI (k + 1) := by rw [zup_s, upd_s]
    have ao : ∀ i, i < p → zup T 26 p (nI (k + 1)) 24 i = T 24 i ∧ zup T 26 p (nI (k + 1)) 26 i = T 26 i := fun i hi => ⟨by rw [zup_n _ _ _ (by omega)], by rw [zup_s, upd_n _ _ (by omega)]⟩
    have go : l_X6_written M (K + 1) 0 T 0 = if kd t x k = -1 then l_X6_written M K 0 (zup T 26 p (nI (k + 1))) 0 else zbd (f_X6_isBehind M (zup T 26 p (nI (k + 1))) (nI x) (nI k)) (fun q5 => if q5 = 0 then lE M K x k (kd t x k) T (zup T 26 p (nI (k + 1))) else zbd (f_X6_write M (zup T 26 p (nI (k + 1))) (nI 44)) (fun q12 => lE M K x k (kd t x k) q12 q12)) := by
      rw [l_X6_written, t23, if_pos (nI_gt0 (p := p) (by omega)), if_neg h2, nI_sub1, zin_t (show p < 64 by omega), zcl (n := p) (by omega), t24, t26, pT_wi (h.1 16 (by omega)) (h.1 17 (by omega)) (h.1 18 (by omega)) (h.1 6 (by omega)), hw, pT_in (h.1 16 (by omega)) (h.1 17 (by omega)) (h.1 20 (by omega)) (h.1 10 (by omega)), e_kid hA hE hB hF hG hx hkl2, nI_add, zin_t (show x < 100 by omega), zcl (n := x) (by omega)]
      simp only [zq_t, zbd_s]
      rw [if_neg (fun q => absurd (nI_inj (by unfold wd at hkl; omega) (by unfold wd at h5; omega) q) (by omega))]
      rfl
    rw [go]
    by_cases hz : kd t x k = -1
    · rw [if_pos hz]
      have eb : bod t (txt t n) x k (c + 1) = bod t (txt t n) x (k + 1) c := by
        rw [bod, if_pos hz, List.nil_append]
      rw [eb] at hl ⊢
      rcases ih (k + 1) _ p K L (by omega) m1 a23 hp a24 a26 (by omega) (by omega) with ⟨T', K', g1, g2, g3, g4, g5⟩ | g
      · left
        exact ⟨T', K', by rw [Nat.succ_mul]; omega, g2, g3, fun i hi => ⟨(g4 i hi).1.trans (ao i hi).1, (g4 i hi).2.trans (ao i hi).2⟩, g5⟩
      · exact Or.inr g
    rw [if_neg hz]
    rcases hk k hkl2 with z | ⟨y, hy, ey⟩
    · exact absurd z hz
    have ey : kd t x k = nI y := ey
    have hch : hg t n (kd t x k).toNatClampNeg := hh k hkl2 hz
    rw [ey, zcl (n := y) (by omega)] at hch
    have eb : bod t (txt t n) x k (c + 1) = (if bhd t x k = true then [nI 44] else []) ++ lab t x k ++ txt t n y ++ bod t (txt t n) x (k + 1) c := by
      rw [bod, if_neg hz]
      unfold itm
      rw [ey, zcl (n := y) (by omega)]
    rw [eb] at hl ⊢
    -- the thing itself, and what is left
    have left : ∀ T2 K2 L2, mS t T2 L2 → T2 23 0 = nI (p + 1) → T2 24 p = nI x → T2 26 p = nI (k + 1) → (∀ i, i < p → T2 24 i = T 24 i ∧ T2 26 i = T 26 i) → L2.length + (bod t (txt t n) x (k + 1) c).length + 60 < 2 ^ 30 → K + 1 ≤ K2 + cw n → wres M t T p ((c + 1) * cw n + 1) (K + 1) (l_X6_written M K2 0 T2 0) (L2 ++ bod t (txt t n) x (k + 1) c ++ cls t x) := by
      intro T2 K2 L2 q1 q2 q3 q4 q5 q6 q7
      rcases ih (k + 1) T2 p K2 L2 (by omega) q1 q2 hp q3 q4 q6 (by omega) with ⟨T', K', g1, g2, g3, g4, g5⟩ | g
      · left
        exact ⟨T', K', by rw [Nat.succ_mul]; omega, g2, g3, fun i hi => ⟨(g4 i hi).1.trans (q5 i hi).1, (g4 i hi).2.trans (q5 i hi).2⟩, g5⟩
      · exact Or.inr g
    have beg : ∀ T2 L2, mS t T2 L2 → kS (zup T 26 p (nI (k + 1))) T2 → L2.length + (txt t n y).length + (bod t (txt t n) x (k + 1) c).length + 60 < 2 ^ 30 → wres M t T p ((c + 1) * cw n + 1) (K + 1) (bE M K (nI y) T2) (L2 ++ txt t n y ++ bod t (txt t n) x (k + 1) c ++ cls t x) := by
      intro T2 L2 q1 q2 q3
      unfold bE
      obtain ⟨T3, g1, g2, g3⟩ := r_begin hM hm hv hF q1 (by omega) hy
      have g3 := kS_t q2 g3
      rw [g1, zbd_s, zin_t (show y < 100 by omega), zq_t, zcl (n := y) (by omega), g2.1 16 (by omega)]
      have d23 : T3 23 0 = nI (p + 1) := by rw [g3 23 (by omega)]; exact a23
      have d24 : T3 24 p = nI x := by rw [g3 24 (by omega)]; exact a24
      have d26 : T3 26 p = nI (k + 1) := by rw [g3 26 (by omega)]; exact a26
      have d0 : ∀ i, i < p → T3 24 i = T 24 i ∧ T3 26 i = T 26 i := fun i hi => ⟨by rw [g3 24 (by omega)]; exact (ao i hi).1, by rw [g3 26 (by omega)]; exact (ao i hi).2⟩
      by_cases hs : t 16 y = nI 0
      · rw [if_pos (show t 16 y = 0 from hs)]
        rw [txt_0 hs] at q3 ⊢
        exact left T3 K _ g2 d23 d24 d26 d0 (by simp; omega) (by omega)
      · rw [if_neg (show ¬ t 16 y = 0 from hs), e_pile d23 (by omega), zbd_s]
        obtain ⟨X, eX⟩ : ∃ X, txt t n y = hdr t y ++ X := by
          cases n with
          | zero => exact ⟨[], (List.append_nil _).symm⟩
          | succ n => exact ⟨_, by rw [txt_s hs, List.append_assoc]⟩
        have b1 : mS t (zup (zup (zup (zup T3 24 (p + 1) (nI y)) 25 (p + 1) (-1)) 26 (p + 1) (nI 0)) 23 0 (nI (p + 1 + 1))) (L2 ++ hdr t y) := mS_up (mS_up (mS_up (mS_up g2 (by omega) _ _) (by omega) _ _) (by omega) _ _) (by omega) _ _
        have b24 : ∀ i, zup (zup (zup (zup T3 24 (p + 1) (nI y)) 25 (p + 1) (-1)) 26 (p + 1) (nI 0)) 23 0 (nI (p + 1 + 1)) 24 i = upd (T3 24) (p + 1) (nI y) i := by
          intro i
          rw [zup_n _ _ _ (by omega), zup_n _ _ _ (by omega), zup_n _ _ _ (by omega), zup_s]
        have b26 : ∀ i, zup (zup (zup (zup T3 24 (p + 1) (nI y)) 25 (p + 1) (-1)) 26 (p + 1) (nI 0)) 23 0 (nI (p + 1 + 1)) 26 i = upd (T3 26) (p + 1) (nI 0) i := by
          intro i
          rw [zup_n _ _ _ (by omega), zup_s, zup_n _ _ _ (by omega), zup_n _ _ _ (by omega)]
        have q3' := q3
        rw [eX] at q3'
        simp only [List.length_append] at q3'
        rcases sub y X hy hch hs eX _ (p + 1) K (L2 ++ hdr t y) b1 (by rw [zup_s, upd_s]) (by omega) (by rw [b24, upd_s]) (by rw [b26, upd_s]) (by rw [List.length_append]; omega) (by omega) with ⟨T', K', k1, k2, k3, k4, k5⟩ | ⟨k1, T', k2, k3⟩
        · rw [k5]
          rw [List.append_assoc, ← eX] at k2
          refine left T' K' (L2 ++ txt t n y) k2 k3 ?_ ?_ (fun i hi => ⟨?_, ?_⟩) (by simp only [List.length_append]; omega) k1
          · rw [(k4 p (by omega)).1, b24, upd_n _ _ (by omega)]
            exact d24
          · rw [(k4 p (by omega)).2, b26, upd_n _ _ (by omega)]
            exact d26
          · rw [(k4 i (by omega)).1, b24, upd_n _ _ (by omega)]
            exact (d0 i hi).1
          · rw [(k4 i (by omega)).2, b26, upd_n _ _ (by omega)]
            exact (d0 i hi).2
        · right
          refine ⟨?_, T', k2, k3⟩
          rw [List.append_assoc, ← eX] at k1
          simp only [List.length_append] at k1 ⊢
          omega
    have lbl : ∀ T0 L0 T2 L2, mS t T0 L0 → mS t T2 L2 → kS (zup T 26 p (nI (k + 1))) T2 → L2.length + (lab t x k).length + (txt t n y).length + (bod t (txt t n) x (k + 1) c).length + 60 < 2 ^ 30 → wres M t T p ((c + 1) * cw n + 1) (K + 1) (lE M K x k (nI y) T0 T2) (L2 ++ lab t x k ++ txt t n y ++ bod t (txt t n) x (k + 1) c ++ cls t x) := by
      intro T0 L0 T2 L2 q0 q1 q2 q3
      unfold lE
      rw [q0.1 16 (by omega), q0.1 17 (by omega), q0.1 7 (by omega)]
      unfold lab at q3 ⊢
      by_cases c2 : t 16 x = nI 2
      · simp only [if_pos c2] at q3 ⊢
        obtain ⟨-, q⟩ := hF x hx
        rcases q with ⟨q, -⟩ | ⟨q, -⟩ | ⟨q, j, hj, ej, -⟩
        · exact absurd c2 (s_ne q (by omega) (by omega) (by omega))
        · exact absurd c2 (s_ne q (by omega) (by omega) (by omega))
        rw [ej, zcl (n := j) (by omega)] at *
        rw [pk_mul, nI_add, zin_t (show 5 * j + k < 60 by omega), zq_t, zcl (n := 5 * j + k) (by omega)]
        simp only [List.length_cons, List.length_nil] at q3
        obtain ⟨T3, g1, g2, g3, -⟩ := r_b (M := M) q1 (by omega) (nI 48 + t 7 (5 * j + k))
        rw [g1, zbd_s]
        obtain ⟨T4, g4, g5, g6, -⟩ := r_b (M := M) g2 (by simp; omega) (nI 61)
        rw [g4, zbd_s]
        have := beg T4 _ g5 (kS_t q2 (kS_t g3 g6)) (by simp; omega)
        simpa using this
      · simp only [if_neg c2] at q3 ⊢
        rw [List.append_nil]
        exact beg T2 L2 q1 q2 (by simp at q3; omega)
    rw [r_beh hM hA hE hB hF hG m1 hx (by omega), zbd_s, ey]
    by_cases cb : bhd t x k = true
    · simp only [cb, if_true] at hl ⊢
      simp only [List.length_append, List.length_cons, List.length_nil] at hl
      rw [if_neg b_10]
      obtain ⟨T3, g1, g2, g3, -⟩ := r_b (M := M) m1 (by omega) (nI 44)
      rw [g1, zbd_s]
      have := lbl T3 _ T3 _ g2 g2 g3 (by simp; omega)
      simpa using this
    · simp only [cb, Bool.false_eq_true, if_false, List.nil_append] at hl ⊢
      simp only [List.length_append] at hl
      rw [if_pos b_00]
      have := lbl T _ _ _ h m1 (fun _ _ => rfl) (by omega)
      simpa using this
theorem wr {M : Nat} (hM : 100 < M) (hA : iA m (s 2) (s 3) (s 4) (s 5) (s 6) (s 8) (s 9) (s 12) (s 13) (s 14) (t 0) (t 1) (t 2) (t 3) (t 6) (t 4) (t 5) (t 7) (t 8) (t 9)) (hB : iB m (t 6) (t 7) (t 8) (t 4) (t 5)) (hE : iE v (s 19) (s 20) (s 21) (s 22) (s 23) (s 24) (t 15) (t 16) (t 17) (t 18) (t 19) (t 20)) (hF : iF m v (t 6) (t 8) (t 9) (t 16) (t 17) (t 18) (t 19) (t 20)) (hG : iG m v (s 15) (t 6) (t 8) (t 9) (t 10) (t 16) (t 17) (t 18) (t 19) (t 20)) : ∀ n, ∀ x, x < v → t 16 x ≠ nI 0 → hg t (n + 1) x → ∀ c k T p K L, k + c = wd t x → mS t T L → T 23 0 = nI (p + 1) → p + n < 63 → T 24 p = nI x → T 26 p = nI k → L.length + (bod t (txt t n) x k c).length + 60 < 2 ^ 30 → c * cw n + 1 < K → wres M t T p (c * cw n + 1) K (l_X6_written M K 0 T 0) (L ++ bod t (txt t n) x k c ++ cls t x) := by
  intro n
  induction n with
  | zero => exact wr_i hM hA hB hE hF hG (fun y _ _ h h' => absurd h h')
  | succ n ih =>
    have hv := hE.1
    have hm := hA.1
    refine wr_i hM hA hB hE hF hG (fun y X hy hh hy0 eX T p K L h t23 hp t24 t26 hl hK => ?_)
    have h5w : wd t y ≤ 5 := (w_kid hm hv hB hF hG hy).1
    have hmul := Nat.mul_le_mul_right (cw n) h5w
    have ec : cw (n + 1) = 5 * cw n + 2 := rfl
    rw [txt_s hy0, List.append_assoc] at eX
    have eX := (List.append_cancel_left eX).symm
    have hcl := cls_l t y
    rw [eX] at hl ⊢
    simp only [List.length_append] at hl
    rw [← List.append_assoc]
    rcases ih y hy hy0 hh _ 0 T p K L (Nat.zero_add _) h t23 (by omega) t24 t26 (by omega) (by omega) with ⟨T', K', g1, g2, g3, g4, g5⟩ | g
    · exact Or.inl ⟨T', K', by omega, g2, g3, g4, g5⟩
    · exact Or.inr g
end WR
theorem r_copy {M l : Nat} (hl : l ≤ 2000) : ∀ c i T K, i + c = l → c < K → T 27 0 = nI l → ∃ T', l_X6_written M K 1 T (nI i) = some (nI l, T') ∧ (∀ r, r ≠ 28 → T' r = T r) ∧ (∀ j, j < i → T' 28 j = T 28 j) ∧ (∀ j, i ≤ j → j < l → T' 28 j = T 30 j) := by
  intro c
  induction c with
  | zero =>
    intro i T K hi hK h27
    obtain ⟨K, rfl⟩ : ∃ K', K = K' + 1 := ⟨K - 1, by omega⟩
    rw [l_X6_written, h27, if_neg (nI_nlt (by omega) (by omega))]
    exact ⟨T, rfl, fun _ _ => rfl, fun _ _ => rfl, fun j h1 h2 => absurd h2 (by omega)⟩
  | succ c ih =>
    intro i T K hi hK h27
    obtain ⟨K, rfl⟩ : ∃ K', K = K' + 1 := ⟨K - 1, by omega⟩
    rw [l_X6_written, h27, if_pos (nI_lt (by omega) (by omega)), zin_t (show i < 2000 by omega), zq_t, zq_t, zcl (n := i) (by omega), nI_add]
    obtain ⟨T', g1, g2, g3, g4⟩ := ih (i + 1) (zup T 28 i (T 30 i)) K (by omega) (by omega) (by rw [zup_n _ _ _ (by omega)]; exact h27)
    refine ⟨T', g1, fun r hr => (g2 r hr).trans (zup_n _ _ _ hr), fun j hj => ?_, fun j h1 h2 => ?_⟩
    · rw [g3 j (by omega), zup_s, upd_n _ _ (by omega)]
    · rcases Nat.lt_or_ge i j with z | z
      · rw [g4 j z h2, zup_n _ _ _ (by omega)]
      · rw [show j = i by omega, g3 i (by omega), zup_s, upd_s]
theorem inv_w {m p v u : Nat} {s t S T : zS} (h : Inv m p v u s t) (h1 : ∀ r, r ≠ 29 → r ≠ 30 → r ≠ 31 → r ≠ 32 → r ≠ 33 → S r = s r) (hp : ∀ r, r < 23 ∨ 31 < r → T r = t r) (hK : iK (S 29) (S 30) (T 27) (T 28)) : Inv m p v u S T := by
  obtain ⟨iA', iB', iC', iD', iE', iF', iG', iH', iJ', -, iL', iN'⟩ := h
  have g : ∀ r, r < 29 → S r = s r := fun r hr => h1 r (by omega) (by omega) (by omega) (by omega) (by omega)
  unfold Inv
  rw [g 0 (by omega), g 1 (by omega), g 2 (by omega), g 3 (by omega), g 4 (by omega), g 5 (by omega), g 6 (by omega), g 7 (by omega), g 8 (by omega), g 9 (by omega), g 10 (by omega), g 11 (by omega), g 12 (by omega), g 13 (by omega), g 14 (by omega), g 15 (by omega), g 16 (by omega), g 17 (by omega), g 18 (by omega), g 19 (by omega), g 20 (by omega), g 21 (by omega), g 22 (by omega), g 23 (by omega), g 24 (by omega), g 25 (by omega), g 26 (by omega), g 27 (by omega), g 28 (by omega)]
  rw [hp 0 (by omega), hp 1 (by omega), hp 2 (by omega), hp 3 (by omega), hp 4 (by omega), hp 5 (by omega), hp 6 (by omega), hp 7 (by omega), hp 8 (by omega), hp 9 (by omega), hp 10 (by omega), hp 12 (by omega), hp 13 (by omega), hp 14 (by omega), hp 15 (by omega), hp 16 (by omega), hp 17 (by omega), hp 18 (by omega), hp 19 (by omega), hp 20 (by omega), hp 21 (by omega), hp 22 (by omega), hp 32 (by omega), hp 33 (by omega), hp 34 (by omega)]
  exact ⟨iA', iB', iC', iD', iE', iF', iG', iH', iJ', hK, iL', iN'⟩
theorem zup_same (s : zS) {r r' : Nat} (j : Nat) (v : Int32) (h : r' ≠ r) : zup s r j v r' = s r' := zup_n s j v h
theorem o_written {N : Nat} (hN : 9000000 ≤ N) {s t : zS} (h : Iv s t) (x1 : Int32) : ∃ r s' t', f_X5_written (N + 3000) s x1 = some (r, s') ∧ f_X6_written (N + 3000) t x1 = some (r, t') ∧ Iv s' t' := by
  obtain ⟨m, p, v, u, hI⟩ := id h
  obtain ⟨hA, hB, hC, hD, hE, hF, hG, hH, hJ, hK, hL, hNN⟩ := id hI
  have hv := hE.1
  have hm := hA.1
  generalize hMN : N + 3000 = M
  have hM : 9003000 ≤ M := by omega
  unfold f_X5_written f_X6_written
  rcases (c_val (M := M) hE x1).symm with ⟨a, b, -⟩ | ⟨a, b, x, hx, rfl⟩
  · rw [a, b]
    exact ⟨_, _, _, rfl, rfl, h⟩
  rw [a, b, zbd_s, zbd_s, if_neg b_10, if_neg b_10]
  have h7 : hg t 7 x := h_all hm hv hB hF hG x hx
  have hlen := txt_l hm hv hB hF hG 7 x hx
  have t7 : tl 7 = 1679680 := by decide
  generalize hX : txt t 7 x = X at hlen
  -- the reference
  have fin : ∀ T K, mS t T X → T 23 0 = nI 0 → 2002 < K → (X.length ≤ 2000 ∧ ∃ T', l_X6_written M K 0 T 0 = some (nI X.length, T') ∧ (∀ r, r < 23 ∨ 31 < r → T' r = t r) ∧ T' 27 0 = nI X.length ∧ tS (T' 28) X) ∨ (2000 < X.length ∧ ∃ T', l_X6_written M K 0 T 0 = some (-3, T') ∧ (∀ r, r < 23 ∨ 31 < r ∨ r = 27 ∨ r = 28 → T' r = t r)) := by
    intro T K hT t23 hK
    obtain ⟨K, rfl⟩ : ∃ K', K = K' + 1 := ⟨K - 1, by omega⟩
    obtain ⟨g1, ⟨a, g2, g3, g4, g5⟩, g6⟩ := hT
    rw [l_X6_written, t23, if_neg (show ¬ (0 : Int32) < nI 0 by decide), g2]
    by_cases c : X.length ≤ 2000
    · left
      refine ⟨c, ?_⟩
      have ea := g4 c
      subst ea
      rw [if_neg (nI_nlt c (by omega))]
      obtain ⟨T', k1, k2, k3, k4⟩ := r_copy (M := M) c X.length 0 (zup T 27 0 (nI X.length)) K (by omega) (by omega) (by rw [zup_s, upd_s])
      refine ⟨T', k1, fun r hr => ?_, ?_, fun i ch hi => ?_⟩
      · rw [k2 r (by omega), zup_n _ _ _ (by omega)]
        exact g1 r (by omega)
      · rw [k2 27 (by omega), zup_s, upd_s]
      · have hil : i < X.length := by
          rcases Nat.lt_or_ge i X.length with z | z
          · exact z
          · rw [List.getElem?_eq_none z] at hi
            cases hi
        rw [k4 i (by omega) hil, zup_n _ _ _ (by omega)]
        exact g6 c i ch hi
    · right
      refine ⟨by omega, T, ?_, g1⟩
      rw [if_pos (nI_lt (g5 (by omega)) (by omega))]
  have ref : (X.length ≤ 2000 ∧ ∃ T', zbd (f_X6_begin M (zup (zup t 29 0 (nI 0)) 23 0 (nI 0)) (nI x)) (fun q2 => zq (zin (nI x) 100) <| if (q2 16 (nI x).toNatClampNeg) = 0 then l_X6_written M M 0 q2 0 else zbd (f_X6_pile M q2 (nI x) (-1)) (fun q3 => l_X6_written M M 0 q3 0)) = some (nI X.length, T') ∧ (∀ r, r < 23 ∨ 31 < r → T' r = t r) ∧ T' 27 0 = nI X.length ∧ tS (T' 28) X) ∨ (2000 < X.length ∧ ∃ T', zbd (f_X6_begin M (zup (zup t 29 0 (nI 0)) 23 0 (nI 0)) (nI x)) (fun q2 => zq (zin (nI x) 100) <| if (q2 16 (nI x).toNatClampNeg) = 0 then l_X6_written M M 0 q2 0 else zbd (f_X6_pile M q2 (nI x) (-1)) (fun q3 => l_X6_written M M 0 q3 0)) = some (-3, T') ∧ (∀ r, r < 23 ∨ 31 < r ∨ r = 27 ∨ r = 28 → T' r = t r)) := by
    have m0 : mS t (zup (zup t 29 0 (nI 0)) 23 0 (nI 0)) [] := by
      refine ⟨fun r hr => by rw [zup_n _ _ _ (by omega), zup_n _ _ _ (by omega)], ⟨0, by rw [zup_n _ _ _ (by omega), zup_s, upd_s], Nat.le_refl _, fun _ => rfl, fun q => absurd q (by simp)⟩, fun _ i c hi => by simp at hi⟩
    obtain ⟨T1, g1, g2, g3⟩ := r_begin (M := M) (by omega) hm hv hF m0 (by simp) hx
    have e23 : T1 23 0 = nI 0 := by rw [g3 23 (by omega), zup_s, upd_s]
    rw [List.nil_append] at g2
    rw [g1, zbd_s, zin_t (show x < 100 by omega), zq_t, zcl (n := x) (by omega), g2.1 16 (by omega)]
    by_cases hs : t 16 x = nI 0
    · rw [if_pos (show t 16 x = 0 from hs)]
      rw [txt_0 hs] at hX
      rw [hX] at g2
      exact fin T1 M g2 e23 (by omega)
    · rw [if_neg (show ¬ t 16 x = 0 from hs), e_pile e23 (by omega), zbd_s]
      rw [txt_s hs] at hX
      have hl2 := hlen
      rw [← hX] at hl2
      simp only [List.length_append] at hl2
      generalize hT : (zup (zup (zup (zup T1 24 0 (nI x)) 25 0 (-1)) 26 0 (nI 0)) 23 0 (nI (0 + 1))) = T
      have mt : mS t T (hdr t x) := by
        rw [← hT]
        exact mS_up (mS_up (mS_up (mS_up g2 (by omega) _ _) (by omega) _ _) (by omega) _ _) (by omega) _ _
      have i23 : T 23 0 = nI (0 + 1) := by rw [← hT, zup_s, upd_s]
      have i24 : T 24 0 = nI x := by rw [← hT, zup_n _ _ _ (by omega), zup_n _ _ _ (by omega), zup_n _ _ _ (by omega), zup_s, upd_s]
      have i26 : T 26 0 = nI 0 := by rw [← hT, zup_n _ _ _ (by omega), zup_s, upd_s]
      have h5w : wd t x ≤ 5 := (w_kid hm hv hB hF hG hx).1
      have hmul := Nat.mul_le_mul_right (cw 6) h5w
      have c6 : cw 6 = 23437 := by decide
      rcases wr (M := M) (by omega) hA hB hE hF hG 6 x hx hs h7 _ 0 T 0 M (hdr t x) (Nat.zero_add _) mt i23 (by omega) i24 i26 (by omega) (by omega) with ⟨T', K', k1, k2, k3, k4, k5⟩ | ⟨k1, T', k2, k3⟩
      · rw [k5]
        rw [hX] at k2
        exact fin T' K' k2 k3 (by omega)
      · right
        rw [hX] at k1
        exact ⟨k1, T', k3, k2⟩
  -- the class
  unfold f_X4_write f_X4_begin
  have z0 : ((nI 0 : Int32) == 0 || (nI 0 : Int32) == 1) = true := by decide
  have z1 : ((nI 1 : Int32) == 0 || (nI 1 : Int32) == 1) = true := by decide
  rw [z0, z1]
  simp only [zq_t, zbd_s]
  have w0 : wS 0 s (zup (zup s 32 0 (nI 0)) 33 0 (nI 0)) [] := ⟨fun r q1 q2 q3 q4 => by rw [zup_n _ _ _ q4, zup_n _ _ _ q3], by rw [zup_s, upd_s], ⟨0, by rw [zup_n _ _ _ (by omega), zup_s, upd_s], Nat.le_refl _, fun _ => rfl, fun q => absurd q (by simp)⟩, fun _ => by rw [zup_n _ _ _ (by omega), zup_n _ _ _ (by omega)], fun q => absurd q (by omega)⟩
  obtain ⟨S1, k1, k2⟩ := w_val (M := M) (by omega) (by omega) hA hB hE hF hG 7 x 0 20 _ [] hx h7 (by omega) (by omega) w0 (by rw [hX]; simp; omega)
  rw [hX, List.nil_append] at k2
  rw [k1, zbd_s]
  obtain ⟨p1, p2, ⟨a, p3, p4⟩, p5, -⟩ := id k2
  rw [p3]
  rcases ref with ⟨r0, T', r1, r2, r3, r4⟩ | ⟨r0, T', r1, r2⟩
  · have ea := p4.2.1 r0
    rw [if_neg (nI_nlt (by omega) (by omega))]
    have w1 : wS 1 s (zup (zup S1 32 0 (nI 0)) 33 0 (nI 1)) [] := ⟨fun r q1 q2 q3 q4 => by rw [zup_n _ _ _ q4, zup_n _ _ _ q3]; exact p1 r q1 q2 q3 q4, by rw [zup_s, upd_s], ⟨0, by rw [zup_n _ _ _ (by omega), zup_s, upd_s], Nat.le_refl _, fun _ => rfl, fun q => absurd q (by simp)⟩, fun q => absurd q (by omega), fun _ _ i c hi => by simp at hi⟩
    obtain ⟨S2, k3, k4⟩ := w_val (M := M) (by omega) (by omega) hA hB hE hF hG 7 x 0 20 _ [] hx h7 (by omega) (by omega) w1 (by rw [hX]; simp; omega)
    rw [hX, List.nil_append] at k4
    rw [k3, zbd_s, zbd_s]
    obtain ⟨y1, y2, ⟨a', y3, y4⟩, -, y6⟩ := id k4
    have ea' := y4.2.1 r0
    rw [y3, ea']
    refine ⟨nI X.length, zup S2 30 0 (nI X.length), T', rfl, r1, m, p, v, u, inv_w hI (fun r q1 q2 q3 q4 q5 => by rw [zup_n _ _ _ q2]; exact y1 r q1 q3 q4 q5) r2 ⟨X.length, r0, by rw [zup_s, upd_s], r3, fun j hj => ?_⟩⟩
    rw [zup_n _ _ _ (by omega)]
    have e := List.getElem?_eq_getElem hj
    rw [y6 rfl r0 j _ e, r4 j _ e]
  · have ea := p4.2.2 r0
    have ha := p4.1
    rw [if_pos (nI_lt ea (by omega)), zbd_s]
    refine ⟨_, S1, T', rfl, r1, m, p, v, u, inv_w hI (fun r q1 q2 q3 q4 q5 => p1 r q1 q3 q4 q5) (fun r hr => r2 r (by omega)) ?_⟩
    rw [p5 rfl, p1 30 (by omega) (by omega) (by omega) (by omega), r2 27 (by omega), r2 28 (by omega)]
    exact hK
