/-! ways from MARK to MARK: the reference's depths. -/
def pD (t T : zS) : Prop := ∀ r, r ≠ 11 → T r = t r
theorem pD_up {t T : zS} (h : pD t T) (j : Nat) (x : Int32) : pD t (zup T 11 j x) := fun r h' => (zup_n _ _ _ h').trans (h r h')
def dm (T : zS) (D : Nat → Nat) : Prop := ∀ x, x < 12 → T 11 x = nI (D x)
/-- D with more at a -/
def dup (D : Nat → Nat) (a n : Nat) : Nat → Nat := fun x => if x = a then n else D x
theorem dup_s (D : Nat → Nat) (a n : Nat) : dup D a n a = n := by simp [dup]
theorem dup_n (D : Nat → Nat) {a x : Nat} (n : Nat) (h : x ≠ a) : dup D a n x = D x := by simp [dup, h]
theorem dm_up {T : zS} {D : Nat → Nat} (h : dm T D) (a n : Nat) : dm (zup T 11 a (nI n)) (dup D a n) := by
  intro x hx
  rw [zup_s]
  by_cases c : x = a
  · rw [c, upd_s, dup_s]
  · rw [upd_n _ _ c, dup_n _ _ c]
    exact h x hx
section ML
variable {M m j c : Nat} {t : zS}
theorem ml3 (hB : iB m (t 6) (t 7) (t 8) (t 4) (t 5)) (hm : m ≤ 12) (hj : j < m) (hc : c < m) {a B : Nat} (ha : a < m) (y3 y4 : Int32) : ∀ d e T D K, e + d = enn (t 6) a → pD t T → dm T D → (∀ x, x < 12 → D x ≤ B) → B + d < 100000 → d + 1 < K → (∀ x, x < m → pth m (fun a y => edg (t 6) (t 8) a y ∨ (a = j ∧ y = c)) (D x) x) →
    ∃ T' D' K', K ≤ K' + (d + 1) ∧ pD t T' ∧ dm T' D' ∧ (∀ x, x ≠ a → D' x = D x) ∧ D a ≤ D' a ∧ (∀ e' k, e ≤ e' → e' < enn (t 6) a → k < 12 → t 8 (5 * a + e') = nI (10 + k) → D k + 1 ≤ D' a) ∧ (a = j → D c + 1 ≤ D' a) ∧ (∀ x, x < 12 → D' x ≤ B + d + 1) ∧ (∀ x, x < m → pth m (fun a y => edg (t 6) (t 8) a y ∨ (a = j ∧ y = c)) (D' x) x) ∧
      l_X6_mayLead M K 3 T (nI j) (nI c) y3 y4 (nI a) (nI e) = l_X6_mayLead M K' 2 T' (nI j) (nI c) y3 y4 (nI (a + 1)) 0 := by
  obtain ⟨en, hen, een⟩ := hB.1 a (by omega)
  have eq := enn_of een hen
  rw [eq]
  intro d
  induction d generalizing B with
  | zero =>
    intro e T D K he pd hd hB' hBd hK hp
    obtain ⟨K, rfl⟩ : ∃ K', K = K' + 1 := ⟨K - 1, by omega⟩
    rw [l_X6_mayLead, zin_t (show a < 12 by omega), zcl (n := a) (by omega), pd 6 (by omega), een, if_neg (nI_nlt (by omega) (by omega)), nI_add, zin_t (show c < 12 by omega), zcl (n := c) (by omega), hd a (by omega), hd c (by omega), nI_add]
    simp only [zq_t]
    have hBc := hB' c (by omega)
    have hBa := hB' a (by omega)
    by_cases ca : a = j
    · rw [if_pos (by rw [ca])]
      by_cases cd : D a < D c + 1
      · rw [if_pos (nI_lt cd (by omega))]
        refine ⟨_, _, K, by omega, pD_up pd _ _, dm_up hd a (D c + 1), fun x hx => dup_n _ _ hx, by rw [dup_s]; omega, fun e' k h1 h2 => absurd h2 (by omega), fun _ => by rw [dup_s]; omega, fun x hx => ?_, fun x hx => ?_, rfl⟩
        · by_cases q : x = a
          · rw [q, dup_s]
            omega
          · rw [dup_n _ _ q]
            have := hB' x hx
            omega
        · by_cases q : x = a
          · rw [q, dup_s]
            exact ⟨c, hc, Or.inr ⟨ca, rfl⟩, hp c hc⟩
          · rw [dup_n _ _ q]
            exact hp x hx
      · rw [if_neg (nI_nlt (by omega) (by omega))]
        exact ⟨T, D, K, by omega, pd, hd, fun _ _ => rfl, Nat.le_refl _, fun e' k h1 h2 => absurd h2 (by omega), fun _ => by omega, fun x hx => by have := hB' x hx; omega, hp, rfl⟩
    · rw [if_neg (fun q => ca (nI_inj (by omega) (by omega) q))]
      exact ⟨T, D, K, by omega, pd, hd, fun _ _ => rfl, Nat.le_refl _, fun e' k h1 h2 => absurd h2 (by omega), fun q => absurd q ca, fun x hx => by have := hB' x hx; omega, hp, rfl⟩
  | succ d ih =>
    intro e T D K he pd hd hB' hBd hK hp
    obtain ⟨K, rfl⟩ : ∃ K', K = K' + 1 := ⟨K - 1, by omega⟩
    obtain ⟨k1, -⟩ := hB.2.2.2.2.1 a e ha (by omega)
    rw [l_X6_mayLead, zin_t (show a < 12 by omega), zcl (n := a) (by omega), pd 6 (by omega), een, if_pos (nI_lt (show e < en by omega) (by omega)), pk_mul, nI_add, zin_t (show 5 * a + e < 60 by omega), zcl (n := 5 * a + e) (by omega), pd 8 (by omega), nI_add]
    simp only [zq_t]
    have hBa := hB' a (by omega)
    rcases k1 with ⟨k, hk, ek⟩ | ⟨k, hk, ek⟩
    · rw [ek, if_pos (show nI k - nI 10 < 0 by rcases (show k = 0 ∨ k = 1 ∨ k = 2 ∨ k = 3 by omega) with rfl | rfl | rfl | rfl <;> decide)]
      obtain ⟨T', D', K', i1, i2, i3, i4, i5, i6, i7, i8, i9, i10⟩ := ih (B := B) (e + 1) T D K (by omega) pd hd hB' (by omega) (by omega) hp
      refine ⟨T', D', K', by omega, i2, i3, i4, i5, fun e' k' h1 h2 h3 h4 => ?_, i7, fun x hx => by have := i8 x hx; omega, i9, i10⟩
      by_cases q : e' = e
      · rw [q, ek] at h4
        exact absurd (nI_inj (by omega) (by omega) h4) (by omega)
      · exact i6 e' k' (by omega) h2 h3 h4
    · rw [ek, pk_sub (show 10 ≤ 10 + k by omega), Nat.add_sub_cancel_left, if_neg (nI_pos (by omega)), zin_t (show k < 12 by omega), zcl (n := k) (by omega), hd a (by omega), hd k (by omega), nI_add]
      simp only [zq_t]
      have hBk := hB' k (by omega)
      by_cases cd : D a < D k + 1
      · rw [if_pos (nI_lt cd (by omega))]
        obtain ⟨T', D', K', i1, i2, i3, i4, i5, i6, i7, i8, i9, i10⟩ := ih (B := B + 1) (e + 1) _ (dup D a (D k + 1)) K (by omega) (pD_up pd _ _) (dm_up hd a (D k + 1)) (fun x hx => by
          by_cases q : x = a
          · rw [q, dup_s]
            omega
          · rw [dup_n _ _ q]
            have := hB' x hx
            omega) (by omega) (by omega) (fun x hx => by
          by_cases q : x = a
          · rw [q, dup_s]
            exact ⟨k, hk, Or.inl ⟨e, by rw [eq]; omega, ek⟩, hp k hk⟩
          · rw [dup_n _ _ q]
            exact hp x hx)
        rw [dup_s] at i5
        have up : ∀ x, D x ≤ dup D a (D k + 1) x := by
          intro x
          by_cases q : x = a
          · rw [q, dup_s]
            omega
          · rw [dup_n _ _ q]
            exact Nat.le_refl _
        refine ⟨T', D', K', by omega, i2, i3, fun x hx => (i4 x hx).trans (dup_n _ _ hx), by omega, fun e' k' h1 h2 h3 h4 => ?_, fun q => ?_, fun x hx => by have := i8 x hx; omega, i9, i10⟩
        · by_cases q : e' = e
          · rw [q, ek] at h4
            have : k = k' := by
              have := nI_inj (by omega) (by omega) h4
              omega
            subst this
            exact i5
          · have := i6 e' k' (by omega) h2 h3 h4
            have := up k'
            omega
        · have := i7 q
          have := up c
          omega
      · rw [if_neg (nI_nlt (by omega) (by omega))]
        obtain ⟨T', D', K', i1, i2, i3, i4, i5, i6, i7, i8, i9, i10⟩ := ih (B := B) (e + 1) T D K (by omega) pd hd hB' (by omega) (by omega) hp
        refine ⟨T', D', K', by omega, i2, i3, i4, i5, fun e' k' h1 h2 h3 h4 => ?_, i7, fun x hx => by have := i8 x hx; omega, i9, i10⟩
        by_cases q : e' = e
        · rw [q, ek] at h4
          have : k = k' := by
            have := nI_inj (by omega) (by omega) h4
            omega
          subst this
          omega
        · exact i6 e' k' (by omega) h2 h3 h4
theorem ml2 (hB : iB m (t 6) (t 7) (t 8) (t 4) (t 5)) (hm : m ≤ 12) (h0 : t 0 0 = nI m) (hj : j < m) (hc : c < m) (i : Nat) (y3 y4 : Int32) : ∀ d a B T D K, a + d = m → pD t T → dm T D → (∀ x, x < 12 → D x ≤ B) → B + 6 * d < 90000 → 7 * d + 1 < K → (∀ x, x < m → pth m (fun a y => edg (t 6) (t 8) a y ∨ (a = j ∧ y = c)) (D x) x) →
    (∀ x n, x < m → n ≤ i → pth m (fun a y => edg (t 6) (t 8) a y ∨ (a = j ∧ y = c)) n x → n ≤ D x) → (∀ x, x < a → pth m (fun a y => edg (t 6) (t 8) a y ∨ (a = j ∧ y = c)) (i + 1) x → i + 1 ≤ D x) →
    ∃ T' D' K', K ≤ K' + (7 * d + 1) ∧ pD t T' ∧ dm T' D' ∧ (∀ x, x < 12 → D' x ≤ B + 6 * d) ∧ (∀ x, x < m → pth m (fun a y => edg (t 6) (t 8) a y ∨ (a = j ∧ y = c)) (D' x) x) ∧ (∀ x n, x < m → n ≤ i + 1 → pth m (fun a y => edg (t 6) (t 8) a y ∨ (a = j ∧ y = c)) n x → n ≤ D' x) ∧
      l_X6_mayLead M K 2 T (nI j) (nI c) y3 y4 (nI a) 0 = l_X6_mayLead M K' 1 T' (nI j) (nI c) y3 (y4 + nI 1) 0 0 := by
  intro d
  induction d with
  | zero =>
    intro a B T D K ha pd hd hB' hBd hK hp h3 h4
    obtain ⟨K, rfl⟩ : ∃ K', K = K' + 1 := ⟨K - 1, by omega⟩
    rw [l_X6_mayLead, pd 0 (by omega), h0, if_neg (nI_nlt (by omega) (by omega))]
    refine ⟨T, D, K, by omega, pd, hd, fun x hx => by have := hB' x hx; omega, hp, fun x n hx hn hpn => ?_, rfl⟩
    by_cases q : n = i + 1
    · subst q
      exact h4 x (by omega) hpn
    · exact h3 x n hx (by omega) hpn
  | succ d ih =>
    intro a B T D K ha pd hd hB' hBd hK hp h3 h4
    obtain ⟨K, rfl⟩ : ∃ K', K = K' + 1 := ⟨K - 1, by omega⟩
    obtain ⟨en, hen, een⟩ := hB.1 a (by omega)
    have eq := enn_of een hen
    rw [l_X6_mayLead, pd 0 (by omega), h0, if_pos (nI_lt (show a < m by omega) (by omega))]
    obtain ⟨T', D', K', i1, i2, i3, i4, i5, i6, i7, i8, i9, i10⟩ := ml3 (M := M) (c := c) (B := B) hB hm hj hc (show a < m by omega) y3 y4 (enn (t 6) a) 0 T D K (by omega) pd hd hB' (by omega) (by omega) hp
    rw [i10]
    have up : ∀ x, D x ≤ D' x := by
      intro x
      by_cases q : x = a
      · rw [q]
        exact i5
      · rw [i4 x q]
        exact Nat.le_refl _
    obtain ⟨T2, D2, K2, k1, k2, k3, k4, k5, k6, k7⟩ := ih (a + 1) (B + 6) T' D' K' (by omega) i2 i3 (fun x hx => by have := i8 x hx; omega) (by omega) (by omega) i9 (fun x n hx hn hpn => Nat.le_trans (h3 x n hx hn hpn) (up x)) (fun x hx hpx => by
      by_cases q : x = a
      · subst q
        obtain ⟨y, y1, y2, y3⟩ := hpx
        have hy := h3 y i y1 (Nat.le_refl _) y3
        rcases y2 with ⟨e, e1, e2⟩ | ⟨e1, e2⟩
        · have := i6 e y (by omega) e1 (by omega) e2
          omega
        · have := i7 e1
          subst e2
          omega
      · exact Nat.le_trans (h4 x (by omega) hpx) (up x))
    exact ⟨T2, D2, K2, by omega, k2, k3, fun x hx => by have := k4 x hx; omega, k5, k6, k7⟩
theorem ml1 (hB : iB m (t 6) (t 7) (t 8) (t 4) (t 5)) (hm : m ≤ 12) (h0 : t 0 0 = nI m) (hj : j < m) (hc : c < m) (y3 : Int32) : ∀ d i T D K, i + d = 4 → pD t T → dm T D → (∀ x, x < 12 → D x ≤ 72 * i) → 86 * d + 1 < K → (∀ x, x < m → pth m (fun a y => edg (t 6) (t 8) a y ∨ (a = j ∧ y = c)) (D x) x) →
    (∀ x n, x < m → n ≤ i → pth m (fun a y => edg (t 6) (t 8) a y ∨ (a = j ∧ y = c)) n x → n ≤ D x) →
    ∃ T' D' K', K ≤ K' + (86 * d + 1) ∧ pD t T' ∧ dm T' D' ∧ (∀ x, x < 12 → D' x ≤ 288) ∧ (∀ x, x < m → pth m (fun a y => edg (t 6) (t 8) a y ∨ (a = j ∧ y = c)) (D' x) x) ∧ (∀ x n, x < m → n ≤ 4 → pth m (fun a y => edg (t 6) (t 8) a y ∨ (a = j ∧ y = c)) n x → n ≤ D' x) ∧
      l_X6_mayLead M K 1 T (nI j) (nI c) y3 (nI i) 0 0 = l_X6_mayLead M K' 4 T' 0 0 y3 (nI 0) 0 0 := by
  intro d
  induction d with
  | zero =>
    intro i T D K hi pd hd hB' hK hp h3
    obtain ⟨K, rfl⟩ : ∃ K', K = K' + 1 := ⟨K - 1, by omega⟩
    rw [l_X6_mayLead, if_neg (nI_nlt (by omega) (by omega))]
    exact ⟨T, D, K, by omega, pd, hd, fun x hx => by have := hB' x hx; omega, hp, fun x n hx hn => h3 x n hx (by omega), rfl⟩
  | succ d ih =>
    intro i T D K hi pd hd hB' hK hp h3
    obtain ⟨K, rfl⟩ : ∃ K', K = K' + 1 := ⟨K - 1, by omega⟩
    rw [l_X6_mayLead, if_pos (nI_lt (show i < 4 by omega) (by omega))]
    obtain ⟨T', D', K', k1, k2, k3, k4, k5, k6, k7⟩ := ml2 (M := M) hB hm h0 hj hc i y3 (nI i) m 0 (72 * i) T D K (by omega) pd hd hB' (by omega) (by omega) hp h3 (fun x hx => absurd hx (by omega))
    rw [show (nI 0 : Int32) = nI 0 from rfl, k7, nI_add]
    obtain ⟨T2, D2, K2, z1, z2⟩ := ih (i + 1) T' D' K' (by omega) k2 k3 (fun x hx => by have := k4 x hx; omega) (by omega) k5 k6
    exact ⟨T2, D2, K2, by omega, z2⟩
theorem ml0 (t : zS) (y1 y2 : Int32) : ∀ d a T K, a + d = 12 → pD t T → (∀ x, x < a → T 11 x = nI 0) → d + 1 < K →
    ∃ T' K', K ≤ K' + (d + 1) ∧ pD t T' ∧ (∀ x, x < 12 → T' 11 x = nI 0) ∧ l_X6_mayLead M K 0 T y1 y2 (nI a) 0 0 0 = l_X6_mayLead M K' 1 T' y1 y2 (nI 1) (nI 0) 0 0 := by
  intro d
  induction d with
  | zero =>
    intro a T K ha pd h0 hK
    obtain ⟨K, rfl⟩ : ∃ K', K = K' + 1 := ⟨K - 1, by omega⟩
    rw [l_X6_mayLead, if_neg (nI_nlt (by omega) (by omega))]
    exact ⟨T, K, by omega, pd, fun x hx => h0 x (by omega), rfl⟩
  | succ d ih =>
    intro a T K ha pd h0 hK
    obtain ⟨K, rfl⟩ : ∃ K', K = K' + 1 := ⟨K - 1, by omega⟩
    rw [l_X6_mayLead, if_pos (nI_lt (show a < 12 by omega) (by omega)), zin_t (show a < 12 by omega), zq_t, zcl (n := a) (by omega), nI_add]
    obtain ⟨T', K', z1, z2⟩ := ih (a + 1) (zup T 11 a (nI 0)) K (by omega) (pD_up pd _ _) (fun x hx => by
      rw [zup_s]
      by_cases q : x = a
      · rw [q, upd_s]
      · rw [upd_n _ _ q]
        exact h0 x (by omega)) (by omega)
    exact ⟨T', K', by omega, z2⟩
theorem ml4 {T : zS} {D : Nat → Nat} (hm : m ≤ 12) (h0 : T 0 0 = nI m) (hd : dm T D) (hB' : ∀ x, x < 12 → D x ≤ 288) : ∀ d a b K, a + d = m → d < K → b ≤ 1 →
    (l_X6_mayLead M K 4 T 0 0 (nI b) (nI a) 0 0 = some (nI 1, T) ∧ b = 1 ∧ ∀ x, a ≤ x → x < m → D x ≤ 2) ∨ (l_X6_mayLead M K 4 T 0 0 (nI b) (nI a) 0 0 = some (nI 0, T) ∧ ¬ (b = 1 ∧ ∀ x, a ≤ x → x < m → D x ≤ 2)) := by
  intro d
  induction d with
  | zero =>
    intro a b K ha hK hb
    obtain ⟨K, rfl⟩ : ∃ K', K = K' + 1 := ⟨K - 1, by omega⟩
    rw [l_X6_mayLead, h0, if_neg (nI_nlt (by omega) (by omega))]
    rcases (show b = 0 ∨ b = 1 by omega) with rfl | rfl
    · rw [bo_0, zq_t]
      exact Or.inr ⟨rfl, fun z => absurd z.1 (by omega)⟩
    · rw [bo_1, zq_t]
      exact Or.inl ⟨rfl, rfl, fun x h1 h2 => absurd h2 (by omega)⟩
  | succ d ih =>
    intro a b K ha hK hb
    obtain ⟨K, rfl⟩ : ∃ K', K = K' + 1 := ⟨K - 1, by omega⟩
    rw [l_X6_mayLead, h0, if_pos (nI_lt (show a < m by omega) (by omega)), zin_t (show a < 12 by omega), zq_t, zcl (n := a) (by omega), nI_add, hd a (by omega)]
    have hBa := hB' a (by omega)
    have no : (¬ (b = 1 ∧ D a ≤ 2)) → l_X6_mayLead M K 4 T 0 0 (nI 0) (nI (a + 1)) 0 0 = some (nI 0, T) ∧ ¬ (b = 1 ∧ ∀ x, a ≤ x → x < m → D x ≤ 2) := by
      intro q
      rcases ih (a + 1) 0 K (by omega) (by omega) (by omega) with ⟨-, g, -⟩ | ⟨g, -⟩
      · exact absurd g (by omega)
      · exact ⟨g, fun z => q ⟨z.1, z.2 a (by omega) (by omega)⟩⟩
    rcases (show b = 0 ∨ b = 1 by omega) with rfl | rfl
    · rw [if_pos b_00]
      exact Or.inr (no (fun z => absurd z.1 (by omega)))
    · rw [if_neg b_10]
      by_cases q : 2 < D a
      · rw [if_pos (nI_lt q (by omega))]
        exact Or.inr (no (fun z => absurd z.2 (by omega)))
      · rw [if_neg (nI_nlt (by omega) (by omega))]
        rcases ih (a + 1) 1 K (by omega) (by omega) (by omega) with ⟨g1, -, g2⟩ | ⟨g1, g2⟩
        · refine Or.inl ⟨g1, rfl, fun x h1 h2 => ?_⟩
          rcases Nat.lt_or_ge a x with h | h
          · exact g2 x h h2
          · rw [show x = a by omega]
            omega
        · exact Or.inr ⟨g1, fun z => g2 ⟨rfl, fun x h1 h2 => z.2 x (by omega) h2⟩⟩
/-- may lead, as the reference says it -/
theorem c_lead (hM : 1000 < M) (hB : iB m (t 6) (t 7) (t 8) (t 4) (t 5)) (hm : m ≤ 12) (h0 : t 0 0 = nI m) (hj : j < m) (hc : c < m) : ∃ T, pD t T ∧
    ((f_X6_mayLead M t (nI j) (nI c) = some (nI 1, T) ∧ ∀ a, a < m → ¬ pth m (fun a y => edg (t 6) (t 8) a y ∨ (a = j ∧ y = c)) 3 a) ∨
     (f_X6_mayLead M t (nI j) (nI c) = some (nI 0, T) ∧ ¬ ∀ a, a < m → ¬ pth m (fun a y => edg (t 6) (t 8) a y ∨ (a = j ∧ y = c)) 3 a)) := by
  unfold f_X6_mayLead
  obtain ⟨T1, K1, a1, a2, a3, a4⟩ := ml0 (M := M) t (nI j) (nI c) 12 0 t M (by omega) (fun _ _ => rfl) (fun x hx => absurd hx (by omega)) (by omega)
  obtain ⟨T2, D, K2, b1, b2, b3, b4, b5, b6, b7⟩ := ml1 (M := M) hB hm h0 hj hc (nI 1) 4 0 T1 (fun _ => 0) K1 (by omega) a2 a3 (fun _ _ => by omega) (by omega) (fun _ _ => trivial) (fun x n _ hn _ => hn)
  refine ⟨T2, b2, ?_⟩
  rw [a4, b7]
  rcases ml4 (M := M) hm ((congrFun (b2 0 (by omega)) 0).trans h0) b3 b4 m 0 1 K2 (by omega) (by omega) (by omega) with ⟨g1, -, g2⟩ | ⟨g1, g2⟩
  · refine Or.inl ⟨g1, fun a ha hp => ?_⟩
    have h1 := b6 a 3 ha (by omega) hp
    have h2 := g2 a (by omega) ha
    omega
  · refine Or.inr ⟨g1, fun z => g2 ⟨rfl, fun x _ hx => ?_⟩⟩
    apply Classical.byContradiction
    intro q
    exact z x hx (pth_le (b5 x hx) (by omega))
end ML
