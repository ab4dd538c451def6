/-! writing: letters and numbers, both ways. -/
def tS (f : Nat → Int32) (L : List Int32) : Prop := ∀ i c, L[i]? = some c → f i = c
theorem tS_s {f : Nat → Int32} {L : List Int32} (h : tS f L) (c : Int32) : tS (upd f L.length c) (L ++ [c]) := by
  intro i c' hi
  rcases Nat.lt_or_ge i L.length with q | q
  · rw [List.getElem?_append_left q] at hi
    rw [upd_n _ _ (by omega)]
    exact h i c' hi
  · rw [List.getElem?_append_right q] at hi
    have : i = L.length := by
      rcases Nat.lt_or_ge (i - L.length) 1 with z | z
      · omega
      · rw [List.getElem?_eq_none (by simpa using z)] at hi
        cases hi
    subst this
    rw [Nat.sub_self] at hi
    rw [upd_s]
    exact Option.some.inj hi
def cS (a : Nat) (L : List Int32) : Prop := a ≤ L.length ∧ (L.length ≤ 2000 → a = L.length) ∧ (2000 < L.length → 2000 < a)
theorem cS_s {a : Nat} {L : List Int32} (h : cS a L) (c : Int32) : cS (a + 1) (L ++ [c]) := by
  obtain ⟨h1, h2, h3⟩ := h
  unfold cS
  rw [List.length_append]
  simp only [List.length_cons, List.length_nil]
  refine ⟨by omega, fun q => by have := h2 (by omega); omega, fun q => ?_⟩
  by_cases z : L.length ≤ 2000
  · have := h2 z
    omega
  · have := h3 (by omega)
    omega
def wS (κ : Nat) (s0 s : zS) (L : List Int32) : Prop := (∀ r, r ≠ 29 → r ≠ 31 → r ≠ 32 → r ≠ 33 → s r = s0 r) ∧ s 33 0 = nI κ ∧ (∃ a, s 32 0 = nI a ∧ cS a L) ∧ (κ = 0 → s 29 = s0 29) ∧ (κ = 1 → L.length ≤ 2000 → tS (s 29) L)
theorem w_b {M κ : Nat} {s0 s : zS} {L : List Int32} (h : wS κ s0 s L) (hκ : κ ≤ 1) (hl : L.length < 2 ^ 30) {k : Nat} (hk : k < 128) : ∃ s', f_X4_writeByte M s (nI k) = some s' ∧ wS κ s0 s' (L ++ [nI k]) ∧ s' 31 = s 31 := by
  obtain ⟨h1, h2, ⟨a, h3, h4⟩, h5, h6⟩ := h
  unfold f_X4_writeByte
  rw [h2, h3, nI_add, by_ch hk]
  have ha := h4.1
  rcases (show κ = 0 ∨ κ = 1 by omega) with rfl | rfl
  · rw [if_pos b_00]
    refine ⟨_, rfl, ⟨fun r q1 q2 q3 q4 => ?_, h2, ⟨a + 1, by rw [zup_s, upd_s], cS_s h4 _⟩, fun _ => h5 rfl, fun q => absurd q (by omega)⟩, rfl⟩
    rw [zup_n _ _ _ q3]
    exact h1 r q1 q2 q3 q4
  · rw [if_neg b_10]
    by_cases c : a < 2000
    · rw [if_pos (nI_lt c (by omega)), zin_t c, zq_t, zcl (n := a) (by omega)]
      refine ⟨_, rfl, ⟨fun r q1 q2 q3 q4 => ?_, h2, ⟨a + 1, by rw [zup_s, upd_s], cS_s h4 _⟩, fun q => absurd q (by omega), fun _ q => ?_⟩, rfl⟩
      · rw [zup_n _ _ _ q3, zup_n _ _ _ q1]
        exact h1 r q1 q2 q3 q4
      · rw [List.length_append] at q
        have := h4.2.1 (by simp at q; omega)
        subst this
        exact tS_s (h6 rfl (by omega)) _
    · rw [if_neg (nI_nlt (by omega) (by omega))]
      refine ⟨_, rfl, ⟨fun r q1 q2 q3 q4 => ?_, h2, ⟨a + 1, by rw [zup_s, upd_s], cS_s h4 _⟩, fun q => absurd q (by omega), fun _ q => ?_⟩, rfl⟩
      · rw [zup_n _ _ _ q3]
        exact h1 r q1 q2 q3 q4
      · rw [List.length_append] at q
        have := h4.2.1 (by simp at q; omega)
        simp at q
        omega
theorem w_31 {κ : Nat} {s0 s s' : zS} {L : List Int32} (h : wS κ s0 s L) (hs : ∀ r, r ≠ 31 → s' r = s r) : wS κ s0 s' L := by
  obtain ⟨h1, h2, h3, h5, h6⟩ := h
  unfold wS
  rw [hs 33 (by omega), hs 32 (by omega), hs 29 (by omega)]
  exact ⟨fun r q1 q2 q3 q4 => (hs r q2).trans (h1 r q1 q2 q3 q4), h2, h3, h5, h6⟩
theorem tk_s {D : List Nat} {i : Nat} (h : i < D.length) : ∃ d, D[i]? = some d ∧ (D.take (i + 1)).reverse.map (fun d => nI (48 + d)) = nI (48 + d) :: (D.take i).reverse.map (fun d => nI (48 + d)) := by
  refine ⟨D[i], List.getElem?_eq_getElem h, ?_⟩
  rw [List.take_add_one, List.getElem?_eq_getElem h]
  simp only [Option.toList_some, List.reverse_append, List.reverse_cons, List.reverse_nil, List.nil_append, List.map_append, List.map_cons, List.map_nil, List.cons_append]
theorem w_d1 {M κ : Nat} {s0 : zS} (hκ : κ ≤ 1) {D : List Nat} (hD : D.length ≤ 10) (hd : ∀ d ∈ D, d < 10) : ∀ i S L K, i ≤ D.length → wS κ s0 S L → (∀ j c, j < i → D[j]? = some c → S 31 j = nI c) → L.length + i < 2 ^ 30 → i < K → ∃ S', l_X4_writeDigits M K 1 S 0 0 (nI i - nI 1) = some S' ∧ wS κ s0 S' (L ++ (D.take i).reverse.map (fun d => nI (48 + d))) := by
  intro i
  induction i with
  | zero =>
    intro S L K _ hw _ _ hK
    obtain ⟨K, rfl⟩ : ∃ K', K = K' + 1 := ⟨K - 1, by omega⟩
    rw [l_X4_writeDigits, if_pos (by decide)]
    refine ⟨S, rfl, ?_⟩
    simpa using hw
  | succ i ih =>
    intro S L K hi hw h31 hl hK
    obtain ⟨K, rfl⟩ : ∃ K', K = K' + 1 := ⟨K - 1, by omega⟩
    obtain ⟨d, d1, d2⟩ := tk_s (D := D) (i := i) (by omega)
    have hd10 : d < 10 := hd d (List.mem_of_getElem? d1)
    rw [l_X4_writeDigits, nI_sub1, if_neg (nI_pos (by omega)), zin_t (show i < 10 by omega), zq_t, zcl (n := i) (by omega), h31 i d (by omega) d1, nI_add]
    obtain ⟨S1, g1, g2, g3⟩ := w_b (M := M) hw hκ (by omega) (show 48 + d < 128 by omega)
    rw [g1, zbd_s, show nI i + (-1) = nI i - nI 1 by rw [Int32.sub_eq_add_neg]; rfl]
    obtain ⟨S2, k1, k2⟩ := ih S1 (L ++ [nI (48 + d)]) K (by omega) g2 (fun j c hj hc => by rw [g3]; exact h31 j c (by omega) hc) (by simp; omega) (by omega)
    refine ⟨S2, k1, ?_⟩
    rw [d2]
    simpa using k2
theorem w_d0 {M : Nat} : ∀ f r k S K, k + f = 10 → r < 10 ^ f → (k = 0 ∨ 0 < r) → f + 1 < K → ∃ S' K', K ≤ K' + (f + 1) ∧ (∀ q, q ≠ 31 → S' q = S q) ∧ (∀ i, i < k → S' 31 i = S 31 i) ∧ (∀ i c, (dga f r)[i]? = some c → S' 31 (k + i) = nI c) ∧
    l_X4_writeDigits M K 0 S (lI r) (nI k) (nI k) = l_X4_writeDigits M K' 1 S' 0 0 (nI (k + (dga f r).length) - nI 1) := by
  intro f
  induction f with
  | zero =>
    intro r k S K hk hr h0 hK
    simp at hr
    omega
  | succ f ih =>
    intro r k S K hk hr h0 hK
    obtain ⟨K, rfl⟩ : ∃ K', K = K' + 1 := ⟨K - 1, by omega⟩
    have r62 : r < 2 ^ 62 := Nat.lt_of_lt_of_le hr (Nat.le_trans (Nat.pow_le_pow_right (by omega) (show f + 1 ≤ 10 by omega)) (by decide))
    have one : l_X4_writeDigits M (K + 1) 0 S (lI r) (nI k) (nI k) = l_X4_writeDigits M K 0 (zup S 31 k (nI (r % 10))) (lI (r / 10)) (nI (k + 1)) (nI (k + 1)) := by
      rw [l_X4_writeDigits, if_pos (nI_lt (show k < 10 by omega) (by omega)), zin_t (show k < 10 by omega), zcl (n := k) (by omega), lI_mod r62, lI_div r62, nI_add]
      have t10 : (!((10 : Int64) == 0)) = true := by decide
      simp only [t10, zq_t]
      by_cases c : k = 0
      · subst c
        rw [if_pos b_00]
      · rw [if_neg (show ¬ nI k = 0 from fun q => c (nI_inj (by omega) (by omega) q)), if_pos ((lI_cmp r62).mpr (by omega))]
    rw [one]
    by_cases c : r / 10 = 0
    · have ed : dga (f + 1) r = [r % 10] := by unfold dga; rw [if_pos c]
      rw [ed, c]
      obtain ⟨K, rfl⟩ : ∃ K', K = K' + 1 := ⟨K - 1, by omega⟩
      refine ⟨zup S 31 k (nI (r % 10)), K, by omega, fun q hq => zup_n _ _ _ hq, fun i hi => by rw [zup_s, upd_n _ _ (by omega)], fun i c' hi => ?_, ?_⟩
      · have : i = 0 := by
          rcases Nat.lt_or_ge i 1 with z | z
          · omega
          · rw [List.getElem?_eq_none (by simpa using z)] at hi
            cases hi
        subst this
        rw [show k + 0 = k from rfl, zup_s, upd_s]
        rw [← Option.some.inj hi]
      · show _ = l_X4_writeDigits M K 1 _ 0 0 (nI (k + 1) - nI 1)
        rw [l_X4_writeDigits]
        by_cases c2 : k + 1 < 10
        · rw [if_pos (nI_lt c2 (by omega)), if_neg (show ¬ nI (k + 1) = 0 from fun q => absurd (nI_inj (a := k + 1) (b := 0) (by omega) (by omega) q) (by omega)), if_neg (fun q => absurd ((lI_cmp (by omega)).mp q) (by omega))]
        · rw [if_neg (nI_nlt (by omega) (by omega))]
    · have ed : dga (f + 1) r = r % 10 :: dga f (r / 10) := by rw [dga, if_neg c]
      have hr' : r / 10 < 10 ^ f := by
        rw [Nat.pow_succ] at hr
        omega
      obtain ⟨S', K', k1, k2, k3, k4, k5⟩ := ih (r / 10) (k + 1) (zup S 31 k (nI (r % 10))) K (by omega) hr' (Or.inr (by omega)) (by omega)
      refine ⟨S', K', by omega, fun q hq => (k2 q hq).trans (zup_n _ _ _ hq), fun i hi => by rw [k3 i (by omega), zup_s, upd_n _ _ (by omega)], fun i c' hi => ?_, ?_⟩
      · rw [ed] at hi
        cases i with
        | zero =>
          rw [show k + 0 = k from rfl, k3 k (by omega), zup_s, upd_s]
          rw [← Option.some.inj hi]
        | succ i =>
          rw [show k + (i + 1) = k + 1 + i by omega]
          exact k4 i c' hi
      · rw [k5, ed, List.length_cons, show k + 1 + (dga f (r / 10)).length = k + ((dga f (r / 10)).length + 1) by omega]
theorem w_num {M κ : Nat} (hM : 100 < M) {s0 s : zS} {L : List Int32} (h : wS κ s0 s L) (hκ : κ ≤ 1) (hl : L.length + 20 < 2 ^ 30) (x : Int32) : ∃ s', f_X4_writeDigits M s x = some s' ∧ wS κ s0 s' (L ++ num x) := by
  have hb := ab_lt x
  have go : ∀ S L', wS κ s0 S L' → L'.length + 10 < 2 ^ 30 → ∃ s', l_X4_writeDigits M M 0 S (lI (ab x)) (nI 0) (nI 0) = some s' ∧ wS κ s0 s' (L' ++ dgs (ab x)) := by
    intro S L' hw hl'
    obtain ⟨S', K', k1, k2, k3, k4, k5⟩ := w_d0 (M := M) 10 (ab x) 0 S M (by omega) (Nat.lt_of_le_of_lt hb (by decide)) (Or.inl rfl) (by omega)
    have dl := dga_l 10 (ab x)
    obtain ⟨S2, z1, z2⟩ := w_d1 (M := M) (s0 := s0) hκ dl (dga_d 10 (ab x)) (dga 10 (ab x)).length S' L' K' (Nat.le_refl _) (w_31 hw k2) (fun j c _ hj => by have := k4 j c hj; rwa [Nat.zero_add] at this) (by omega) (by omega)
    rw [k5, Nat.zero_add, z1]
    refine ⟨S2, rfl, ?_⟩
    rw [List.take_length] at z2
    exact z2
  unfold f_X4_writeDigits num
  rw [ab_c]
  by_cases c : x < 0
  · rw [if_pos c, if_pos c]
    obtain ⟨S1, g1, g2, -⟩ := w_b (M := M) h hκ (by omega) (show 45 < 128 by omega)
    rw [g1, zbd_s, ← List.append_assoc]
    exact go S1 _ g2 (by simp; omega)
  · rw [if_neg c, if_neg c, List.nil_append]
    exact go s L h (by omega)
/-! the reference's -/
def mS (t T : zS) (L : List Int32) : Prop := (∀ r, r < 23 ∨ 31 < r ∨ r = 27 ∨ r = 28 → T r = t r) ∧ (∃ a, T 29 0 = nI a ∧ cS a L) ∧ (L.length ≤ 2000 → tS (T 30) L)
def kS (T T' : zS) : Prop := ∀ r, r < 29 ∨ 31 < r → T' r = T r
theorem kS_t {T T' T'' : zS} (h : kS T T') (h' : kS T' T'') : kS T T'' := fun r q => (h' r q).trans (h r q)
theorem r_b {M : Nat} {t T : zS} {L : List Int32} (h : mS t T L) (hl : L.length < 2 ^ 30) (c : Int32) : ∃ T', f_X6_write M T c = some T' ∧ mS t T' (L ++ [c]) ∧ kS T T' ∧ T' 31 = T 31 := by
  obtain ⟨h1, ⟨a, h3, h4⟩, h6⟩ := h
  have ha := h4.1
  unfold f_X6_write
  rw [h3, nI_add]
  by_cases q : a < 2000
  · rw [if_pos (nI_lt q (by omega)), zin_t q, zq_t, zcl (n := a) (by omega)]
    refine ⟨_, rfl, ⟨fun r hr => ?_, ⟨a + 1, by rw [zup_s, upd_s], cS_s h4 _⟩, fun z => ?_⟩, fun r hr => by rw [zup_n _ _ _ (by omega), zup_n _ _ _ (by omega)], rfl⟩
    · rw [zup_n _ _ _ (by omega), zup_n _ _ _ (by omega)]
      exact h1 r hr
    · rw [List.length_append] at z
      have := h4.2.1 (by simp at z; omega)
      subst this
      exact tS_s (h6 (by omega)) _
  · rw [if_neg (nI_nlt (by omega) (by omega))]
    refine ⟨_, rfl, ⟨fun r hr => ?_, ⟨a + 1, by rw [zup_s, upd_s], cS_s h4 _⟩, fun z => ?_⟩, fun r hr => by rw [zup_n _ _ _ (by omega)], rfl⟩
    · rw [zup_n _ _ _ (by omega)]
      exact h1 r hr
    · rw [List.length_append] at z
      have := h4.2.1 (by simp at z; omega)
      simp at z
      omega
theorem r_31 {t T T' : zS} {L : List Int32} (h : mS t T L) (hs : ∀ r, r ≠ 31 → T' r = T r) : mS t T' L := by
  obtain ⟨h1, h2, h3⟩ := h
  unfold mS
  rw [hs 29 (by omega), hs 30 (by omega)]
  exact ⟨fun r q => (hs r (by omega)).trans (h1 r q), h2, h3⟩
theorem r_d1 {M : Nat} {t : zS} {D : List Nat} (hD : D.length ≤ 10) : ∀ i S L K, i ≤ D.length → mS t S L → (∀ j c, j < i → D[j]? = some c → S 31 j = nI c) → L.length + i < 2 ^ 30 → i < K → ∃ S', l_X6_writeNumber M K 1 S 0 0 (nI i - nI 1) = some S' ∧ mS t S' (L ++ (D.take i).reverse.map (fun d => nI (48 + d))) ∧ kS S S' := by
  intro i
  induction i with
  | zero =>
    intro S L K _ hw _ _ hK
    obtain ⟨K, rfl⟩ : ∃ K', K = K' + 1 := ⟨K - 1, by omega⟩
    rw [l_X6_writeNumber, if_pos (by decide)]
    refine ⟨S, rfl, ?_, fun _ _ => rfl⟩
    simpa using hw
  | succ i ih =>
    intro S L K hi hw h31 hl hK
    obtain ⟨K, rfl⟩ : ∃ K', K = K' + 1 := ⟨K - 1, by omega⟩
    obtain ⟨d, d1, d2⟩ := tk_s (D := D) (i := i) (by omega)
    rw [l_X6_writeNumber, nI_sub1, if_neg (nI_pos (by omega)), zin_t (show i < 10 by omega), zq_t, zcl (n := i) (by omega), h31 i d (by omega) d1, nI_add]
    obtain ⟨S1, g1, g2, g3, g4⟩ := r_b (M := M) hw (by omega) (nI (48 + d))
    rw [g1, zbd_s, show nI i + (-1) = nI i - nI 1 by rw [Int32.sub_eq_add_neg]; rfl]
    obtain ⟨S2, k1, k2, k3⟩ := ih S1 (L ++ [nI (48 + d)]) K (by omega) g2 (fun j c hj hc => by rw [g4]; exact h31 j c (by omega) hc) (by simp; omega) (by omega)
    refine ⟨S2, k1, ?_, kS_t g3 k3⟩
    rw [d2]
    simpa using k2
theorem r_d0 {M : Nat} : ∀ f r k S K, k + f = 10 → r < 10 ^ f → 1 ≤ f → f < K → ∃ S' K', K ≤ K' + f ∧ (∀ q, q ≠ 31 → S' q = S q) ∧ (∀ i, i < k → S' 31 i = S 31 i) ∧ (∀ i c, (dga f r)[i]? = some c → S' 31 (k + i) = nI c) ∧
    l_X6_writeNumber M K 0 S (lI r) (nI k) 0 = l_X6_writeNumber M K' 1 S' 0 0 (nI (k + (dga f r).length) - nI 1) := by
  intro f
  induction f with
  | zero =>
    intro r k S K hk hr h0 hK
    omega
  | succ f ih =>
    intro r k S K hk hr h0 hK
    obtain ⟨K, rfl⟩ : ∃ K', K = K' + 1 := ⟨K - 1, by omega⟩
    have r62 : r < 2 ^ 62 := Nat.lt_of_lt_of_le hr (Nat.le_trans (Nat.pow_le_pow_right (by omega) (show f + 1 ≤ 10 by omega)) (by decide))
    rw [l_X6_writeNumber, zin_t (show k < 10 by omega), zcl (n := k) (by omega), lI_mod r62, lI_div r62, nI_add]
    have t10 : (!((10 : Int64) == 0)) = true := by decide
    simp only [t10, zq_t]
    by_cases c : r / 10 = 0
    · have ed : dga (f + 1) r = [r % 10] := by unfold dga; rw [if_pos c]
      rw [ed, c, if_neg (fun q => absurd ((lI_cmp (by omega)).mp q) (by omega))]
      refine ⟨zup S 31 k (nI (r % 10)), K, by omega, fun q hq => zup_n _ _ _ hq, fun i hi => by rw [zup_s, upd_n _ _ (by omega)], fun i c' hi => ?_, rfl⟩
      have : i = 0 := by
        rcases Nat.lt_or_ge i 1 with z | z
        · omega
        · rw [List.getElem?_eq_none (by simpa using z)] at hi
          cases hi
      subst this
      rw [show k + 0 = k from rfl, zup_s, upd_s]
      rw [← Option.some.inj hi]
    · have ed : dga (f + 1) r = r % 10 :: dga f (r / 10) := by rw [dga, if_neg c]
      have hr' : r / 10 < 10 ^ f := by
        rw [Nat.pow_succ] at hr
        omega
      have hf : 1 ≤ f := by
        cases f with
        | zero => simp at hr'; omega
        | succ f => omega
      rw [if_pos ((lI_cmp (by omega)).mpr (by omega))]
      obtain ⟨S', K', k1, k2, k3, k4, k5⟩ := ih (r / 10) (k + 1) (zup S 31 k (nI (r % 10))) K (by omega) hr' hf (by omega)
      refine ⟨S', K', by omega, fun q hq => (k2 q hq).trans (zup_n _ _ _ hq), fun i hi => by rw [k3 i (by omega), zup_s, upd_n _ _ (by omega)], fun i c' hi => ?_, ?_⟩
      · rw [ed] at hi
        cases i with
        | zero =>
          rw [show k + 0 = k from rfl, k3 k (by omega), zup_s, upd_s]
          rw [← Option.some.inj hi]
        | succ i =>
          rw [show k + (i + 1) = k + 1 + i by omega]
          exact k4 i c' hi
      · rw [k5, ed, List.length_cons, show k + 1 + (dga f (r / 10)).length = k + ((dga f (r / 10)).length + 1) by omega]
theorem r_num {M : Nat} (hM : 100 < M) {t T : zS} {L : List Int32} (h : mS t T L) (hl : L.length + 20 < 2 ^ 30) (x : Int32) : ∃ T', f_X6_writeNumber M T x = some T' ∧ mS t T' (L ++ num x) ∧ kS T T' := by
  have hb := ab_lt x
  have go : ∀ S L', mS t S L' → L'.length + 10 < 2 ^ 30 → ∃ s', l_X6_writeNumber M M 0 S (lI (ab x)) (nI 0) 0 = some s' ∧ mS t s' (L' ++ dgs (ab x)) ∧ kS S s' := by
    intro S L' hw hl'
    obtain ⟨S', K', k1, k2, k3, k4, k5⟩ := r_d0 (M := M) 10 (ab x) 0 S M (by omega) (Nat.lt_of_le_of_lt hb (by decide)) (by omega) (by omega)
    have dl := dga_l 10 (ab x)
    obtain ⟨S2, z1, z2, z3⟩ := r_d1 (M := M) dl (dga 10 (ab x)).length S' L' K' (Nat.le_refl _) (r_31 hw k2) (fun j c _ hj => by have := k4 j c hj; rwa [Nat.zero_add] at this) (by omega) (by omega)
    rw [k5, Nat.zero_add, z1]
    refine ⟨S2, rfl, ?_, fun r hr => (z3 r hr).trans (k2 r (by omega))⟩
    rw [List.take_length] at z2
    exact z2
  unfold f_X6_writeNumber num
  by_cases c : x < 0
  · simp only [if_pos c]
    obtain ⟨S1, g1, g2, g3, -⟩ := r_b (M := M) h (by omega) (nI 45)
    rw [g1, zbd_s, ← List.append_assoc, ab_n c]
    obtain ⟨s', q1, q2, q3⟩ := go S1 _ g2 (by simp; omega)
    exact ⟨s', q1, q2, kS_t g3 q3⟩
  · simp only [if_neg c, List.nil_append]
    rw [ab_p c]
    exact go T L h (by omega)
