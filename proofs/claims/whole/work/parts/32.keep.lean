/-! What never changes stays WHOLE; a new VALUE. -/
theorem n10 : ((nI 1 : Int32) = nI 0) = False := eq_false (by decide)
theorem n20 : ((nI 2 : Int32) = nI 0) = False := eq_false (by decide)
theorem n12 : ((nI 1 : Int32) = nI 2) = False := eq_false (by decide)
theorem n21 : ((nI 2 : Int32) = nI 1) = False := eq_false (by decide)
theorem n01 : ((nI 0 : Int32) = nI 1) = False := eq_false (by decide)
theorem n02 : ((nI 0 : Int32) = nI 2) = False := eq_false (by decide)
theorem whl_keep {m v : Nat} {a6 a8 a9 a10 a16 a17 a18 a19 a20 b6 b10 b16 b17 b18 b20 s15 : Nat → Int32} (hB : ∀ j, j < 12 → ∃ e, e ≤ 5 ∧ a6 j = nI e) (hm : m ≤ 12) (hv : v ≤ 100) (hF : iF m v a6 a8 a9 a16 a17 a18 a19 a20) (hG : iG m v s15 a6 a8 a9 a10 a16 a17 a18 a19 a20)
    (h1 : ∀ x, x < v → fin a16 a19 x → b16 x = a16 x ∧ b17 x = a17 x ∧ b18 x = a18 x ∧ ∀ e, e < 5 → b20 (5 * x + e) = a20 (5 * x + e))
    (h2 : ∀ x j, x < v → j < m → a16 x = nI 2 → a17 x = nI j → enn b6 j = enn a6 j ∧ ∀ e, e < enn a6 j → b10 (5 * j + e) = a10 (5 * j + e)) :
    ∀ n x, x < v → fin a16 a19 x → (whl b16 b17 b18 b20 b6 b10 n x ↔ whl a16 a17 a18 a20 a6 a10 n x) := by
  intro n
  induction n with
  | zero =>
    intro x hx hf
    obtain ⟨e1, -⟩ := h1 x hx hf
    unfold whl
    rw [e1]
  | succ n ih =>
    intro x hx hf
    obtain ⟨e1, e2, e3, e4⟩ := h1 x hx hf
    obtain ⟨-, q⟩ := hF x hx
    unfold whl
    rw [e1, e2, e3]
    rcases q with ⟨q, -⟩ | ⟨q, -, n', hn, en, hc⟩ | ⟨q, j, hj, ej, hc⟩
    · simp only [q, true_or]
    · rw [q, en, zcl (by omega)]
      simp only [n10, n12, false_or, or_false, false_and, true_and]
      constructor
      · intro h e he
        obtain ⟨y, y1, y2, y3, y4⟩ := hc e he
        have := h e he
        rw [e4 e (by omega), y2, zcl (by omega)] at this
        rw [y2, zcl (by omega)]
        exact (ih y y1 y4).mp this
      · intro h e he
        obtain ⟨y, y1, y2, y3, y4⟩ := hc e he
        have := h e he
        rw [y2, zcl (by omega)] at this
        rw [e4 e (by omega), y2, zcl (by omega)]
        exact (ih y y1 y4).mpr this
    · obtain ⟨k1, k2⟩ := h2 x j hx hj q ej
      obtain ⟨en, hen, een⟩ := hB j (by omega)
      have een2 := enn_of een hen
      rw [q, ej, zcl (by omega), k1]
      simp only [n20, n21, false_or, false_and, true_and]
      have key : ∀ e, e < enn a6 j → inn b17 b20 b10 x e = inn a17 a20 a10 x e ∧ (inn a17 a20 a10 x e ≠ -1 → ∃ y, y < v ∧ inn a17 a20 a10 x e = nI y ∧ fin a16 a19 y) := by
        intro e he
        have c4 := e4 e (by omega)
        unfold inn
        rw [c4, e2, ej, zcl (by omega), k2 e he]
        refine ⟨rfl, ?_⟩
        by_cases c : a20 (5 * x + e) = -1
        · rw [if_pos c]
          intro h
          rcases (hG.1 j e hj he).2 with g | ⟨y, y1, y2, y3, y4, y5⟩
          · exact absurd g h
          · exact ⟨y, y1, y2, y4⟩
        · rw [if_neg c]
          intro h
          rcases hc e he with g | ⟨y, y1, y2, y3, y4⟩
          · exact absurd g h
          · exact ⟨y, y1, y2, y4⟩
      constructor
      · intro h e he
        obtain ⟨g1, g2⟩ := h e he
        obtain ⟨k3, k4⟩ := key e he
        rw [k3] at g1 g2
        obtain ⟨y, y1, y2, y3⟩ := k4 g1
        refine ⟨g1, ?_⟩
        rw [y2, zcl (by omega)] at g2 ⊢
        exact (ih y y1 y3).mp g2
      · intro h e he
        obtain ⟨g1, g2⟩ := h e he
        obtain ⟨k3, k4⟩ := key e he
        obtain ⟨y, y1, y2, y3⟩ := k4 g1
        rw [k3]
        refine ⟨g1, ?_⟩
        rw [y2, zcl (by omega)] at g2 ⊢
        exact (ih y y1 y3).mpr g2
theorem dnc_c {f g : Nat → Int32} : ∀ n, (∀ j, j < n → f j = g j) → dnc f n = dnc g n
  | 0, _ => rfl
  | n + 1, h => by
    unfold dnc
    rw [dnc_c n (fun j hj => h j (by omega)), h n (by omega)]
/-- the reference's row for a new VALUE -/
def ch5 (f : Nat → Int32) (v : Nat) : Nat → Int32 := upd (upd (upd (upd (upd f (5 * v) (-1)) (5 * v + 1) (-1)) (5 * v + 2) (-1)) (5 * v + 3) (-1)) (5 * v + 4) (-1)
theorem ch5_n {f : Nat → Int32} {v i : Nat} (h : i < 5 * v ∨ 5 * v + 5 ≤ i) : ch5 f v i = f i := by
  unfold ch5
  rw [upd_n _ _ (by omega), upd_n _ _ (by omega), upd_n _ _ (by omega), upd_n _ _ (by omega), upd_n _ _ (by omega)]
theorem ch5_s {f : Nat → Int32} {v i : Nat} (h : 5 * v ≤ i) (h2 : i < 5 * v + 5) : ch5 f v i = -1 := by
  unfold ch5
  rcases (show i = 5 * v ∨ i = 5 * v + 1 ∨ i = 5 * v + 2 ∨ i = 5 * v + 3 ∨ i = 5 * v + 4 by omega) with rfl | rfl | rfl | rfl | rfl
  · rw [upd_n _ _ (by omega), upd_n _ _ (by omega), upd_n _ _ (by omega), upd_n _ _ (by omega), upd_s]
  · rw [upd_n _ _ (by omega), upd_n _ _ (by omega), upd_n _ _ (by omega), upd_s]
  · rw [upd_n _ _ (by omega), upd_n _ _ (by omega), upd_s]
  · rw [upd_n _ _ (by omega), upd_s]
  · rw [upd_s]
def adT (t : zS) (v : Nat) (so k nu : Int32) : zS := zup (zup (zup (zup (zup (zup (zup (zup (zup (zup t 16 v so) 17 v k) 18 v nu) 19 v (nI 0)) 20 (5 * v) (-1)) 20 (5 * v + 1) (-1)) 20 (5 * v + 2) (-1)) 20 (5 * v + 3) (-1)) 20 (5 * v + 4) (-1)) 15 0 (nI (v + 1))
def adS (s : zS) (v : Nat) (so k nu : Int32) : zS := zup (zup (zup (zup s 20 v so) 21 v k) 22 v nu) 19 0 (nI (v + 1))
theorem e_addS {M v : Nat} {s : zS} (h : s 19 0 = nI v) (hv : v < 100) (so k nu : Int32) : f_X3_add M s so k nu = some (nI v, adS s v so k nu) := by
  unfold f_X3_add adS
  rw [h, if_pos (nI_lt hv (by omega)), zin_t hv, zcl (by omega), nI_add, nI_sub1]
  rfl
theorem e_addT {N v : Nat} {t : zS} (h : t 15 0 = nI v) (hv : v < 100) (so k nu : Int32) : f_X6_added (N + 6) t so k nu = some (nI v, adT t v so k nu) := by
  unfold f_X6_added
  rw [h, zin_t hv, zcl (by omega), zq_t, zq_t, zq_t, zq_t]
  have st : ∀ (K e : Nat) (T : zS), e < 5 → T 15 0 = nI v → l_X6_added (N + 6) (K + 1) T (nI e) = l_X6_added (N + 6) K (zup T 20 (5 * v + e) (-1)) (nI (e + 1)) := by
    intro K e T he hT
    rw [l_X6_added, if_pos (nI_lt he (by omega)), hT, pk_mul, nI_add, zin_t (by omega), zcl (by omega), nI_add, zq_t]
  have z : zbn 1 (nI 0) = nI 0 := by decide
  rw [z]
  have h0 : (zup (zup (zup (zup t 16 v so) 17 v k) 18 v nu) 19 v (nI 0)) 15 0 = nI v := h
  unfold adT
  generalize zup (zup (zup (zup t 16 v so) 17 v k) 18 v nu) 19 v (nI 0) = T at h0 ⊢
  refine (st (N + 5) 0 T (by omega) h0).trans ?_
  refine (st (N + 4) 1 (zup T 20 (5 * v + 0) (-1)) (by omega) h0).trans ?_
  refine (st (N + 3) 2 (zup (zup T 20 (5 * v + 0) (-1)) 20 (5 * v + 1) (-1)) (by omega) h0).trans ?_
  refine (st (N + 2) 3 (zup (zup (zup T 20 (5 * v + 0) (-1)) 20 (5 * v + 1) (-1)) 20 (5 * v + 2) (-1)) (by omega) h0).trans ?_
  refine (st (N + 1) 4 (zup (zup (zup (zup T 20 (5 * v + 0) (-1)) 20 (5 * v + 1) (-1)) 20 (5 * v + 2) (-1)) 20 (5 * v + 3) (-1)) (by omega) h0).trans ?_
  rw [l_X6_added, if_neg (by decide)]
  have h2 : (zup (zup (zup (zup (zup T 20 (5 * v + 0) (-1)) 20 (5 * v + 1) (-1)) 20 (5 * v + 2) (-1)) 20 (5 * v + 3) (-1)) 20 (5 * v + 4) (-1)) 15 0 = nI v := h0
  rw [h2, nI_add, nI_sub1]
  rfl
/-- a new VALUE keeps what there is in common; its INSTANCE flag apart -/
theorem inv_new {m p v u : Nat} {s t : zS} (h : Inv m p v u s t) (hv : v < 100) (so k kc nu : Int32) (s10 : Nat → Int32)
    (hk : (so = nI 0 ∧ (∃ c, c < 4 ∧ k = nI c) ∧ kc = k ∧ s10 = s 10) ∨ (so = nI 1 ∧ kOK m k ∧ nu = nI 0 ∧ kc = k ∧ s10 = s 10) ∨ (so = nI 2 ∧ kc = nI 10 + k ∧ ∃ j, j < m ∧ k = nI j ∧ s10 = upd (s 10) j (nI 1)))
    {S : zS} (e10 : S 10 = s10) (eS : ∀ r, r ≠ 10 → S r = adS s v so kc nu r) : Inv m p (v + 1) u S (adT t v so k nu) := by
  obtain ⟨hA, hB, hC, hD, hE, hF, hG, hH, hJ, hK⟩ := h
  obtain ⟨b1, b2, b3, b4, b5, b6, b7⟩ := id hB
  obtain ⟨f1, f2, f3, f4, f5, f6, f7, f8, f9, f10⟩ := id hE
  have hm := hA.1
  have e16 : ∀ x, x < v → upd (t 16) v so x = t 16 x := fun x hx => upd_n _ _ (by omega)
  have e17 : ∀ x, x < v → upd (t 17) v k x = t 17 x := fun x hx => upd_n _ _ (by omega)
  have e18 : ∀ x, x < v → upd (t 18) v nu x = t 18 x := fun x hx => upd_n _ _ (by omega)
  have e19 : ∀ x, x < v → upd (t 19) v (nI 0) x = t 19 x := fun x hx => upd_n _ _ (by omega)
  have e20 : ∀ x e, x < v → e < 5 → ch5 (t 20) v (5 * x + e) = t 20 (5 * x + e) := fun x e hx he => ch5_n (by omega)
  have kk : ∀ y k', y < v → isK (t 16) (t 17) y k' → isK (upd (t 16) v so) (upd (t 17) v k) y k' := by
    intro y k' hy hh
    unfold isK at hh ⊢
    rw [e16 y hy, e17 y hy]
    exact hh
  have kf : ∀ y i, y < v → fts (t 16) (t 17) (t 8) (t 9) y i → fts (upd (t 16) v so) (upd (t 17) v k) (t 8) (t 9) y i := by
    intro y i hy hh
    unfold fts at hh ⊢
    rw [e16 y hy, e17 y hy]
    exact hh.imp id (fun z => ⟨z.1, kk y _ hy z.2⟩)
  have kd : ∀ y, y < v → fin (t 16) (t 19) y → fin (upd (t 16) v so) (upd (t 19) v (nI 0)) y := by
    intro y hy hh
    unfold fin at hh ⊢
    rw [e16 y hy, e19 y hy]
    exact hh
  have kw := whl_keep (b6 := t 6) (b10 := t 10) (b16 := upd (t 16) v so) (b17 := upd (t 17) v k) (b18 := upd (t 18) v nu) (b20 := ch5 (t 20) v) b1 hm f1 hF hG (fun x hx _ => ⟨e16 x hx, e17 x hx, e18 x hx, fun e he => e20 x e hx he⟩) (fun _ _ _ _ _ _ => ⟨rfl, fun _ _ => rfl⟩)
  have hA' : iA m (S 2) (S 3) (S 4) (S 5) (S 6) (S 8) (S 9) (S 12) (S 13) (S 14) (t 0) (t 1) (t 2) (t 3) (t 6) (t 4) (t 5) (t 7) (t 8) (t 9) := by
    rw [eS 2 (by decide), eS 3 (by decide), eS 4 (by decide), eS 5 (by decide), eS 6 (by decide), eS 8 (by decide), eS 9 (by decide), eS 12 (by decide), eS 13 (by decide), eS 14 (by decide)]
    exact hA
  refine ⟨hA', hB, ?_, ?_, ?_, ?_, ?_, ?_, ?_, ?_⟩
  · rw [eS 7 (by decide), eS 11 (by decide), e10]
    refine ⟨hC.1, fun j hj => ?_, fun j hj => ?_⟩
    · show (s10 j = nI 1 ∧ ∃ x, x < v + 1 ∧ upd (t 16) v so x = nI 2 ∧ upd (t 17) v k x = nI j) ∨ (s10 j = nI 0 ∧ ∀ x, x < v + 1 → ¬ (upd (t 16) v so x = nI 2 ∧ upd (t 17) v k x = nI j))
      by_cases hn : so = nI 2 ∧ k = nI j
      · left
        rcases hk with ⟨a, -⟩ | ⟨a, -⟩ | ⟨a, b, j', c, d, e⟩
        · rw [hn.1] at a; exact absurd a (by decide)
        · rw [hn.1] at a; exact absurd a (by decide)
        · have : j' = j := nI_inj (by omega) (by omega) (d.symm.trans hn.2)
          subst this
          rw [e, upd_s]
          exact ⟨rfl, v, by omega, by rw [upd_s]; exact a, by rw [upd_s]; exact d⟩
      · have es : s10 j = s 10 j := by
          rcases hk with ⟨a, b, c, d⟩ | ⟨a, b, c, d, e⟩ | ⟨a, b, j', c, d, e⟩
          · rw [d]
          · rw [e]
          · rw [e, upd_n]
            intro q
            subst q
            exact hn ⟨a, d⟩
        rw [es]
        rcases hC.2.1 j hj with ⟨c1, x, c2, c3, c4⟩ | ⟨c1, c2⟩
        · exact Or.inl ⟨c1, x, by omega, by rw [e16 x c2]; exact c3, by rw [e17 x c2]; exact c4⟩
        · refine Or.inr ⟨c1, fun x hx => ?_⟩
          by_cases hxv : x = v
          · subst hxv
            rw [upd_s, upd_s]
            exact hn
          · rw [e16 x (by omega), e17 x (by omega)]
            exact c2 x (by omega)
    · show (s 11 j = nI 1 ∧ ∃ q, q < u ∧ upd (t 17) v k (t 34 q).toNatClampNeg = nI j) ∨ (s 11 j = nI 0 ∧ ∀ q, q < u → ¬ upd (t 17) v k (t 34 q).toNatClampNeg = nI j)
      have ep : ∀ q, q < u → upd (t 17) v k (t 34 q).toNatClampNeg = t 17 (t 34 q).toNatClampNeg := by
        intro q hq
        obtain ⟨x, x1, x2, -⟩ := hH.2.2.2.2.2 q hq
        rw [x2, zcl (by omega), e17 x x1]
      rcases hC.2.2 j hj with ⟨c1, q, c2, c3⟩ | ⟨c1, c2⟩
      · exact Or.inl ⟨c1, q, c2, by rw [ep q c2]; exact c3⟩
      · exact Or.inr ⟨c1, fun q hq => by rw [ep q hq]; exact c2 q hq⟩
  · rw [eS 16 (by decide), eS 17 (by decide), eS 18 (by decide)]
    exact hD
  · rw [eS 19 (by decide), eS 20 (by decide), eS 21 (by decide), eS 22 (by decide), eS 23 (by decide), eS 24 (by decide)]
    show iE (v + 1) (upd (s 19) 0 (nI (v + 1))) (upd (s 20) v so) (upd (s 21) v kc) (upd (s 22) v nu) (s 23) (s 24) (upd (t 15) 0 (nI (v + 1))) (upd (t 16) v so) (upd (t 17) v k) (upd (t 18) v nu) (upd (t 19) v (nI 0)) (ch5 (t 20) v)
    refine ⟨by omega, upd_s _ _ _, upd_s _ _ _, zeq_upd f4 _ _, zeq_upd f5 _ _, fun j hj => ?_, fun j hj => ?_, fun j h1 h2 => f8 j (by omega) h2, fun j hj => ?_, fun j h1 h2 => f10 j (by omega) h2⟩
    · by_cases hjv : j = v
      · subst hjv
        rw [upd_s]
        exact f10 j (Nat.le_refl j) hj
      · rw [upd_n _ _ hjv]
        exact f6 j hj
    · by_cases hjv : j < 5 * v
      · rw [ch5_n (Or.inl hjv)]
        exact f7 j hjv
      · rw [ch5_s (by omega) (by omega)]
        exact f8 j (by omega) (by omega)
    · by_cases hjv : j = v
      · subst hjv
        rw [upd_s, upd_s, upd_s]
        rcases hk with ⟨a, b, c, d⟩ | ⟨a, b, c, d, e⟩ | ⟨a, b, c⟩
        · rw [a, if_neg (by decide)]; exact c
        · rw [a, if_neg (by decide)]; exact d
        · rw [a, if_pos rfl]; exact b
      · rw [upd_n _ _ hjv, upd_n _ _ hjv, upd_n _ _ hjv]
        exact f9 j (by omega)
  · show iF m (v + 1) (t 6) (t 8) (t 9) (upd (t 16) v so) (upd (t 17) v k) (upd (t 18) v nu) (upd (t 19) v (nI 0)) (ch5 (t 20) v)
    intro x hx
    by_cases hxv : x = v
    · subst hxv
      rw [upd_s, upd_s, upd_s, upd_s]
      refine ⟨Or.inl rfl, ?_⟩
      rcases hk with ⟨a, b, c, d⟩ | ⟨a, b, c, d, e⟩ | ⟨a, b, j, c, d, e⟩
      · exact Or.inl ⟨a, b⟩
      · exact Or.inr (Or.inl ⟨a, b, 0, by omega, c, fun e he => absurd he (by omega)⟩)
      · refine Or.inr (Or.inr ⟨a, j, c, d, fun e he => Or.inl ?_⟩)
        obtain ⟨en, hen, een⟩ := b1 j (by omega)
        have := enn_of een hen
        exact ch5_s (by omega) (by omega)
    · have hx : x < v := by omega
      obtain ⟨d0, q⟩ := hF x hx
      rw [e16 x hx, e17 x hx, e18 x hx, e19 x hx]
      refine ⟨d0, ?_⟩
      rcases q with q | ⟨q1, q2, n, q3, q4, q5⟩ | ⟨q1, j, q2, q3, q4⟩
      · exact Or.inl q
      · refine Or.inr (Or.inl ⟨q1, q2, n, q3, q4, fun e he => ?_⟩)
        obtain ⟨y, y1, y2, y3, y4⟩ := q5 e he
        exact ⟨y, by omega, by rw [e20 x e hx (by omega)]; exact y2, kk y _ y1 y3, kd y y1 y4⟩
      · refine Or.inr (Or.inr ⟨q1, j, q2, q3, fun e he => ?_⟩)
        obtain ⟨en, hen, een⟩ := b1 j (by omega)
        have := enn_of een hen
        rw [e20 x e hx (by omega)]
        rcases q4 e he with z | ⟨y, y1, y2, y3, y4⟩
        · exact Or.inl z
        · exact Or.inr ⟨y, by omega, y2, kf y _ y1 y3, kd y y1 y4⟩
  · rw [eS 15 (by decide)]
    show iG m (v + 1) (s 15) (t 6) (t 8) (t 9) (t 10) (upd (t 16) v so) (upd (t 17) v k) (upd (t 18) v nu) (upd (t 19) v (nI 0)) (ch5 (t 20) v)
    refine ⟨fun j e hj he => ?_, hG.2⟩
    obtain ⟨g1, g2⟩ := hG.1 j e hj he
    refine ⟨g1, ?_⟩
    rcases g2 with z | ⟨y, y1, y2, y3, y4, y5⟩
    · exact Or.inl z
    · exact Or.inr ⟨y, by omega, y2, kf y _ y1 y3, kd y y1 y4, (kw 8 y y1 y4).mpr y5⟩
  · rw [eS 25 (by decide), eS 26 (by decide), eS 27 (by decide), eS 28 (by decide)]
    show iH (v + 1) u (s 25) (s 26) (s 27) (s 28) (upd (t 16) v so) (upd (t 17) v k) (upd (t 19) v (nI 0)) (t 32) (t 33) (t 34)
    obtain ⟨g1, g2, g3, g4, g5, g6⟩ := hH
    refine ⟨?_, g2, g3, g4, g5, fun q hq => ?_⟩
    · show u ≤ dnc (upd (t 19) v (nI 0)) v + _
      rw [dnc_c v (fun j hj => e19 j hj)]
      omega
    · obtain ⟨x, x1, x2, x3, x4, x5⟩ := g6 q hq
      exact ⟨x, by omega, x2, by rw [e16 x x1]; exact x3, by rw [e17 x x1]; exact x4, by rw [e19 x x1]; exact x5⟩
  · rw [eS 0 (by decide), eS 1 (by decide)]
    exact hJ
  · rw [eS 29 (by decide), eS 30 (by decide)]
    refine ⟨hK.1, hK.2.1, fun q j => ?_⟩
    show hmc (fun i => decide (t 33 i = q ∧ upd (t 17) v k (t 34 i).toNatClampNeg = j)) u ≤ 4
    rw [hmc_c u (g := fun i => decide (t 33 i = q ∧ t 17 (t 34 i).toNatClampNeg = j)) (fun i hi => by
      obtain ⟨x, x1, x2, -⟩ := hH.2.2.2.2.2 i hi
      rw [x2, zcl (by omega), e17 x x1])]
    exact hK.2.2 q j
