/-! EQUAL: the class's way. -/
def wd (t : zS) (x : Nat) : Nat := wth (t 16) (t 17) (t 18) (t 6) x
def kd (t : zS) (x e : Nat) : Int32 := kid (t 16) (t 17) (t 20) (t 10) x e
def hg (t : zS) (n x : Nat) : Prop := hgt (t 16) (t 17) (t 18) (t 20) (t 6) (t 10) n x
def lik (t : zS) (a b : Nat) : Prop := t 16 a = t 16 b ∧ t 17 a = t 17 b ∧ (t 16 a = nI 2 ∨ t 18 a = t 18 b)
def eqv (t : zS) : Nat → Nat → Nat → Prop
  | 0, a, b => a = b ∨ lik t a b
  | n + 1, a, b => a = b ∨ (lik t a b ∧ ∀ e, e < wd t a → kd t a e = kd t b e ∨ (kd t a e ≠ -1 ∧ kd t b e ≠ -1 ∧ eqv t n (kd t a e).toNatClampNeg (kd t b e).toNatClampNeg))
def eqk (t : zS) (n : Nat) (c d : Int32) : Prop := c = d ∨ (c ≠ -1 ∧ d ≠ -1 ∧ eqv t n c.toNatClampNeg d.toNatClampNeg)
section EQ
variable {m v : Nat} {s t : zS}
theorem eqv_s (n a b : Nat) : eqv t (n + 1) a b ↔ (a = b ∨ (lik t a b ∧ ∀ e, e < wd t a → eqk t n (kd t a e) (kd t b e))) := Iff.rfl
theorem lik_r (a : Nat) : lik t a a := ⟨rfl, rfl, Or.inr rfl⟩
theorem lik_w (hB : iB m (t 6) (t 7) (t 8) (t 4) (t 5)) (hF : iF m v (t 6) (t 8) (t 9) (t 16) (t 17) (t 18) (t 19) (t 20)) {a b : Nat} (hb : b < v) (h : lik t a b) : wd t b = wd t a := by
  unfold wd wth
  obtain ⟨h1, h2, h3⟩ := h
  rw [← h1, ← h2]
  rcases h3 with h3 | h3
  · simp only [h3, n21, if_false]
  · rw [h3]
theorem s_of {M : Nat} (hE : iE v (s 19) (s 20) (s 21) (s 22) (s 23) (s 24) (t 15) (t 16) (t 17) (t 18) (t 19) (t 20)) {x : Nat} (hx : x < v) : f_X3_has M s (nI x) = some (nI 1) := by
  rcases c_val (M := M) hE (nI x) with ⟨a, -⟩ | ⟨-, -, c⟩
  · exact a
  · exact absurd rfl (c x hx)
theorem s_no {M : Nat} (hE : iE v (s 19) (s 20) (s 21) (s 22) (s 23) (s 24) (t 15) (t 16) (t 17) (t 18) (t 19) (t 20)) : f_X3_has M s (-1) = some (nI 0) := by
  rcases c_val (M := M) hE (-1) with ⟨-, -, j, hj, e⟩ | ⟨a, -⟩
  · have := hE.1
    exact absurd e.symm (nI_m1 (by omega))
  · exact a
theorem e_b {M : Nat} (rec : Nat → zS → Int32 → Int32 → Int32 → Option (Int32)) (hE : iE v (s 19) (s 20) (s 21) (s 22) (s 23) (s 24) (t 15) (t 16) (t 17) (t 18) (t 19) (t 20)) {x y d : Nat} (hx : x < v) (hy : y < v) (hxy : x ≠ y) (hd : d ≤ 16) : b_X3_areEqual M rec s (nI x) (nI y) (nI d) = if t 16 x = t 16 y then if t 17 x = t 17 y then if t 16 x = nI 2 then zbd (rec 1 s (nI x) (nI y) (nI d)) (fun q3 => zq (q3 &&& 1 == q3) <| some q3) else if t 18 x = t 18 y then if t 16 x = 0 then some (nI 1) else zbd (rec 2 s (nI x) (nI y) (nI d)) (fun q4 => if q4 = 0 then some (nI 0) else some (nI 1)) else some (nI 0) else some (nI 0) else some (nI 0) := by
  obtain ⟨f1, f2, f3, f4, f5, f6, f7, f8, f9, f10⟩ := id hE
  unfold b_X3_areEqual
  rw [if_neg (fun q => hxy (nI_inj (by omega) (by omega) q)), s_of hE hx, s_of hE hy, zbd_s, zbd_s, if_neg b_10, if_neg b_10, if_neg (nI_nlt (by omega) (by omega)), zin_t (show x < 100 by omega), zin_t (show y < 100 by omega), zcl (n := x) (by omega), zcl (n := y) (by omega), f4 x (by omega), f4 y (by omega), f5 x (by omega), f5 y (by omega), f9 x hx, f9 y hy]
  simp only [zq_t]
  by_cases c : t 16 x = t 16 y
  · rw [if_pos c, if_pos c, ← c]
    by_cases c2 : t 16 x = nI 2
    · simp only [if_pos c2]
      by_cases c3 : t 17 x = t 17 y
      · rw [if_pos c3, if_pos (by rw [c3])]
      · rw [if_neg c3, if_neg (fun q => c3 (by have := congrArg (fun z => z - nI 10) q; simpa [Int32.add_sub_cancel, Int32.add_comm (nI 10)] using this))]
    · simp only [if_neg c2]
  · rw [if_neg c, if_neg c]
theorem e_prt {M : Nat} {rec : Nat → zS → Int32 → Int32 → Int32 → Option (Int32)} {P : Nat → Prop} {x y n d : Nat} (hE : iE v (s 19) (s 20) (s 21) (s 22) (s 23) (s 24) (t 15) (t 16) (t 17) (t 18) (t 19) (t 20)) (hx : x < v) (hy : y < v) (hn : n ≤ 4) (en : t 18 x = nI n)
    (hr : ∀ e, e < n → (P e ∧ rec 0 s (t 20 (5 * x + e)) (t 20 (5 * y + e)) (nI (d + 1)) = some (nI 1)) ∨ (¬ P e ∧ rec 0 s (t 20 (5 * x + e)) (t 20 (5 * y + e)) (nI (d + 1)) = some (nI 0))) : ∀ c k K, k + c = n → c < K →
    ((∀ e, k ≤ e → e < n → P e) ∧ l_X3_haveEqualParts M rec K s (nI x) (nI y) (nI d) (nI k) = some (nI 1)) ∨ ((¬ ∀ e, k ≤ e → e < n → P e) ∧ l_X3_haveEqualParts M rec K s (nI x) (nI y) (nI d) (nI k) = some (nI 0)) := by
  obtain ⟨f1, f2, f3, f4, f5, f6, f7, f8, f9, f10⟩ := id hE
  intro c
  induction c with
  | zero =>
    intro k K hk hK
    obtain ⟨K, rfl⟩ : ∃ K', K = K' + 1 := ⟨K - 1, by omega⟩
    left
    refine ⟨fun e h1 h2 => absurd h2 (by omega), ?_⟩
    rw [l_X3_haveEqualParts, zin_t (show x < 100 by omega), zq_t, zcl (n := x) (by omega), f5 x (by omega), en, if_neg (nI_nlt (by omega) (by omega))]
  | succ c ih =>
    intro k K hk hK
    obtain ⟨K, rfl⟩ : ∃ K', K = K' + 1 := ⟨K - 1, by omega⟩
    rw [l_X3_haveEqualParts, zin_t (show x < 100 by omega), zq_t, zcl (n := x) (by omega), f5 x (by omega), en, if_pos (nI_lt (by omega) (by omega)), c_prt hE hx (by omega), c_prt hE hy (by omega), zbd_s, zbd_s, nI_add]
    rcases hr k (by omega) with ⟨h1, h2⟩ | ⟨h1, h2⟩
    · rw [h2, zbd_s, if_neg b_10, nI_add]
      rcases ih (k + 1) K (by omega) (by omega) with ⟨g1, g2⟩ | ⟨g1, g2⟩
      · left
        refine ⟨fun e h3 h4 => ?_, g2⟩
        rcases Nat.lt_or_ge k e with h5 | h5
        · exact g1 e h5 h4
        · rw [show e = k by omega]
          exact h1
      · exact Or.inr ⟨fun z => g1 (fun e h3 h4 => z e (by omega) h4), g2⟩
    · right
      rw [h2, zbd_s, if_pos b_00]
      exact ⟨fun z => h1 (z k (by omega) (by omega)), rfl⟩
theorem e_elm {M : Nat} {rec : Nat → zS → Int32 → Int32 → Int32 → Option (Int32)} {P : Nat → Prop} {x y j d : Nat} (hA : iA m (s 2) (s 3) (s 4) (s 5) (s 6) (s 8) (s 9) (s 12) (s 13) (s 14) (t 0) (t 1) (t 2) (t 3) (t 6) (t 4) (t 5) (t 7) (t 8) (t 9)) (hB : iB m (t 6) (t 7) (t 8) (t 4) (t 5)) (hE : iE v (s 19) (s 20) (s 21) (s 22) (s 23) (s 24) (t 15) (t 16) (t 17) (t 18) (t 19) (t 20)) (hG : iG m v (s 15) (t 6) (t 8) (t 9) (t 10) (t 16) (t 17) (t 18) (t 19) (t 20)) (hx : x < v) (hy : y < v) (hj : j < m) (q1 : t 16 x = nI 2) (q2 : t 17 x = nI j) (q3 : t 16 y = nI 2) (q4 : t 17 y = nI j)
    (hr : ∀ e, e < enn (t 6) j → (P e ∧ rec 0 s (inn (t 17) (t 20) (t 10) x e) (inn (t 17) (t 20) (t 10) y e) (nI (d + 1)) = some (nI 1)) ∨ (¬ P e ∧ rec 0 s (inn (t 17) (t 20) (t 10) x e) (inn (t 17) (t 20) (t 10) y e) (nI (d + 1)) = some (nI 0))) : ∀ c k K, k + c = enn (t 6) j → c < K →
    ((∀ e, k ≤ e → e < enn (t 6) j → P e) ∧ l_X3_haveEqualElements M rec K s (nI x) (nI y) (nI d) (nI k) = some (nI 1)) ∨ ((¬ ∀ e, k ≤ e → e < enn (t 6) j → P e) ∧ l_X3_haveEqualElements M rec K s (nI x) (nI y) (nI d) (nI k) = some (nI 0)) := by
  obtain ⟨a1, a2, a3, a4, a5, a6, a7, -⟩ := id hA
  obtain ⟨en, hen, een⟩ := hB.1 j (by omega)
  have eq := enn_of een hen
  rw [eq] at hr ⊢
  have hv := hE.1
  have hw : f_X3_howManyElements M s (nI x) = some (nI en) := by
    unfold f_X3_howManyElements
    rw [c_mkof hE a1 hx hj q1 q2, zbd_s, zin_t (show j < 12 by omega), zq_t, zcl (n := j) (by omega), a7 j (by omega), een]
  intro c
  induction c with
  | zero =>
    intro k K hk hK
    obtain ⟨K, rfl⟩ : ∃ K', K = K' + 1 := ⟨K - 1, by omega⟩
    left
    refine ⟨fun e h1 h2 => absurd h2 (by omega), ?_⟩
    rw [l_X3_haveEqualElements, hw, zbd_s, if_neg (nI_nlt (by omega) (by omega))]
  | succ c ih =>
    intro k K hk hK
    obtain ⟨K, rfl⟩ : ∃ K', K = K' + 1 := ⟨K - 1, by omega⟩
    rw [l_X3_haveEqualElements, hw, zbd_s, if_pos (nI_lt (by omega) (by omega)), (c_elm hE hB hG a1 hx hj q1 q2 (by omega)).1, (c_elm hE hB hG a1 hy hj q3 q4 (by omega)).1, zbd_s, zbd_s, nI_add]
    rcases hr k (by omega) with ⟨h1, h2⟩ | ⟨h1, h2⟩
    · rw [h2, zbd_s, if_neg b_10, nI_add]
      rcases ih (k + 1) K (by omega) (by omega) with ⟨g1, g2⟩ | ⟨g1, g2⟩
      · left
        refine ⟨fun e h3 h4 => ?_, g2⟩
        rcases Nat.lt_or_ge k e with h5 | h5
        · exact g1 e h5 h4
        · rw [show e = k by omega]
          exact h1
      · exact Or.inr ⟨fun z => g1 (fun e h3 h4 => z e (by omega) h4), g2⟩
    · right
      rw [h2, zbd_s, if_pos b_00]
      exact ⟨fun z => h1 (z k (by omega) (by omega)), rfl⟩
theorem e_c {M : Nat} (hM : 10 < M) (hA : iA m (s 2) (s 3) (s 4) (s 5) (s 6) (s 8) (s 9) (s 12) (s 13) (s 14) (t 0) (t 1) (t 2) (t 3) (t 6) (t 4) (t 5) (t 7) (t 8) (t 9)) (hB : iB m (t 6) (t 7) (t 8) (t 4) (t 5)) (hE : iE v (s 19) (s 20) (s 21) (s 22) (s 23) (s 24) (t 15) (t 16) (t 17) (t 18) (t 19) (t 20)) (hF : iF m v (t 6) (t 8) (t 9) (t 16) (t 17) (t 18) (t 19) (t 20)) (hG : iG m v (s 15) (t 6) (t 8) (t 9) (t 10) (t 16) (t 17) (t 18) (t 19) (t 20)) : ∀ n c d dep K, (c = -1 ∨ ∃ x, x < v ∧ c = nI x ∧ hg t n x) → (d = -1 ∨ ∃ y, y < v ∧ d = nI y) → n + dep ≤ 16 → n + n < K →
    (eqk t n c d ∧ g_X3_areEqual M K 0 s c d (nI dep) = some (nI 1)) ∨ (¬ eqk t n c d ∧ g_X3_areEqual M K 0 s c d (nI dep) = some (nI 0)) := by
  have hv := hE.1
  have hm := hA.1
  intro n
  induction n with
  | zero =>
    intro c d dep K hc hd hn hK
    obtain ⟨K, rfl⟩ : ∃ K', K = K' + 1 := ⟨K - 1, by omega⟩
    rw [g_X3_areEqual]
    show (_ ∧ b_X3_areEqual _ _ _ _ _ _ = _) ∨ (_ ∧ b_X3_areEqual _ _ _ _ _ _ = _)
    by_cases cd : c = d
    · left
      refine ⟨Or.inl cd, ?_⟩
      unfold b_X3_areEqual
      rw [if_pos cd]
    rcases hc with rfl | ⟨x, hx, rfl, hh⟩
    · right
      refine ⟨fun z => z.elim cd (fun z => z.1 rfl), ?_⟩
      unfold b_X3_areEqual
      rw [if_neg cd, s_no hE, zbd_s, if_pos b_00]
    rcases hd with rfl | ⟨y, hy, rfl⟩
    · right
      refine ⟨fun z => z.elim cd (fun z => z.2.1 rfl), ?_⟩
      unfold b_X3_areEqual
      rw [if_neg cd, s_of hE hx, s_no hE, zbd_s, if_neg b_10, zbd_s, if_pos b_00]
    have hxy : x ≠ y := fun z => cd (by rw [z])
    have hh : t 16 x = nI 0 := hh
    rw [e_b _ hE hx hy hxy (by omega), if_neg (show ¬ t 16 x = nI 2 by rw [hh]; decide), if_pos (show t 16 x = 0 from hh)]
    have ek : eqk t 0 (nI x) (nI y) ↔ (t 16 x = t 16 y ∧ t 17 x = t 17 y ∧ t 18 x = t 18 y) := by
      unfold eqk eqv lik
      rw [zcl (n := x) (by omega), zcl (n := y) (by omega)]
      constructor
      · rintro (z | ⟨-, -, z | ⟨z1, z2, z | z⟩⟩)
        · exact absurd z cd
        · exact absurd z hxy
        · rw [hh] at z
          exact absurd z (by decide)
        · exact ⟨z1, z2, z⟩
      · rintro ⟨z1, z2, z3⟩
        exact Or.inr ⟨nI_m1 (by omega), nI_m1 (by omega), Or.inr ⟨z1, z2, Or.inr z3⟩⟩
    rw [ek]
    by_cases c1 : t 16 x = t 16 y
    · rw [if_pos c1]
      by_cases c2 : t 17 x = t 17 y
      · rw [if_pos c2]
        by_cases c3 : t 18 x = t 18 y
        · rw [if_pos c3]
          exact Or.inl ⟨⟨c1, c2, c3⟩, rfl⟩
        · rw [if_neg c3]
          exact Or.inr ⟨fun z => c3 z.2.2, rfl⟩
      · rw [if_neg c2]
        exact Or.inr ⟨fun z => c2 z.2.1, rfl⟩
    · rw [if_neg c1]
      exact Or.inr ⟨fun z => c1 z.1, rfl⟩
  | succ n ih =>
    intro c d dep K hc hd hn hK
    obtain ⟨K, rfl⟩ : ∃ K', K = K' + 2 := ⟨K - 2, by omega⟩
    rw [g_X3_areEqual]
    show (_ ∧ b_X3_areEqual _ _ _ _ _ _ = _) ∨ (_ ∧ b_X3_areEqual _ _ _ _ _ _ = _)
    by_cases cd : c = d
    · left
      refine ⟨Or.inl cd, ?_⟩
      unfold b_X3_areEqual
      rw [if_pos cd]
    rcases hc with rfl | ⟨x, hx, rfl, hh⟩
    · right
      refine ⟨fun z => z.elim cd (fun z => z.1 rfl), ?_⟩
      unfold b_X3_areEqual
      rw [if_neg cd, s_no hE, zbd_s, if_pos b_00]
    rcases hd with rfl | ⟨y, hy, rfl⟩
    · right
      refine ⟨fun z => z.elim cd (fun z => z.2.1 rfl), ?_⟩
      unfold b_X3_areEqual
      rw [if_neg cd, s_of hE hx, s_no hE, zbd_s, if_neg b_10, zbd_s, if_pos b_00]
    have hxy : x ≠ y := fun z => cd (by rw [z])
    rw [e_b _ hE hx hy hxy (by omega)]
    have ek : eqk t (n + 1) (nI x) (nI y) ↔ (lik t x y ∧ ∀ e, e < wd t x → eqk t n (kd t x e) (kd t y e)) := by
      unfold eqk
      rw [zcl (n := x) (by omega), zcl (n := y) (by omega), eqv_s]
      constructor
      · rintro (z | ⟨-, -, z | z⟩)
        · exact absurd z cd
        · exact absurd z hxy
        · exact z
      · intro z
        exact Or.inr ⟨nI_m1 (by omega), nI_m1 (by omega), Or.inr z⟩
    rw [ek]
    by_cases c1 : t 16 x = t 16 y
    · rw [if_pos c1]
      by_cases c2 : t 17 x = t 17 y
      · rw [if_pos c2]
        obtain ⟨hw5, hkx⟩ := w_kid hm hv hB hF hG hx
        have hky := (w_kid hm hv hB hF hG hy).2
        have key : lik t x y → ∀ e, e < wd t x → (eqk t n (kd t x e) (kd t y e) ∧ g_X3_areEqual M K 0 s (kd t x e) (kd t y e) (nI (dep + 1)) = some (nI 1)) ∨ (¬ eqk t n (kd t x e) (kd t y e) ∧ g_X3_areEqual M K 0 s (kd t x e) (kd t y e) (nI (dep + 1)) = some (nI 0)) := by
          intro hl e he
          refine ih (kd t x e) (kd t y e) (dep + 1) K ?_ ?_ (by omega) (by omega)
          · rcases hkx e he with z | ⟨x', z1, z2⟩
            · exact Or.inl z
            · have := hh e he (by rw [z2]; exact nI_m1 (by omega))
              rw [z2, zcl (by omega)] at this
              exact Or.inr ⟨x', z1, z2, this⟩
          · exact hky e (by have := lik_w hB hF hy hl; unfold wd at this he; omega)
        by_cases c3 : t 16 x = nI 2
        · have hl : lik t x y := ⟨c1, c2, Or.inl c3⟩
          obtain ⟨-, q⟩ := hF x hx
          rcases q with ⟨q, -⟩ | ⟨q, -⟩ | ⟨q, j, hj, ej, -⟩
          · exact absurd c3 (s_ne q (by omega) (by omega) (by omega))
          · exact absurd c3 (s_ne q (by omega) (by omega) (by omega))
          have ew : wd t x = enn (t 6) j := by
            unfold wd wth
            rw [q, if_neg (by decide), if_pos rfl, ej, zcl (by omega)]
          have ekx : ∀ e, kd t x e = inn (t 17) (t 20) (t 10) x e := fun e => if_pos q
          have eky : ∀ e, kd t y e = inn (t 17) (t 20) (t 10) y e := fun e => if_pos (c1.symm.trans q)
          have key := key hl
          rw [ew] at key ⊢
          simp only [ekx, eky] at key ⊢
          obtain ⟨en, hen, een⟩ := hB.1 j (by omega)
          have eq := enn_of een hen
          rw [if_pos c3]
          show (_ ∧ zbd (l_X3_haveEqualElements M (g_X3_areEqual M K) M s (nI x) (nI y) (nI dep) (nI 0)) _ = _) ∨ (_ ∧ zbd (l_X3_haveEqualElements M (g_X3_areEqual M K) M s (nI x) (nI y) (nI dep) (nI 0)) _ = _)
          rcases e_elm (M := M) (P := fun e => eqk t n (inn (t 17) (t 20) (t 10) x e) (inn (t 17) (t 20) (t 10) y e)) hA hB hE hG hx hy hj q ej (c1.symm.trans q) (c2.symm.trans ej) key (enn (t 6) j) 0 M (by omega) (by omega) with ⟨g1, g2⟩ | ⟨g1, g2⟩
          · left
            rw [g2, zbd_s, bo_1, zq_t]
            exact ⟨⟨hl, fun e he => g1 e (by omega) he⟩, rfl⟩
          · right
            rw [g2, zbd_s, bo_0, zq_t]
            exact ⟨fun z => g1 (fun e _ he => z.2 e he), rfl⟩
        · rw [if_neg c3]
          by_cases c4 : t 18 x = t 18 y
          · have hl : lik t x y := ⟨c1, c2, Or.inr c4⟩
            rw [if_pos c4]
            obtain ⟨-, q⟩ := hF x hx
            rcases q with ⟨q, -⟩ | ⟨q, -, n', hn', en, hc⟩ | ⟨q, -⟩
            · rw [if_pos (show t 16 x = 0 from q)]
              left
              refine ⟨⟨hl, fun e he => absurd he ?_⟩, rfl⟩
              unfold wd wth
              rw [q, if_neg (by decide), if_neg (by decide)]
              omega
            · have ew : wd t x = n' := by
                unfold wd wth
                rw [q, if_pos rfl, en, zcl (by omega)]
              have ekx : ∀ e, kd t x e = t 20 (5 * x + e) := fun e => if_neg c3
              have eky : ∀ e, kd t y e = t 20 (5 * y + e) := fun e => if_neg (by rw [← c1]; exact c3)
              have key := key hl
              rw [ew] at key ⊢
              simp only [ekx, eky] at key ⊢
              rw [if_neg (show ¬ t 16 x = 0 by rw [q]; exact b_10)]
              show (_ ∧ zbd (l_X3_haveEqualParts M (g_X3_areEqual M K) M s (nI x) (nI y) (nI dep) (nI 0)) _ = _) ∨ (_ ∧ zbd (l_X3_haveEqualParts M (g_X3_areEqual M K) M s (nI x) (nI y) (nI dep) (nI 0)) _ = _)
              rcases e_prt (M := M) (P := fun e => eqk t n (t 20 (5 * x + e)) (t 20 (5 * y + e))) hE hx hy hn' en key n' 0 M (by omega) (by omega) with ⟨g1, g2⟩ | ⟨g1, g2⟩
              · left
                rw [g2, zbd_s, if_neg b_10]
                exact ⟨⟨hl, fun e he => g1 e (by omega) he⟩, rfl⟩
              · right
                rw [g2, zbd_s, if_pos b_00]
                exact ⟨fun z => g1 (fun e _ he => z.2 e he), rfl⟩
            · exact absurd q c3
          · rw [if_neg c4]
            exact Or.inr ⟨fun z => z.1.2.2.elim c3 c4, rfl⟩
      · rw [if_neg c2]
        exact Or.inr ⟨fun z => c2 z.1.2.1, rfl⟩
    · rw [if_neg c1]
      exact Or.inr ⟨fun z => c1 z.1.1, rfl⟩
end EQ
