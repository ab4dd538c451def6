/-! ways from MARK to MARK: the class's bits. -/
theorem b_and (x y : Nat) : nI x &&& nI y = nI (x &&& y) := by
  apply Int32.toBitVec.inj
  simp [nI, BitVec.ofNat_and]
theorem b_or (x y : Nat) : nI x ||| nI y = nI (x ||| y) := by
  apply Int32.toBitVec.inj
  simp [nI, BitVec.ofNat_or]
theorem b_shl {k : Nat} (h : k ≤ 12) : nI 1 <<< (nI k &&& 31) = nI (2 ^ k) := by
  rcases (show k = 0 ∨ k = 1 ∨ k = 2 ∨ k = 3 ∨ k = 4 ∨ k = 5 ∨ k = 6 ∨ k = 7 ∨ k = 8 ∨ k = 9 ∨ k = 10 ∨ k = 11 ∨ k = 12 by omega) with rfl | rfl | rfl | rfl | rfl | rfl | rfl | rfl | rfl | rfl | rfl | rfl | rfl <;> decide
theorem p2_12 {k : Nat} (h : k < 12) : 2 ^ k < 2 ^ 12 := Nat.pow_lt_pow_right (by omega) h
/-- a way of n steps from x, along E, by MARKS below m -/
def pth (m : Nat) (E : Nat → Nat → Prop) : Nat → Nat → Prop
  | 0, _ => True
  | n + 1, x => ∃ y, y < m ∧ E x y ∧ pth m E n y
theorem pth_s {m : Nat} {E : Nat → Nat → Prop} : ∀ {n x}, pth m E (n + 1) x → pth m E n x
  | 0, _, _ => trivial
  | n + 1, _, ⟨y, h1, h2, h3⟩ => ⟨y, h1, h2, pth_s h3⟩
theorem pth_le {m : Nat} {E : Nat → Nat → Prop} {n n' x : Nat} (h : pth m E n x) (hn : n' ≤ n) : pth m E n' x := by
  obtain ⟨k, rfl⟩ := Nat.exists_eq_add_of_le hn
  induction k with
  | zero => exact h
  | succ k ih => exact ih (pth_s h) (by omega)
section LD
variable {M m : Nat} {s : zS} {b : Nat → Nat} {E : Nat → Nat → Prop}
theorem l_into (h2 : s 2 0 = nI m) (hm : m ≤ 12) (hb : ∀ a, a < 12 → s 7 a = nI (b a) ∧ b a < 2 ^ 12) {A : Nat} (hA : A < 2 ^ 12) : ∀ d k R K, k + d = m → d < K → R < 2 ^ 12 →
    ∃ R', l_X0_leadingInto M K s (nI A) (nI R) (nI k) = some (nI R') ∧ R' < 2 ^ 12 ∧ ∀ a, a < 12 → (R'.testBit a = true ↔ (R.testBit a = true ∨ (k ≤ a ∧ a < m ∧ ∃ c, c < 12 ∧ (b a).testBit c = true ∧ A.testBit c = true))) := by
  intro d
  induction d with
  | zero =>
    intro k R K hk hK hR
    obtain ⟨K, rfl⟩ : ∃ K', K = K' + 1 := ⟨K - 1, by omega⟩
    rw [l_X0_leadingInto, h2, if_neg (nI_nlt (by omega) (by omega))]
    refine ⟨R, rfl, hR, fun a _ => ⟨Or.inl, fun z => z.elim id (fun z => absurd z.2.1 (by omega))⟩⟩
  | succ d ih =>
    intro k R K hk hK hR
    obtain ⟨K, rfl⟩ : ∃ K', K = K' + 1 := ⟨K - 1, by omega⟩
    obtain ⟨b1, b2⟩ := hb k (by omega)
    rw [l_X0_leadingInto, h2, if_pos (nI_lt (by omega) (by omega)), zin_t (show k < 12 by omega), zq_t, zcl (n := k) (by omega), b1, b_and, b_shl (by omega), b_or, nI_add]
    have hlt : b k &&& A < 2 ^ 12 := Nat.lt_of_le_of_lt Nat.and_le_left b2
    by_cases c : b k &&& A = 0
    · rw [c, if_pos b_00]
      obtain ⟨R', r1, r2, r3⟩ := ih (k + 1) R K (by omega) (by omega) hR
      refine ⟨R', r1, r2, fun a ha => (r3 a ha).trans ⟨fun z => z.imp id (fun z => ⟨by omega, z.2⟩), fun z => z.imp id (fun z => ?_)⟩⟩
      refine ⟨?_, z.2⟩
      rcases Nat.lt_or_ge k a with h | h
      · exact h
      · exfalso
        obtain ⟨hk2, -, c', -, c2, c3⟩ := z
        have e : a = k := by omega
        subst e
        have := congrArg (fun n => n.testBit c') c
        simp only [Nat.testBit_and, c2, c3, Nat.zero_testBit] at this
        exact absurd this (by decide)
    · rw [if_neg (show ¬ nI (b k &&& A) = 0 from fun z => c (nI_inj (by omega) (by omega) z))]
      obtain ⟨R', r1, r2, r3⟩ := ih (k + 1) (R ||| 2 ^ k) K (by omega) (by omega) (Nat.or_lt_two_pow hR (p2_12 (by omega)))
      refine ⟨R', r1, r2, fun a ha => (r3 a ha).trans ?_⟩
      rw [Nat.testBit_or, Nat.testBit_two_pow, Bool.or_eq_true, decide_eq_true_eq]
      constructor
      · rintro ((z | z) | z)
        · exact Or.inl z
        · subst z
          refine Or.inr ⟨Nat.le_refl k, by omega, ?_⟩
          apply Classical.byContradiction
          intro hn
          apply c
          apply Nat.eq_of_testBit_eq
          intro i
          rw [Nat.testBit_and, Nat.zero_testBit]
          by_cases hi : i < 12
          · by_cases q1 : (b k).testBit i = true
            · by_cases q2 : A.testBit i = true
              · exact absurd ⟨i, hi, q1, q2⟩ hn
              · simp [q2]
            · simp [q1]
          · rw [Nat.testBit_lt_two_pow (Nat.lt_of_lt_of_le hA (Nat.pow_le_pow_right (by omega) (by omega)))]
            simp
        · exact Or.inr ⟨by omega, z.2⟩
      · rintro (z | z)
        · exact Or.inl (Or.inl z)
        · rcases Nat.lt_or_ge k a with h | h
          · exact Or.inr ⟨h, z.2⟩
          · exact Or.inl (Or.inr (by omega))
theorem c_into (h2 : s 2 0 = nI m) (hm : m ≤ 12) (hM : 100 < M) (hb : ∀ a, a < 12 → s 7 a = nI (b a) ∧ b a < 2 ^ 12) (hE : ∀ a c, a < 12 → c < 12 → ((b a).testBit c = true ↔ E a c)) {A n : Nat} (hA : A < 2 ^ 12) (hAp : ∀ a, a < 12 → (A.testBit a = true ↔ (a < m ∧ pth m E n a))) :
    ∃ R, f_X0_leadingInto M s (nI A) = some (nI R) ∧ R < 2 ^ 12 ∧ ∀ a, a < 12 → (R.testBit a = true ↔ (a < m ∧ pth m E (n + 1) a)) := by
  unfold f_X0_leadingInto
  obtain ⟨R, r1, r2, r3⟩ := l_into (M := M) h2 hm hb hA m 0 0 M (by omega) (by omega) (by omega)
  refine ⟨R, r1, r2, fun a ha => (r3 a ha).trans ?_⟩
  rw [Nat.zero_testBit]
  constructor
  · rintro (z | ⟨-, z1, c, z2, z3, z4⟩)
    · exact absurd z (by decide)
    · have := (hAp c z2).mp z4
      exact ⟨z1, c, this.1, (hE a c ha z2).mp z3, this.2⟩
  · rintro ⟨z1, c, z2, z3, z4⟩
    exact Or.inr ⟨by omega, z1, c, by omega, (hE a c ha (by omega)).mpr z3, (hAp c (by omega)).mpr ⟨z2, z4⟩⟩
end LD
/-- would lead too far, as the class says it -/
theorem c_far {M m v u : Nat} (hM : 100 < M) {s t : zS} (hA : iA m (s 2) (s 3) (s 4) (s 5) (s 6) (s 8) (s 9) (s 12) (s 13) (s 14) (t 0) (t 1) (t 2) (t 3) (t 6) (t 4) (t 5) (t 7) (t 8) (t 9)) (hC : iC v u (s 7) (s 10) (s 11) (t 6) (t 8) (t 16) (t 17) (t 34)) {j : Nat} (hj : j < m) {x : Int32} (hx : kOK m x) :
    ((∀ a, a < m → ¬ pth m (fun a c => edg (t 6) (t 8) a c ∨ (a = j ∧ x = nI (10 + c))) 3 a) ∧ f_X0_wouldLeadTooFar M s (nI j) x = some (nI 0, s)) ∨
    ((¬ ∀ a, a < m → ¬ pth m (fun a c => edg (t 6) (t 8) a c ∨ (a = j ∧ x = nI (10 + c))) 3 a) ∧ f_X0_wouldLeadTooFar M s (nI j) x = some (nI 1, s)) := by
  obtain ⟨⟨b, hb⟩, -⟩ := hC
  have a1 := hA.1
  obtain ⟨l, hl, el, bl⟩ : ∃ l, l < 2 ^ 12 ∧ f_X0_leadOf M s x = some (nI l) ∧ ∀ c, c < 12 → (l.testBit c = true ↔ x = nI (10 + c)) := by
    unfold f_X0_leadOf
    rcases hx with ⟨c, hc, rfl⟩ | ⟨c, hc, rfl⟩
    · rw [if_pos (nI_lt (by omega) (by omega))]
      refine ⟨0, by omega, rfl, fun c' hc' => ?_⟩
      rw [Nat.zero_testBit]
      exact ⟨fun z => absurd z (by decide), fun z => absurd (nI_inj (by omega) (by omega) z) (by omega)⟩
    · rw [if_neg (nI_nlt (by omega) (by omega)), pk_sub (by omega), Nat.add_sub_cancel_left, b_shl (by omega)]
      refine ⟨2 ^ c, p2_12 (by omega), rfl, fun c' hc' => ?_⟩
      rw [Nat.testBit_two_pow, decide_eq_true_eq]
      exact ⟨fun z => by rw [z], fun z => by have := nI_inj (by omega) (by omega) z; omega⟩
  obtain ⟨b1, b2, b3⟩ := hb j (by omega)
  let b' : Nat → Nat := fun a => if a = j then b j ||| l else b a
  have hb' : ∀ a, a < 12 → (zup s 7 j (nI (b j ||| l))) 7 a = nI (b' a) ∧ b' a < 2 ^ 12 := by
    intro a ha
    rw [zup_s]
    by_cases c : a = j
    · rw [c, upd_s]
      have e : b' j = b j ||| l := if_pos rfl
      rw [e]
      exact ⟨rfl, Nat.or_lt_two_pow (by omega) hl⟩
    · rw [upd_n _ _ c]
      simp only [b', if_neg c]
      obtain ⟨g1, g2, -⟩ := hb a ha
      exact ⟨g1, by omega⟩
  have hE : ∀ a c, a < 12 → c < 12 → ((b' a).testBit c = true ↔ (edg (t 6) (t 8) a c ∨ (a = j ∧ x = nI (10 + c)))) := by
    intro a c ha hc
    by_cases e : a = j
    · simp only [b', if_pos e]
      rw [Nat.testBit_or, Bool.or_eq_true, b3 c hc, bl c hc, e]
      exact ⟨fun z => z.imp id (fun z => ⟨rfl, z⟩), fun z => z.imp id (fun z => z.2)⟩
    · simp only [b', if_neg e]
      rw [(hb a ha).2.2 c hc]
      exact ⟨Or.inl, fun z => z.elim id (fun z => absurd z.1 e)⟩
  have h2 : (zup s 7 j (nI (b j ||| l))) 2 0 = nI m := hA.2.1
  have m12 : 2 ^ m ≤ 2 ^ 12 := Nat.pow_le_pow_right (by omega) a1
  have m0 : 1 ≤ 2 ^ m := Nat.one_le_two_pow
  obtain ⟨R1, r1, r2, r3⟩ := c_into (M := M) (n := 0) (E := fun a c => edg (t 6) (t 8) a c ∨ (a = j ∧ x = nI (10 + c))) h2 a1 (by omega) hb' hE (A := 2 ^ m - 1) (by omega) (fun a _ => by
    rw [Nat.testBit_two_pow_sub_one, decide_eq_true_eq]
    exact ⟨fun z => ⟨z, trivial⟩, fun z => z.1⟩)
  obtain ⟨R2, r4, r5, r6⟩ := c_into (M := M) h2 a1 (by omega) hb' hE r2 r3
  obtain ⟨R3, r7, r8, r9⟩ := c_into (M := M) h2 a1 (by omega) hb' hE r5 r6
  have back : zup (zup s 7 j (nI (b j ||| l))) 7 j (nI (b j)) = s := by
    funext r i
    unfold zup upd
    by_cases c : r = 7
    · subst c
      by_cases c2 : i = j
      · subst c2
        simp [b1]
      · simp [c2]
    · simp [c]
  have e : f_X0_wouldLeadTooFar M s (nI j) x = if nI R3 = 0 then some (nI 0, s) else some (nI 1, s) := by
    unfold f_X0_wouldLeadTooFar
    rw [zin_t (show j < 12 by omega), zcl (n := j) (by omega), el, b1, hA.2.1, b_shl a1, pk_sub m0]
    simp only [zq_t, zbd_s, b_or]
    obtain ⟨K, hK⟩ : ∃ K, M = K + 1 + 1 + 1 + 1 := ⟨M - 4, by omega⟩
    have go : ∀ K', K' = K + 1 + 1 + 1 + 1 → l_X0_wouldLeadTooFar M K' (zup s 7 j (nI (b j ||| l))) (nI j) (nI (b j)) (nI (2 ^ m - 1)) (nI 0) = if nI R3 = 0 then some (nI 0, s) else some (nI 1, s) := by
      intro K' e
      subst e
      rw [l_X0_wouldLeadTooFar, if_neg (by decide), r1, zbd_s, l_X0_wouldLeadTooFar, if_neg (by decide), r4, zbd_s, l_X0_wouldLeadTooFar, if_neg (by decide), r7, zbd_s, l_X0_wouldLeadTooFar, if_pos (by decide), zin_t (show j < 12 by omega), zq_t, zcl (n := j) (by omega), back]
    exact go M hK
  rw [e]
  by_cases c : R3 = 0
  · left
    rw [c, if_pos b_00]
    refine ⟨fun a ha hp => ?_, rfl⟩
    have := (r9 a (by omega)).mpr ⟨ha, hp⟩
    rw [c, Nat.zero_testBit] at this
    exact absurd this (by decide)
  · right
    rw [if_neg (show ¬ nI R3 = 0 from fun z => c (nI_inj (by omega) (by omega) z))]
    refine ⟨fun z => c ?_, rfl⟩
    apply Nat.eq_of_testBit_eq
    intro i
    rw [Nat.zero_testBit]
    by_cases hi : i < 12
    · apply Bool.eq_false_iff.mpr
      intro q
      have := (r9 i hi).mp q
      exact z i this.1 this.2
    · exact Nat.testBit_lt_two_pow (Nat.lt_of_lt_of_le r8 (Nat.pow_le_pow_right (by omega) (by omega)))
