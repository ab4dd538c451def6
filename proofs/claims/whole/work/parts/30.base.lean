/-! THE PURE PART: numbers, and what class and reference have in common (Inv). -/
theorem zix (x : Int32) (n : Nat) : (∃ j, j < n ∧ x = nI j) ∨ ∀ j, j < n → x ≠ nI j := by
  by_cases h : ∃ j, j < n ∧ x = nI j
  · exact Or.inl h
  · exact Or.inr (fun j hj e => h ⟨j, hj, e⟩)
theorem zix_out {x : Int32} {n : Nat} (hn : n < 2 ^ 31) (h : ∀ j, j < n → x ≠ nI j) : x < 0 ∨ ¬ x < nI n := by
  rcases pk_ix x hn with h1 | h1 | ⟨j, hj, e⟩
  · exact Or.inl h1
  · exact Or.inr (Int32.not_lt.mpr h1)
  · exact absurd e (h j hj)
theorem zin_t {n N : Nat} (h : n < N) (hN : N < 2 ^ 31 := by decide) : zin (nI n) N = true := by
  unfold zin
  have h1 : ¬ nI n < 0 := nI_pos (by omega)
  rw [nI_clamp (by omega)]
  simp [h1, h]
theorem zcl {n : Nat} (h : n < 2 ^ 31) : (nI n).toNatClampNeg = n := nI_clamp h
theorem nI_inj {a b : Nat} (ha : a < 2 ^ 31) (hb : b < 2 ^ 31) (h : nI a = nI b) : a = b := (nI_eq ha hb).mp h
theorem nI_m1 {a : Nat} (ha : a < 2 ^ 31) : nI a ≠ -1 := by
  intro h
  have h1 := nI_toInt ha
  rw [h] at h1
  have h2 : (-1 : Int32).toInt = -1 := by decide
  omega
theorem nI_sub1 (n : Nat) : nI (n + 1) - nI 1 = nI n := by
  rw [pk_sub (by omega)]
  rfl
theorem zbd_s {α β : Type} (a : α) (f : α → Option β) : zbd (some a) f = f a := rfl
theorem zq_t {α : Type} (o : Option α) : zq true o = o := rfl
theorem zup_s (s : zS) (r j : Nat) (v : Int32) : zup s r j v r = upd (s r) j v := by simp [zup]
theorem zup_n (s : zS) {r r' : Nat} (j : Nat) (v : Int32) (h : r' ≠ r) : zup s r j v r' = s r' := by simp [zup, h]
theorem upd_s (f : Nat → Int32) (j : Nat) (v : Int32) : upd f j v j = v := by simp [upd]
theorem upd_n (f : Nat → Int32) {j i : Nat} (v : Int32) (h : i ≠ j) : upd f j v i = f i := by simp [upd, h]
def zeq (n : Nat) (f g : Nat → Int32) : Prop := ∀ j, j < n → f j = g j
theorem zeq_upd {n : Nat} {f g : Nat → Int32} (h : zeq n f g) (k : Nat) (v : Int32) : zeq n (upd f k v) (upd g k v) := by
  intro j hj
  by_cases e : j = k
  · rw [e, upd_s, upd_s]
  · rw [upd_n _ _ e, upd_n _ _ e]
    exact h j hj
/-- how many ELEMENTS a MARK has -/
def enn (el : Nat → Int32) (j : Nat) : Nat := (el j).toNatClampNeg
theorem enn_of {el : Nat → Int32} {j e : Nat} (h : el j = nI e) (he : e ≤ 5) : enn el j = e := by
  unfold enn
  rw [h, zcl (by omega)]
/-- a KIND that there is, with m MARKS -/
def kOK (m : Nat) (k : Int32) : Prop := (∃ c, c < 4 ∧ k = nI c) ∨ ∃ c, c < m ∧ k = nI (10 + c)
/-- MARK j has an ELEMENT of MARK c -/
def edg (el ek : Nat → Int32) (j c : Nat) : Prop := ∃ e, e < enn el j ∧ ek (5 * j + e) = nI (10 + c)
/-- a VALUE of a KIND that is no ROW; the VALUE that an ELEMENT takes; one that never changes any more -/
def isK (so ki : Nat → Int32) (y : Nat) (k : Int32) : Prop := (so y = nI 0 ∧ ki y = k) ∨ (so y = nI 2 ∧ k = nI 10 + ki y)
def fts (so ki ek er : Nat → Int32) (y i : Nat) : Prop := (er i ≠ 0 ∧ so y = nI 1 ∧ ki y = ek i) ∨ (er i = 0 ∧ isK so ki y (ek i))
def fin (so dn : Nat → Int32) (y : Nat) : Prop := so y = nI 0 ∨ dn y = nI 1
/-- what an INSTANCE's ELEMENT e has: given, or by DEFAULT -/
def inn (t17 t20 t10 : Nat → Int32) (x e : Nat) : Int32 := if t20 (5 * x + e) = -1 then t10 (5 * (t17 x).toNatClampNeg + e) else t20 (5 * x + e)
/-- WHOLE, looked at n deep -/
def whl (t16 t17 t18 t20 t6 t10 : Nat → Int32) : Nat → Nat → Prop
  | 0, x => t16 x = nI 0
  | n + 1, x => t16 x = nI 0 ∨ (t16 x = nI 1 ∧ ∀ e, e < (t18 x).toNatClampNeg → whl t16 t17 t18 t20 t6 t10 n (t20 (5 * x + e)).toNatClampNeg) ∨ (t16 x = nI 2 ∧ ∀ e, e < enn t6 (t17 x).toNatClampNeg → inn t17 t20 t10 x e ≠ -1 ∧ whl t16 t17 t18 t20 t6 t10 n (inn t17 t20 t10 x e).toNatClampNeg)
def iA (m : Nat) (s2 s3 s4 s5 s6 s8 s9 s12 s13 s14 t0 t1 t2 t3 t6 t4 t5 t7 t8 t9 : Nat → Int32) : Prop := m ≤ 12 ∧ s2 0 = nI m ∧ t0 0 = nI m ∧ zeq 12 s3 t1 ∧ zeq 12 s4 t2 ∧ zeq 12 s5 t3 ∧ zeq 12 s6 t6 ∧ zeq 12 s8 t4 ∧ zeq 12 s9 t5 ∧ zeq 60 s12 t7 ∧ zeq 60 s13 t8 ∧ zeq 60 s14 t9
def iB (m : Nat) (el en ek co cd : Nat → Int32) : Prop :=
  (∀ j, j < 12 → ∃ e, e ≤ 5 ∧ el j = nI e) ∧ (∀ j, m ≤ j → j < 12 → el j = nI 0 ∧ co j = -1 ∧ cd j = -1) ∧ (∀ j, j < 12 → co j = -1 ∨ ∃ c, c < m ∧ co j = nI c) ∧ (∀ j, j < 12 → cd j = -1 ∨ ∃ c, c < m ∧ cd j = nI c) ∧
  (∀ j e, j < m → e < enn el j → kOK m (ek (5 * j + e)) ∧ ∃ n, n ≤ 9 ∧ en (5 * j + e) = nI n) ∧ (∀ j e e', j < m → e < enn el j → e' < enn el j → en (5 * j + e) = en (5 * j + e') → e = e') ∧ (∀ a b c d, a < 12 → b < 12 → c < 12 → d < 12 → ¬ (edg el ek a b ∧ edg el ek b c ∧ edg el ek c d))
/-- the class's own bits and flags -/
def iC (v u : Nat) (s7 s10 s11 t6 t8 t16 t17 t34 : Nat → Int32) : Prop := (∃ b : Nat → Nat, ∀ j, j < 12 → s7 j = nI (b j) ∧ b j < 4096 ∧ ∀ c, c < 12 → ((b j).testBit c = true ↔ edg t6 t8 j c)) ∧
  (∀ j, j < 12 → (s10 j = nI 1 ∧ ∃ x, x < v ∧ t16 x = nI 2 ∧ t17 x = nI j) ∨ (s10 j = nI 0 ∧ ∀ x, x < v → ¬ (t16 x = nI 2 ∧ t17 x = nI j))) ∧
  (∀ j, j < 12 → (s11 j = nI 1 ∧ ∃ k, k < u ∧ t17 (t34 k).toNatClampNeg = nI j) ∨ (s11 j = nI 0 ∧ ∀ k, k < u → ¬ t17 (t34 k).toNatClampNeg = nI j))
def iD (p : Nat) (s16 s17 s18 t12 t13 t14 : Nat → Int32) : Prop := p ≤ 40 ∧ s16 0 = nI p ∧ t12 0 = nI p ∧ zeq 40 s17 t13 ∧ zeq 40 s18 t14 ∧ ∀ j, j < p → ∃ k, k ≤ 5 ∧ t13 j = nI k ∧ (k = 0 → t14 j = -1 ∨ ∃ q, q < j ∧ t14 j = nI q ∧ t13 q = nI 0)
def iE (v : Nat) (s19 s20 s21 s22 s23 s24 t15 t16 t17 t18 t19 t20 : Nat → Int32) : Prop := v ≤ 100 ∧ s19 0 = nI v ∧ t15 0 = nI v ∧ zeq 100 s20 t16 ∧ zeq 100 s22 t18 ∧ zeq 100 s23 t19 ∧ zeq (5 * v) s24 t20 ∧ (∀ j, 5 * v ≤ j → j < 500 → s24 j = -1) ∧ (∀ j, j < v → s21 j = if t16 j = nI 2 then nI 10 + t17 j else t17 j) ∧ (∀ j, v ≤ j → j < 100 → s23 j = nI 0)
/-- what a VALUE may be -/
def iF (m v : Nat) (t6 t8 t9 t16 t17 t18 t19 t20 : Nat → Int32) : Prop := ∀ x, x < v → (t19 x = nI 0 ∨ t19 x = nI 1) ∧ ((t16 x = nI 0 ∧ ∃ c, c < 4 ∧ t17 x = nI c) ∨
  (t16 x = nI 1 ∧ kOK m (t17 x) ∧ ∃ n, n ≤ 4 ∧ t18 x = nI n ∧ ∀ e, e < n → ∃ y, y < v ∧ t20 (5 * x + e) = nI y ∧ isK t16 t17 y (t17 x) ∧ fin t16 t19 y) ∨
  (t16 x = nI 2 ∧ ∃ j, j < m ∧ t17 x = nI j ∧ ∀ e, e < enn t6 j → t20 (5 * x + e) = -1 ∨ ∃ y, y < v ∧ t20 (5 * x + e) = nI y ∧ fts t16 t17 t8 t9 y (5 * j + e) ∧ fin t16 t19 y))
def iG (m v : Nat) (s15 t6 t8 t9 t10 t16 t17 t18 t19 t20 : Nat → Int32) : Prop := (∀ j e, j < m → e < enn t6 j → s15 (5 * j + e) = t10 (5 * j + e) ∧ (t10 (5 * j + e) = -1 ∨ ∃ y, y < v ∧ t10 (5 * j + e) = nI y ∧ fts t16 t17 t8 t9 y (5 * j + e) ∧ fin t16 t19 y ∧ whl t16 t17 t18 t20 t6 t10 8 y)) ∧
  (∀ j e, j < 12 → enn t6 j ≤ e → e < 5 → s15 (5 * j + e) = -1)
/-- how many are DONE -/
def dnc (dn : Nat → Int32) : Nat → Nat
  | 0 => 0
  | n + 1 => dnc dn n + if dn n = nI 1 then 1 else 0
def iH (v u : Nat) (s25 s26 s27 s28 t16 t17 t19 t32 t33 t34 : Nat → Int32) : Prop := u ≤ dnc t19 v ∧ s25 0 = nI u ∧ t32 0 = nI u ∧ zeq u s26 t33 ∧ zeq u s28 t34 ∧ ∀ k, k < u → ∃ x, x < v ∧ t34 k = nI x ∧ t16 x = nI 2 ∧ s27 k = t17 x ∧ t19 x = nI 1
def iJ (s0 s1 t21 t22 : Nat → Int32) : Prop := zeq 4 s0 t22 ∧ s1 0 = t21 0
def iK (s29 s30 t27 t28 : Nat → Int32) : Prop := ∃ l, l ≤ 2000 ∧ s30 0 = nI l ∧ t27 0 = nI l ∧ zeq l s29 t28
/-- how many of n places -/
def hmc (f : Nat → Bool) : Nat → Nat
  | 0 => 0
  | n + 1 => hmc f n + if f n = true then 1 else 0
theorem hmc_c {f g : Nat → Bool} : ∀ n, (∀ j, j < n → f j = g j) → hmc f n = hmc g n
  | 0, _ => rfl
  | n + 1, h => by
    unfold hmc
    rw [hmc_c n (fun j hj => h j (by omega)), h n (by omega)]
theorem hmc_le (f : Nat → Bool) : ∀ n, hmc f n ≤ n
  | 0 => Nat.le_refl 0
  | n + 1 => by
    have := hmc_le f n
    unfold hmc
    split <;> omega
/-- CONTAINERS are as they have to be; at most 4 of a MARK at a PLACE -/
def iL (t2 t4 t5 t6 t7 t9 : Nat → Int32) : Prop := (∀ j, j < 12 → ∃ k, k ≤ 2 ∧ t2 j = nI k) ∧ ∀ j c, j < 12 → c < 12 → t4 j = nI c → t5 c ≠ -1 ∧ ¬ t2 c < t2 j ∧ ∃ e, e < enn t6 c ∧ t7 (5 * c + e) = nI 0 ∧ t9 (5 * c + e) ≠ 0
def iM (u : Nat) (t17 t33 t34 : Nat → Int32) : Prop := ∀ q j : Int32, hmc (fun k => decide (t33 k = q ∧ t17 (t34 k).toNatClampNeg = j)) u ≤ 4
def Inv (m p v u : Nat) (s t : zS) : Prop := iA m (s 2) (s 3) (s 4) (s 5) (s 6) (s 8) (s 9) (s 12) (s 13) (s 14) (t 0) (t 1) (t 2) (t 3) (t 6) (t 4) (t 5) (t 7) (t 8) (t 9) ∧ iB m (t 6) (t 7) (t 8) (t 4) (t 5) ∧ iC v u (s 7) (s 10) (s 11) (t 6) (t 8) (t 16) (t 17) (t 34) ∧ iD p (s 16) (s 17) (s 18) (t 12) (t 13) (t 14) ∧ iE v (s 19) (s 20) (s 21) (s 22) (s 23) (s 24) (t 15) (t 16) (t 17) (t 18) (t 19) (t 20) ∧ iF m v (t 6) (t 8) (t 9) (t 16) (t 17) (t 18) (t 19) (t 20) ∧ iG m v (s 15) (t 6) (t 8) (t 9) (t 10) (t 16) (t 17) (t 18) (t 19) (t 20) ∧ iH v u (s 25) (s 26) (s 27) (s 28) (t 16) (t 17) (t 19) (t 32) (t 33) (t 34) ∧ iJ (s 0) (s 1) (t 21) (t 22) ∧ iK (s 29) (s 30) (t 27) (t 28) ∧ iL (t 2) (t 4) (t 5) (t 6) (t 7) (t 9) ∧ iM u (t 17) (t 33) (t 34)
def Iv (s t : zS) : Prop := ∃ m p v u, Inv m p v u s t
theorem dnc_le (dn : Nat → Int32) : ∀ n, dnc dn n ≤ n
  | 0 => Nat.le_refl 0
  | n + 1 => by
    have := dnc_le dn n
    unfold dnc
    split <;> omega
/-! the simplest answers -/
theorem e_has {s : zS} {r m : Nat} {x : Int32} (hm : s r 0 = nI m) (hm2 : m < 1000) : (if x < 0 then some (nI 0) else if x < (s r 0) then some (nI 1) else some (nI 0)) = some (nI 1) ∧ (∃ j, j < m ∧ x = nI j) ∨ (if x < 0 then some (nI 0) else if x < (s r 0) then some (nI 1) else some (nI 0)) = some (nI 0) ∧ ∀ j, j < m → x ≠ nI j := by
  rw [hm]
  rcases zix x m with ⟨j, hj, rfl⟩ | hx
  · left
    rw [if_neg (nI_pos (by omega)), if_pos (nI_lt hj (by omega))]
    exact ⟨rfl, j, hj, rfl⟩
  · right
    refine ⟨?_, hx⟩
    rcases zix_out (by omega) hx with h | h
    · rw [if_pos h]
    · by_cases h0 : x < 0
      · rw [if_pos h0]
      · rw [if_neg h0, if_neg h]
theorem b_10 : ¬ (nI 1 : Int32) = 0 := by decide
theorem b_00 : (nI 0 : Int32) = 0 := rfl
theorem c_has {M m : Nat} {s t : zS} (hA : iA m (s 2) (s 3) (s 4) (s 5) (s 6) (s 8) (s 9) (s 12) (s 13) (s 14) (t 0) (t 1) (t 2) (t 3) (t 6) (t 4) (t 5) (t 7) (t 8) (t 9)) (x : Int32) : (f_X0_has M s x = some (nI 1) ∧ f_X6_isMark M t x = some (nI 1) ∧ ∃ j, j < m ∧ x = nI j) ∨ (f_X0_has M s x = some (nI 0) ∧ f_X6_isMark M t x = some (nI 0) ∧ ∀ j, j < m → x ≠ nI j) := by
  obtain ⟨h0, h1, h2, -⟩ := hA
  unfold f_X0_has f_X6_isMark
  rcases e_has (x := x) h1 (by omega) with ⟨a, b⟩ | ⟨a, b⟩
  · rcases e_has (x := x) h2 (by omega) with ⟨c, d⟩ | ⟨c, d⟩
    · exact Or.inl ⟨a, c, b⟩
    · obtain ⟨j, hj, e⟩ := b
      exact absurd e (d j hj)
  · rcases e_has (x := x) h2 (by omega) with ⟨c, d⟩ | ⟨c, d⟩
    · obtain ⟨j, hj, e⟩ := d
      exact absurd e (b j hj)
    · exact Or.inr ⟨a, c, b⟩
theorem c_plc {M p : Nat} {s t : zS} (hD : iD p (s 16) (s 17) (s 18) (t 12) (t 13) (t 14)) (x : Int32) : (f_X1_has M s x = some (nI 1) ∧ f_X6_isPlace M t x = some (nI 1) ∧ ∃ j, j < p ∧ x = nI j) ∨ (f_X1_has M s x = some (nI 0) ∧ f_X6_isPlace M t x = some (nI 0) ∧ ∀ j, j < p → x ≠ nI j) := by
  obtain ⟨h0, h1, h2, -⟩ := hD
  unfold f_X1_has f_X6_isPlace
  rcases e_has (x := x) h1 (by omega) with ⟨a, b⟩ | ⟨a, b⟩
  · rcases e_has (x := x) h2 (by omega) with ⟨c, d⟩ | ⟨c, d⟩
    · exact Or.inl ⟨a, c, b⟩
    · obtain ⟨j, hj, e⟩ := b
      exact absurd e (d j hj)
  · rcases e_has (x := x) h2 (by omega) with ⟨c, d⟩ | ⟨c, d⟩
    · obtain ⟨j, hj, e⟩ := d
      exact absurd e (b j hj)
    · exact Or.inr ⟨a, c, b⟩
theorem c_val {M v : Nat} {s t : zS} (hE : iE v (s 19) (s 20) (s 21) (s 22) (s 23) (s 24) (t 15) (t 16) (t 17) (t 18) (t 19) (t 20)) (x : Int32) : (f_X3_has M s x = some (nI 1) ∧ f_X6_isValue M t x = some (nI 1) ∧ ∃ j, j < v ∧ x = nI j) ∨ (f_X3_has M s x = some (nI 0) ∧ f_X6_isValue M t x = some (nI 0) ∧ ∀ j, j < v → x ≠ nI j) := by
  obtain ⟨h0, h1, h2, -⟩ := hE
  unfold f_X3_has f_X6_isValue
  rcases e_has (x := x) h1 (by omega) with ⟨a, b⟩ | ⟨a, b⟩
  · rcases e_has (x := x) h2 (by omega) with ⟨c, d⟩ | ⟨c, d⟩
    · exact Or.inl ⟨a, c, b⟩
    · obtain ⟨j, hj, e⟩ := b
      exact absurd e (d j hj)
  · rcases e_has (x := x) h2 (by omega) with ⟨c, d⟩ | ⟨c, d⟩
    · obtain ⟨j, hj, e⟩ := d
      exact absurd e (b j hj)
    · exact Or.inr ⟨a, c, b⟩
