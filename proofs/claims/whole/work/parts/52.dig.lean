/-! digits. -/
set_option maxRecDepth 100000 in
theorem by_ch' : ∀ k : Fin 128, zbn 2 (nI k.val).toInt8.toInt32 = nI k.val := by decide
theorem by_ch {k : Nat} (h : k < 128) : zbn 2 (nI k).toInt8.toInt32 = nI k := by_ch' ⟨k, h⟩
def lI (n : Nat) : Int64 := Int64.ofNat n
theorem lI_i {n : Nat} (h : n < 2 ^ 62) : (lI n).toInt = n := Int64.toInt_ofNat_of_lt (by omega)
theorem l10 : (10 : Int64).toInt = 10 := by decide
theorem lI_div {n : Nat} (h : n < 2 ^ 62) : lI n / 10 = lI (n / 10) := by
  apply Int64.toInt_inj.mp
  rw [Int64.toInt_div, lI_i h, lI_i (by omega), l10]
  have e : (n : Int).tdiv 10 = ((n / 10 : Nat) : Int) := by
    rw [Int.tdiv_eq_ediv_of_nonneg (by omega)]
    omega
  rw [e]
  exact Int.bmod_eq_of_le (by omega) (by omega)
theorem lI_mod {n : Nat} (h : n < 2 ^ 62) : (lI n - lI n / 10 * 10).toInt32 = nI (n % 10) := by
  apply Int32.toInt_inj.mp
  have b1 : ((n / 10 : Nat) : Int) * 10 = ((n / 10 * 10 : Nat) : Int) := by omega
  rw [Int64.toInt_toInt32, Int64.toInt_sub, Int64.toInt_mul, lI_div h, lI_i h, lI_i (by omega), l10, b1, Int.bmod_eq_of_le (n := ((n / 10 * 10 : Nat) : Int)) (by omega) (by omega), Int.bmod_eq_of_le (m := 2 ^ 64) (by omega) (by omega), Int.bmod_eq_of_le (by omega) (by omega), nI_toInt (by omega)]
  omega
theorem lI_cmp {n : Nat} (h : n < 2 ^ 62) : (0 < lg_cmp (lI n) (Int64.ofNat ((0 : Fin 2) : Nat))) ↔ 0 < n := by
  unfold lg_cmp
  have e0 : (Int64.ofNat ((0 : Fin 2) : Nat)).toInt = 0 := by decide
  have e1 : (lI n > Int64.ofNat ((0 : Fin 2) : Nat)) ↔ 0 < n := by
    show Int64.ofNat ((0 : Fin 2) : Nat) < lI n ↔ _
    rw [Int64.lt_iff_toInt_lt, e0, lI_i h]
    omega
  by_cases c : 0 < n
  · rw [if_pos (e1.mpr c)]
    exact ⟨fun _ => c, fun _ => by decide⟩
  · rw [if_neg (fun z => c (e1.mp z))]
    constructor
    · intro z
      exfalso
      revert z
      split <;> decide
    · exact fun z => absurd z c
/-- how far from 0 -/
def ab (x : Int32) : Nat := x.toInt.natAbs
theorem ab_lt (x : Int32) : ab x ≤ 2 ^ 31 := by
  have h1 := Int32.toInt_lt x
  have h2 := Int32.le_toInt x
  unfold ab
  omega
theorem i0 : ((0 : Int32).toInt) = 0 := by decide
theorem ab_c (x : Int32) : (if 0 < x.toInt64 then x.toInt64 else -x.toInt64) = lI (ab x) := by
  have h1 := Int32.toInt_lt x
  have h2 := Int32.le_toInt x
  have hb := ab_lt x
  have z0 : ((0 : Int64).toInt) = 0 := by decide
  apply Int64.toInt_inj.mp
  rw [lI_i (by omega)]
  unfold ab
  by_cases c : 0 < x.toInt64
  · rw [if_pos c, Int32.toInt_toInt64]
    rw [Int64.lt_iff_toInt_lt, z0, Int32.toInt_toInt64] at c
    omega
  · rw [if_neg c, Int64.toInt_neg, Int32.toInt_toInt64, Int.bmod_eq_of_le (by omega) (by omega)]
    rw [Int64.lt_iff_toInt_lt, z0, Int32.toInt_toInt64] at c
    omega
theorem ab_n {x : Int32} (h : x < 0) : -x.toInt64 = lI (ab x) := by
  have h1 := Int32.toInt_lt x
  have h2 := Int32.le_toInt x
  have hb := ab_lt x
  rw [Int32.lt_iff_toInt_lt, i0] at h
  apply Int64.toInt_inj.mp
  rw [lI_i (by omega), Int64.toInt_neg, Int32.toInt_toInt64, Int.bmod_eq_of_le (by omega) (by omega)]
  unfold ab
  omega
theorem ab_p {x : Int32} (h : ¬ x < 0) : x.toInt64 = lI (ab x) := by
  have hb := ab_lt x
  rw [Int32.lt_iff_toInt_lt, i0] at h
  apply Int64.toInt_inj.mp
  rw [lI_i (by omega), Int32.toInt_toInt64]
  unfold ab
  omega
/-- digits, the last first -/
def dga : Nat → Nat → List Nat
  | 0, _ => []
  | f + 1, r => r % 10 :: (if r / 10 = 0 then [] else dga f (r / 10))
theorem dga_d : ∀ f r, ∀ d ∈ dga f r, d < 10
  | 0, _ => by intro d h; cases h
  | f + 1, r => by
    intro d h
    unfold dga at h
    rcases List.mem_cons.mp h with h | h
    · omega
    · by_cases c : r / 10 = 0
      · rw [if_pos c] at h
        cases h
      · rw [if_neg c] at h
        exact dga_d f _ d h
theorem dga_l : ∀ f r, (dga f r).length ≤ f
  | 0, _ => Nat.le_refl 0
  | f + 1, r => by
    unfold dga
    by_cases c : r / 10 = 0
    · rw [if_pos c]
      simp
    · rw [if_neg c]
      have := dga_l f (r / 10)
      simp only [List.length_cons]
      omega
def dgs (r : Nat) : List Int32 := (dga 10 r).reverse.map (fun d => nI (48 + d))
def num (x : Int32) : List Int32 := (if x < 0 then [nI 45] else []) ++ dgs (ab x)
theorem num_l (x : Int32) : (num x).length ≤ 11 := by
  have := dga_l 10 (ab x)
  unfold num dgs
  by_cases c : x < 0
  · rw [if_pos c]
    simp
    omega
  · rw [if_neg c]
    simp
    omega
theorem num_1 {n : Nat} (h : n ≤ 9) : num (nI n) = [nI (48 + n)] := by
  rcases (show n = 0 ∨ n = 1 ∨ n = 2 ∨ n = 3 ∨ n = 4 ∨ n = 5 ∨ n = 6 ∨ n = 7 ∨ n = 8 ∨ n = 9 by omega) with rfl | rfl | rfl | rfl | rfl | rfl | rfl | rfl | rfl | rfl <;> decide
