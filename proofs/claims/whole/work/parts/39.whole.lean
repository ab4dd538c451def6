/-! WHOLE: what is within a VALUE; heights; the class's way and the reference's. -/
def wth (t16 t17 t18 t6 : Nat → Int32) (x : Nat) : Nat := if t16 x = nI 1 then (t18 x).toNatClampNeg else if t16 x = nI 2 then enn t6 (t17 x).toNatClampNeg else 0
def kid (t16 t17 t20 t10 : Nat → Int32) (x e : Nat) : Int32 := if t16 x = nI 2 then inn t17 t20 t10 x e else t20 (5 * x + e)
def hgt (t16 t17 t18 t20 t6 t10 : Nat → Int32) : Nat → Nat → Prop
  | 0, x => t16 x = nI 0
  | n + 1, x => ∀ e, e < wth t16 t17 t18 t6 x → kid t16 t17 t20 t10 x e ≠ -1 → hgt t16 t17 t18 t20 t6 t10 n (kid t16 t17 t20 t10 x e).toNatClampNeg
section WH
variable {m v : Nat} {s t : zS}
/-- what is within a VALUE, sort by sort -/
theorem w_kid (hm : m ≤ 12) (hv : v ≤ 100) (hB : iB m (t 6) (t 7) (t 8) (t 4) (t 5)) (hF : iF m v (t 6) (t 8) (t 9) (t 16) (t 17) (t 18) (t 19) (t 20)) (hG : iG m v (s 15) (t 6) (t 8) (t 9) (t 10) (t 16) (t 17) (t 18) (t 19) (t 20)) {x : Nat} (hx : x < v) : wth (t 16) (t 17) (t 18) (t 6) x ≤ 5 ∧ ∀ e, e < wth (t 16) (t 17) (t 18) (t 6) x → kid (t 16) (t 17) (t 20) (t 10) x e = -1 ∨ ∃ y, y < v ∧ kid (t 16) (t 17) (t 20) (t 10) x e = nI y := by
  obtain ⟨-, q⟩ := hF x hx
  unfold wth kid
  rcases q with ⟨q, -⟩ | ⟨q, -, n, hn, en, hc⟩ | ⟨q, j, hj, ej, hc⟩
  · rw [q, if_neg (by decide), if_neg (by decide)]
    exact ⟨by omega, fun e he => absurd he (by omega)⟩
  · rw [q, if_pos rfl, en, zcl (by omega)]
    refine ⟨by omega, fun e he => ?_⟩
    rw [if_neg (by decide)]
    obtain ⟨y, y1, y2, -⟩ := hc e he
    exact Or.inr ⟨y, y1, y2⟩
  · obtain ⟨en, hen, een⟩ := hB.1 j (by omega)
    have eq := enn_of een hen
    rw [q, if_neg (by decide), if_pos rfl, ej, zcl (by omega)]
    refine ⟨by omega, fun e he => ?_⟩
    rw [if_pos rfl]
    rcases c_inn hF hG hm hx hj q ej he with z | ⟨y, y1, y2, -⟩
    · exact Or.inl z
    · exact Or.inr ⟨y, y1, y2⟩
theorem whl_s (hv : v ≤ 100) (hB : iB m (t 6) (t 7) (t 8) (t 4) (t 5)) (hF : iF m v (t 6) (t 8) (t 9) (t 16) (t 17) (t 18) (t 19) (t 20)) {x : Nat} (hx : x < v) (n : Nat) : whl (t 16) (t 17) (t 18) (t 20) (t 6) (t 10) (n + 1) x ↔ ∀ e, e < wth (t 16) (t 17) (t 18) (t 6) x → kid (t 16) (t 17) (t 20) (t 10) x e ≠ -1 ∧ whl (t 16) (t 17) (t 18) (t 20) (t 6) (t 10) n (kid (t 16) (t 17) (t 20) (t 10) x e).toNatClampNeg := by
  obtain ⟨-, q⟩ := hF x hx
  rw [whl]
  unfold wth kid
  rcases q with ⟨q, -⟩ | ⟨q, -, n', hn, en, hc⟩ | ⟨q, j, hj, ej, hc⟩
  · rw [q, if_neg (by decide), if_neg (by decide)]
    exact ⟨fun _ e he => absurd he (by omega), fun _ => Or.inl rfl⟩
  · rw [q, if_pos rfl]
    simp only [n10, n12, false_or, or_false, false_and, true_and, if_false]
    rw [en, zcl (by omega)]
    constructor
    · intro h e he
      obtain ⟨y, y1, y2, -⟩ := hc e he
      refine ⟨?_, h e he⟩
      rw [y2]
      exact nI_m1 (by omega)
    · exact fun h e he => (h e he).2
  · rw [q, if_neg (by decide), if_pos rfl]
    simp only [n20, n21, false_or, false_and, true_and, if_true]
theorem hgt_0 {x : Nat} (h : t 16 x = nI 0) : ∀ n, hgt (t 16) (t 17) (t 18) (t 20) (t 6) (t 10) n x
  | 0 => h
  | n + 1 => by
    unfold hgt wth
    rw [h, if_neg (by decide), if_neg (by decide)]
    exact fun e he => absurd he (by omega)
theorem hgt_s : ∀ {n x : Nat}, hgt (t 16) (t 17) (t 18) (t 20) (t 6) (t 10) n x → hgt (t 16) (t 17) (t 18) (t 20) (t 6) (t 10) (n + 1) x
  | 0, x, h => hgt_0 h 1
  | n + 1, x, h => fun e he hk => hgt_s (h e he hk)
theorem hgt_le {n n' x : Nat} (h : hgt (t 16) (t 17) (t 18) (t 20) (t 6) (t 10) n x) (hn : n ≤ n') : hgt (t 16) (t 17) (t 18) (t 20) (t 6) (t 10) n' x := by
  obtain ⟨k, rfl⟩ := Nat.exists_eq_add_of_le hn
  induction k with
  | zero => exact h
  | succ k ih => exact hgt_s (ih (by omega))
theorem whl_0 {x : Nat} (h : t 16 x = nI 0) : ∀ n, whl (t 16) (t 17) (t 18) (t 20) (t 6) (t 10) n x
  | 0 => h
  | n + 1 => Or.inl h
theorem whl_n (hm : m ≤ 12) (hv : v ≤ 100) (hB : iB m (t 6) (t 7) (t 8) (t 4) (t 5)) (hF : iF m v (t 6) (t 8) (t 9) (t 16) (t 17) (t 18) (t 19) (t 20)) (hG : iG m v (s 15) (t 6) (t 8) (t 9) (t 10) (t 16) (t 17) (t 18) (t 19) (t 20)) : ∀ (n n' x : Nat), n ≤ n' → x < v → hgt (t 16) (t 17) (t 18) (t 20) (t 6) (t 10) n x → (whl (t 16) (t 17) (t 18) (t 20) (t 6) (t 10) n' x ↔ whl (t 16) (t 17) (t 18) (t 20) (t 6) (t 10) n x)
  | 0, n', x, _, _, h => ⟨fun _ => whl_0 h 0, fun _ => whl_0 h n'⟩
  | n + 1, 0, x, hn, _, _ => absurd hn (by omega)
  | n + 1, n' + 1, x, hn, hx, h => by
    rw [whl_s hv hB hF hx, whl_s hv hB hF hx]
    have hk := (w_kid hm hv hB hF hG hx).2
    have key : ∀ e, e < wth (t 16) (t 17) (t 18) (t 6) x → kid (t 16) (t 17) (t 20) (t 10) x e ≠ -1 → (whl (t 16) (t 17) (t 18) (t 20) (t 6) (t 10) n' (kid (t 16) (t 17) (t 20) (t 10) x e).toNatClampNeg ↔ whl (t 16) (t 17) (t 18) (t 20) (t 6) (t 10) n (kid (t 16) (t 17) (t 20) (t 10) x e).toNatClampNeg) := by
      intro e he hne
      have hh := h e he hne
      rcases hk e he with z | ⟨y, y1, y2⟩
      · exact absurd z hne
      · rw [y2, zcl (by omega)] at hh ⊢
        exact whl_n hm hv hB hF hG n n' y (by omega) y1 hh
    exact ⟨fun z e he => ⟨(z e he).1, (key e he (z e he).1).mp (z e he).2⟩, fun z e he => ⟨(z e he).1, (key e he (z e he).1).mpr (z e he).2⟩⟩
theorem isK_0 (hv : v ≤ 100) (hm : m ≤ 12) (hF : iF m v (t 6) (t 8) (t 9) (t 16) (t 17) (t 18) (t 19) (t 20)) {y c : Nat} (hy : y < v) (hc : c < 4) (h : isK (t 16) (t 17) y (nI c)) : t 16 y = nI 0 := by
  rcases h with ⟨h, -⟩ | ⟨h1, h2⟩
  · exact h
  · obtain ⟨-, q⟩ := hF y hy
    rcases q with ⟨q, -⟩ | ⟨q, -⟩ | ⟨q, j, hj, ej, -⟩
    · exact q
    · exact absurd h1 (s_ne q (by omega) (by omega) (by omega))
    · rw [ej, nI_add] at h2
      exact absurd (nI_inj (by omega) (by omega) h2) (by omega)
theorem isK_m (hv : v ≤ 100) (hm : m ≤ 12) (hF : iF m v (t 6) (t 8) (t 9) (t 16) (t 17) (t 18) (t 19) (t 20)) {y c : Nat} (hy : y < v) (hc : c < m) (h : isK (t 16) (t 17) y (nI (10 + c))) : t 16 y = nI 2 ∧ t 17 y = nI c := by
  obtain ⟨-, q⟩ := hF y hy
  rcases h with ⟨h1, h2⟩ | ⟨h1, h2⟩
  · rcases q with ⟨q, d, hd, ed⟩ | ⟨q, -⟩ | ⟨q, -⟩
    · rw [ed] at h2
      exact absurd (nI_inj (by omega) (by omega) h2) (by omega)
    · exact absurd h1 (s_ne q (by omega) (by omega) (by omega))
    · exact absurd h1 (s_ne q (by omega) (by omega) (by omega))
  · rcases q with ⟨q, -⟩ | ⟨q, -⟩ | ⟨q, j, hj, ej, -⟩
    · exact absurd h1 (s_ne q (by omega) (by omega) (by omega))
    · exact absurd h1 (s_ne q (by omega) (by omega) (by omega))
    · rw [ej, nI_add] at h2
      have := nI_inj (by omega) (by omega) h2
      exact ⟨h1, by rw [ej]; congr 1; omega⟩
/-- a ROW is as high as what is in it, and one more -/
theorem h_row (hv : v ≤ 100) (hF : iF m v (t 6) (t 8) (t 9) (t 16) (t 17) (t 18) (t 19) (t 20)) {x n : Nat} (hx : x < v) (h1 : t 16 x = nI 1) (h : ∀ y, y < v → isK (t 16) (t 17) y (t 17 x) → hgt (t 16) (t 17) (t 18) (t 20) (t 6) (t 10) n y) : hgt (t 16) (t 17) (t 18) (t 20) (t 6) (t 10) (n + 1) x := by
  obtain ⟨-, q⟩ := hF x hx
  intro e he _
  unfold wth at he
  unfold kid
  rw [h1, if_pos rfl] at he
  rw [h1, if_neg (by decide)]
  rcases q with ⟨q, -⟩ | ⟨q, -, n', hn, en, hc⟩ | ⟨q, -⟩
  · exact absurd h1 (s_ne q (by omega) (by omega) (by omega))
  · rw [en, zcl (by omega)] at he
    obtain ⟨y, y1, y2, y3, -⟩ := hc e he
    rw [y2, zcl (by omega)]
    exact h y y1 y3
  · exact absurd h1 (s_ne q (by omega) (by omega) (by omega))
theorem h_ins (hm : m ≤ 12) (hv : v ≤ 100) (hB : iB m (t 6) (t 7) (t 8) (t 4) (t 5)) (hF : iF m v (t 6) (t 8) (t 9) (t 16) (t 17) (t 18) (t 19) (t 20)) (hG : iG m v (s 15) (t 6) (t 8) (t 9) (t 10) (t 16) (t 17) (t 18) (t 19) (t 20)) {j n : Nat} (hj : j < m) (h : ∀ c, c < m → edg (t 6) (t 8) j c → ∀ z, z < v → t 16 z = nI 2 → t 17 z = nI c → hgt (t 16) (t 17) (t 18) (t 20) (t 6) (t 10) n z) : ∀ x, x < v → t 16 x = nI 2 → t 17 x = nI j → hgt (t 16) (t 17) (t 18) (t 20) (t 6) (t 10) (n + 2) x := by
  intro x hx q1 q2 e he hne
  unfold wth at he
  rw [q1, if_neg (by decide), if_pos rfl, q2, zcl (by omega)] at he
  unfold kid at hne ⊢
  rw [q1, if_pos rfl] at hne ⊢
  rcases c_inn hF hG hm hx hj q1 q2 he with z | ⟨y, y1, y2, y3, -⟩
  · exact absurd z hne
  rw [y2, zcl (by omega)]
  obtain ⟨k1, -⟩ := hB.2.2.2.2.1 j e hj he
  have kh : ∀ z, z < v → isK (t 16) (t 17) z (t 8 (5 * j + e)) → hgt (t 16) (t 17) (t 18) (t 20) (t 6) (t 10) n z := by
    intro z hz hk
    rcases k1 with ⟨c, hc, ec⟩ | ⟨c, hc, ec⟩
    · rw [ec] at hk
      exact hgt_0 (isK_0 hv hm hF hz hc hk) n
    · rw [ec] at hk
      obtain ⟨g1, g2⟩ := isK_m hv hm hF hz hc hk
      exact h c hc ⟨e, he, ec⟩ z hz g1 g2
  rcases y3 with ⟨-, y3, y4⟩ | ⟨-, y3⟩
  · exact h_row hv hF y1 y3 (by rw [y4]; exact kh)
  · exact hgt_s (kh y y1 y3)
/-- nothing is higher than 7 -/
theorem h_all (hm : m ≤ 12) (hv : v ≤ 100) (hB : iB m (t 6) (t 7) (t 8) (t 4) (t 5)) (hF : iF m v (t 6) (t 8) (t 9) (t 16) (t 17) (t 18) (t 19) (t 20)) (hG : iG m v (s 15) (t 6) (t 8) (t 9) (t 10) (t 16) (t 17) (t 18) (t 19) (t 20)) : ∀ x, x < v → hgt (t 16) (t 17) (t 18) (t 20) (t 6) (t 10) 7 x := by
  have n3 := hB.2.2.2.2.2.2
  have ins : ∀ a, a < m → ∀ x, x < v → t 16 x = nI 2 → t 17 x = nI a → hgt (t 16) (t 17) (t 18) (t 20) (t 6) (t 10) 6 x := by
    intro a ha
    refine h_ins hm hv hB hF hG ha (n := 4) (fun b hb eb => ?_)
    refine h_ins hm hv hB hF hG hb (n := 2) (fun c hc ec => ?_)
    exact h_ins hm hv hB hF hG hc (n := 0) (fun d hd ed => absurd ⟨eb, ec, ed⟩ (n3 a b c d (by omega) (by omega) (by omega) (by omega)))
  intro x hx
  obtain ⟨-, q⟩ := hF x hx
  rcases q with ⟨q, -⟩ | ⟨q, k1, -⟩ | ⟨q, j, hj, ej, -⟩
  · exact hgt_0 q 7
  · refine h_row hv hF hx q (fun y hy hk => ?_)
    rcases k1 with ⟨c, hc, ec⟩ | ⟨c, hc, ec⟩
    · rw [ec] at hk
      exact hgt_0 (isK_0 hv hm hF hy hc hk) 6
    · rw [ec] at hk
      obtain ⟨g1, g2⟩ := isK_m hv hm hF hy hc hk
      exact ins c hc y hy g1 g2
  · exact hgt_s (ins j hj x hx q ej)
end WH
