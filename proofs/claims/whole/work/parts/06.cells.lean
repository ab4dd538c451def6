/-! WHAT THE SMALL MACHINE ANSWERS, THE JAVA MACHINE ANSWERS. -/
def zv (a : Nat → Nat) : Value → Value
  | .ref k => .ref (a k)
  | v => v
def zce (a : Nat → Nat) (cA : Nat → ClassId) : zE → va_E
  | .inl x => .inl (cA x.1, x.2)
  | .inr o => .inr (o.1, o.2.map (zv a))
def zw (a : Nat → Nat) (cA : Nat → ClassId) (h : zH) : va_W := h.mapIdx (fun k e => (a k, zce a cA e))
def zty (cA : Nat → ClassId) : List (ClassId × FieldType) := [(cA 0, .int), (cA 1, .boolean), (cA 2, .byte)]
theorem zw_at {a : Nat → Nat} {cA : Nat → ClassId} {h : zH} {k : Nat} {e : zE} (hk : h[k]? = some e) : (zw a cA h)[k]? = some (a k, zce a cA e) := by
  simp [zw, hk]
theorem zw_set {a : Nat → Nat} {cA : Nat → ClassId} {h : zH} {k : Nat} {e : zE} : zw a cA (h.set k e) = (zw a cA h).set k (a k, zce a cA e) := by
  apply List.ext_getElem?
  intro i
  simp only [zw, List.getElem?_mapIdx, List.getElem?_set, List.length_mapIdx]
  by_cases hi : k = i
  · subst hi
    by_cases hl : k < h.length
    · simp [hl]
    · simp [hl]
  · simp [hi]
theorem zv_cat (a : Nat → Nat) (v : Value) : (zv a v).category = v.category := by cases v <;> rfl
theorem zc2_cat {v : Value} (h : zc2 v = false) : v.category = 1 := by cases v <;> first | rfl | cases h
theorem zsum_map (a : Nat → Nat) (l : List Value) : ((l.map (zv a)).map fun v => v.category).sum = zsum l := by
  unfold zsum
  rw [List.map_map]
  congr 1
  apply List.map_congr_left
  intro v _
  exact zv_cat a v
/-- the locals hold what is known of them -/
def zls (a : Nat → Nat) (ls : Array Slot) (lv : List Value) : Prop := ls.size = lv.length ∧ lv_wf ls ∧ ∀ (i : Nat) (v : Value), lv[i]? = some v → zkn v = true → ls[i]? = some (.val (zv a v))
def zkl (a : Nat → Nat) (lv : List Value) : List (Nat × Value) := (lv.mapIdx (fun i v => (i, v))).filterMap (fun q => if zkn q.2 = true then some (q.1, zv a q.2) else none)
theorem zkl_mem {a : Nat → Nat} {lv : List Value} {q : Nat × Value} : q ∈ zkl a lv ↔ ∃ v, lv[q.1]? = some v ∧ zkn v = true ∧ q.2 = zv a v := by
  unfold zkl
  rw [List.mem_filterMap]
  constructor
  · rintro ⟨x, hx, hq⟩
    obtain ⟨i, hi⟩ := List.getElem?_of_mem hx
    rw [List.getElem?_mapIdx] at hi
    cases hv : lv[i]? with
    | none => rw [hv] at hi; cases hi
    | some v =>
      rw [hv] at hi
      cases hi
      by_cases hk : zkn v = true
      · rw [if_pos hk] at hq
        cases hq
        exact ⟨v, hv, hk, rfl⟩
      · rw [if_neg hk] at hq
        cases hq
  · rintro ⟨v, hv, hk, hq⟩
    refine ⟨(q.1, v), ?_, ?_⟩
    · apply List.mem_of_getElem? (i := q.1)
      rw [List.getElem?_mapIdx, hv]
      rfl
    · simp only [hk, if_true]
      rw [← hq]
theorem zls_has {a : Nat → Nat} {ls : Array Slot} {lv : List Value} (h : zls a ls lv) : lv_has ls lv.length (zkl a lv) :=
  ⟨h.1, h.2.1, fun q hq => by
    obtain ⟨v, h1, h2, h3⟩ := zkl_mem.mp hq
    rw [h.2.2 q.1 v h1 h2, h3]⟩
theorem zls_st1 {a : Nat → Nat} {ls : Array Slot} {lv lv' : List Value} {i : Nat} {v : Value} (hz : zst1 lv i v = some lv') (h : lv_has ls lv.length ((i, zv a v) :: (zkl a lv).filter (fun q => !(q.1 == i) && !(q.1 + 1 == i && q.2.category == 2)))) : zls a ls lv' ∧ lv'.length = lv.length := by
  unfold zst1 at hz
  by_cases hc : (zfree lv i && decide (i < lv.length)) = true
  · rw [if_pos hc] at hz
    cases hz
    simp only [Bool.and_eq_true, decide_eq_true_eq] at hc
    refine ⟨⟨by rw [List.length_set]; exact h.1, h.2.1, fun j w hj hw => ?_⟩, List.length_set⟩
    by_cases hji : i = j
    · subst hji
      rw [List.getElem?_set_self hc.2] at hj
      cases hj
      exact h.2.2 _ List.mem_cons_self
    · rw [List.getElem?_set_ne hji] at hj
      have hm : (j, zv a w) ∈ zkl a lv := zkl_mem.mpr ⟨w, hj, hw, rfl⟩
      refine h.2.2 (j, zv a w) (List.mem_cons_of_mem _ (List.mem_filter.mpr ⟨hm, ?_⟩))
      simp only [Bool.and_eq_true, Bool.not_eq_true', beq_eq_false_iff_ne, ne_eq, Bool.and_eq_false_iff]
      refine ⟨fun q => hji q.symm, ?_⟩
      by_cases hj1 : j + 1 = i
      · right
        subst hj1
        have hf := hc.1
        simp only [zfree, hj, Bool.not_eq_true'] at hf
        rw [zv_cat, zc2_cat hf]
        decide
      · left
        exact hj1
  · rw [if_neg hc] at hz
    cases hz
theorem zls_st2 {a : Nat → Nat} {ls : Array Slot} {lv lv' : List Value} {i : Nat} {v : Value} (hz : zst2 lv i v = some lv') (h : lv_has ls lv.length ((i, zv a v) :: (zkl a lv).filter (fun q => !(q.1 == i) && (!(q.1 == i + 1) && !(q.1 + 1 == i && q.2.category == 2))))) : zls a ls lv' ∧ lv'.length = lv.length := by
  unfold zst2 at hz
  by_cases hc : (zfree lv i && decide (i + 1 < lv.length)) = true
  · rw [if_pos hc] at hz
    cases hz
    simp only [Bool.and_eq_true, decide_eq_true_eq] at hc
    refine ⟨⟨by rw [List.length_set, List.length_set]; exact h.1, h.2.1, fun j w hj hw => ?_⟩, by rw [List.length_set, List.length_set]⟩
    by_cases hj2 : i + 1 = j
    · subst hj2
      rw [List.getElem?_set_self (by rw [List.length_set]; exact hc.2)] at hj
      cases hj
      cases hw
    · rw [List.getElem?_set_ne hj2] at hj
      by_cases hji : i = j
      · subst hji
        rw [List.getElem?_set_self (by omega)] at hj
        cases hj
        exact h.2.2 _ List.mem_cons_self
      · rw [List.getElem?_set_ne hji] at hj
        have hm : (j, zv a w) ∈ zkl a lv := zkl_mem.mpr ⟨w, hj, hw, rfl⟩
        refine h.2.2 (j, zv a w) (List.mem_cons_of_mem _ (List.mem_filter.mpr ⟨hm, ?_⟩))
        simp only [Bool.and_eq_true, Bool.not_eq_true', beq_eq_false_iff_ne, ne_eq, Bool.and_eq_false_iff]
        refine ⟨fun q => hji q.symm, fun q => hj2 q.symm, ?_⟩
        by_cases hj1 : j + 1 = i
        · right
          subst hj1
          have hf := hc.1
          simp only [zfree, hj, Bool.not_eq_true'] at hf
          rw [zv_cat, zc2_cat hf]
          decide
        · left
          exact hj1
  · rw [if_neg hc] at hz
    cases hz
theorem zst1_lt {lv lv' : List Value} {i : Nat} {v : Value} (hz : zst1 lv i v = some lv') : i < lv.length := by
  unfold zst1 at hz
  by_cases hc : (zfree lv i && decide (i < lv.length)) = true
  · simp only [Bool.and_eq_true, decide_eq_true_eq] at hc
    exact hc.2
  · rw [if_neg hc] at hz; cases hz
theorem zst2_lt {lv lv' : List Value} {i : Nat} {v : Value} (hz : zst2 lv i v = some lv') : i + 1 < lv.length := by
  unfold zst2 at hz
  by_cases hc : (zfree lv i && decide (i + 1 < lv.length)) = true
  · simp only [Bool.and_eq_true, decide_eq_true_eq] at hc
    exact hc.2
  · rw [if_neg hc] at hz; cases hz
