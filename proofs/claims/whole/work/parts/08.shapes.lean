/-! One step. -/
theorem zload_ok {i len pc pc' : Nat} {lv st lv' st' : List Value} {h h' : zH} (q : zload i len pc lv st h = some (pc', lv', st', h')) : ∃ x, lv[i]? = some (.int x) ∧ pc' = pc + len ∧ lv' = lv ∧ st' = .int x :: st ∧ h' = h := by
  unfold zload at q
  split at q
  · cases q; exact ⟨_, by assumption, rfl, rfl, rfl, rfl⟩
  · cases q
theorem zloadl_ok {i len pc pc' : Nat} {lv st lv' st' : List Value} {h h' : zH} (q : zloadl i len pc lv st h = some (pc', lv', st', h')) : ∃ x, lv[i]? = some (.long x) ∧ pc' = pc + len ∧ lv' = lv ∧ st' = .long x :: st ∧ h' = h := by
  unfold zloadl at q
  split at q
  · cases q; exact ⟨_, by assumption, rfl, rfl, rfl, rfl⟩
  · cases q
theorem zloada_ok {i len pc pc' : Nat} {lv st lv' st' : List Value} {h h' : zH} (q : zloada i len pc lv st h = some (pc', lv', st', h')) : ∃ x, lv[i]? = some (.ref x) ∧ pc' = pc + len ∧ lv' = lv ∧ st' = .ref x :: st ∧ h' = h := by
  unfold zloada at q
  split at q
  · cases q; exact ⟨_, by assumption, rfl, rfl, rfl, rfl⟩
  · cases q
theorem zstore_ok {i len pc pc' : Nat} {lv st lv' st' : List Value} {h h' : zH} (q : zstore i len pc lv st h = some (pc', lv', st', h')) : ∃ x, st = .int x :: st' ∧ zst1 lv i (.int x) = some lv' ∧ pc' = pc + len ∧ h' = h := by
  unfold zstore at q
  split at q
  · obtain ⟨w, h1, h2⟩ := Option.bind_eq_some_iff.mp q
    cases h2; exact ⟨_, rfl, h1, rfl, rfl⟩
  · cases q
theorem zstorel_ok {i len pc pc' : Nat} {lv st lv' st' : List Value} {h h' : zH} (q : zstorel i len pc lv st h = some (pc', lv', st', h')) : ∃ x, st = .long x :: st' ∧ zst2 lv i (.long x) = some lv' ∧ pc' = pc + len ∧ h' = h := by
  unfold zstorel at q
  split at q
  · obtain ⟨w, h1, h2⟩ := Option.bind_eq_some_iff.mp q
    cases h2; exact ⟨_, rfl, h1, rfl, rfl⟩
  · cases q
theorem zbin_ok {f : Int32 → Int32 → Int32} {len pc pc' : Nat} {lv st lv' st' : List Value} {h h' : zH} (q : zbin f len pc lv st h = some (pc', lv', st', h')) : ∃ x y r, st = .int y :: .int x :: r ∧ pc' = pc + len ∧ lv' = lv ∧ st' = .int (f x y) :: r ∧ h' = h := by
  unfold zbin at q
  split at q
  · cases q; exact ⟨_, _, _, rfl, rfl, rfl, rfl, rfl⟩
  · cases q
theorem zun_ok {f : Int32 → Int32} {len pc pc' : Nat} {lv st lv' st' : List Value} {h h' : zH} (q : zun f len pc lv st h = some (pc', lv', st', h')) : ∃ x r, st = .int x :: r ∧ pc' = pc + len ∧ lv' = lv ∧ st' = .int (f x) :: r ∧ h' = h := by
  unfold zun at q
  split at q
  · cases q; exact ⟨_, _, rfl, rfl, rfl, rfl, rfl⟩
  · cases q
theorem zbinl_ok {f : Int64 → Int64 → Int64} {len pc pc' : Nat} {lv st lv' st' : List Value} {h h' : zH} (q : zbinl f len pc lv st h = some (pc', lv', st', h')) : ∃ x y r, st = .long y :: .long x :: r ∧ ¬ y = 0 ∧ pc' = pc + len ∧ lv' = lv ∧ st' = .long (f x y) :: r ∧ h' = h := by
  unfold zbinl at q
  split at q
  · split at q
    · cases q
    · cases q; exact ⟨_, _, _, rfl, by assumption, rfl, rfl, rfl, rfl⟩
  · cases q
theorem zgetf_ok {own idx len pc pc' : Nat} {lv st lv' st' : List Value} {h h' : zH} (q : zgetf own idx len pc lv st h = some (pc', lv', st', h')) : ∃ k r ci j x fs v, st = .ref k :: r ∧ zlook (zfT own) idx = some (ci, j, x) ∧ zobj h k ci = some fs ∧ fs[j]? = some v ∧ pc' = pc + len ∧ lv' = lv ∧ st' = v :: r ∧ h' = h := by
  unfold zgetf at q
  split at q
  · split at q
    · split at q
      · split at q
        · cases q; exact ⟨_, _, _, _, _, _, _, rfl, by assumption, by assumption, by assumption, rfl, rfl, rfl, rfl⟩
        · cases q
      · cases q
    · cases q
  · cases q
theorem zputf_ok {own idx len pc pc' : Nat} {lv st lv' st' : List Value} {h h' : zH} (q : zputf own idx len pc lv st h = some (pc', lv', st', h')) : ∃ x k ci j ty y fs, st = .int x :: .ref k :: st' ∧ zlook (zfT own) idx = some (ci, j, ty, y) ∧ zobj h k ci = some fs ∧ zfit ty x = true ∧ j < fs.length ∧ pc' = pc + len ∧ lv' = lv ∧ h' = h.set k (.inr (ci, fs.set j (.int x))) := by
  unfold zputf at q
  split at q
  · split at q
    · split at q
      · split at q
        · rename_i hc
          simp only [Bool.and_eq_true, decide_eq_true_eq] at hc
          cases q; exact ⟨_, _, _, _, _, _, _, rfl, by assumption, by assumption, hc.1, hc.2, rfl, rfl, rfl⟩
        · cases q
      · cases q
    · cases q
  · cases q
theorem zial_ok {tb : zTb} {len pc pc' : Nat} {lv st lv' st' : List Value} {h h' : zH} (q : zial tb len pc lv st h = some (pc', lv', st', h')) : ∃ i k r n f, st = .int i :: .ref k :: r ∧ zrd tb h k = some (n, f) ∧ zin i n = true ∧ pc' = pc + len ∧ lv' = lv ∧ st' = .int (f i.toNatClampNeg) :: r ∧ h' = h := by
  unfold zial at q
  split at q
  · split at q
    · split at q
      · cases q; exact ⟨_, _, _, _, _, rfl, by assumption, by assumption, rfl, rfl, rfl, rfl⟩
      · cases q
    · cases q
  · cases q
theorem zbal_ok {len pc pc' : Nat} {lv st lv' st' : List Value} {h h' : zH} (q : zbal len pc lv st h = some (pc', lv', st', h')) : ∃ i k r t n f, st = .int i :: .ref k :: r ∧ zbar h k = some (t, n, f) ∧ zin i n = true ∧ pc' = pc + len ∧ lv' = lv ∧ st' = .int (f i.toNatClampNeg) :: r ∧ h' = h := by
  unfold zbal at q
  split at q
  · split at q
    · split at q
      · cases q; exact ⟨_, _, _, _, _, _, rfl, by assumption, by assumption, rfl, rfl, rfl, rfl⟩
      · cases q
    · cases q
  · cases q
theorem zias_ok {len pc pc' : Nat} {lv st lv' st' : List Value} {h h' : zH} (q : zias len pc lv st h = some (pc', lv', st', h')) : ∃ x i k n f, st = .int x :: .int i :: .ref k :: st' ∧ zarr h k 0 = some (n, f) ∧ zin i n = true ∧ pc' = pc + len ∧ lv' = lv ∧ h' = h.set k (.inl (0, n, .inl (upd f i.toNatClampNeg x))) := by
  unfold zias at q
  split at q
  · split at q
    · split at q
      · cases q; exact ⟨_, _, _, _, _, rfl, by assumption, by assumption, rfl, rfl, rfl⟩
      · cases q
    · cases q
  · cases q
theorem zbas_ok {len pc pc' : Nat} {lv st lv' st' : List Value} {h h' : zH} (q : zbas len pc lv st h = some (pc', lv', st', h')) : ∃ x i k t n f, st = .int x :: .int i :: .ref k :: st' ∧ zbar h k = some (t, n, f) ∧ zin i n = true ∧ pc' = pc + len ∧ lv' = lv ∧ h' = h.set k (.inl (t, n, .inl (upd f i.toNatClampNeg (zbn t x)))) := by
  unfold zbas at q
  split at q
  · split at q
    · split at q
      · cases q; exact ⟨_, _, _, _, _, _, rfl, by assumption, by assumption, rfl, rfl, rfl⟩
      · cases q
    · cases q
  · cases q
theorem zbar_ok {h : zH} {k t n : Nat} {f : Nat → Int32} (q : zbar h k = some (t, n, f)) : (t = 1 ∧ zarr h k 1 = some (n, f)) ∨ (t = 2 ∧ zarr h k 2 = some (n, f)) := by
  unfold zbar at q
  cases h1 : zarr h k 1 with
  | some nf => rw [h1] at q; cases q; exact Or.inl ⟨rfl, rfl⟩
  | none =>
    rw [h1] at q
    cases h2 : zarr h k 2 with
    | some nf => rw [h2] at q; cases q; exact Or.inr ⟨rfl, rfl⟩
    | none => rw [h2] at q; cases q
theorem zback_ok {pc pc' : Nat} {lv r lv' st' : List Value} {o : zO} {h' : zH} (q : zback pc lv r o = some (pc', lv', st', h')) : ∃ v, o = some (v, h') ∧ pc' = pc ∧ lv' = lv ∧ st' = v.toList ++ r := by
  unfold zback at q
  split at q
  · cases q; exact ⟨_, rfl, rfl, rfl, rfl⟩
  · cases q
theorem zinv_ok {cal : zCal} {own idx len pc pc' : Nat} {lv st lv' st' : List Value} {h h' : zH} (q : zinv cal own idx len pc lv st h = some (pc', lv', st', h')) : ∃ m n ci x k r fs v, zlook (zvT own) idx = some (m, n, ci, x) ∧ st.drop n = .ref k :: r ∧ zobj h k ci = some fs ∧ (st.take n).length = n ∧ zsum r ≤ 8 ∧ cal m (.ref k :: (st.take n).reverse) h = some (v, h') ∧ pc' = pc + len ∧ lv' = lv ∧ st' = v.toList ++ r := by
  unfold zinv at q
  split at q
  · split at q
    · split at q
      · split at q
        · rename_i hc
          simp only [Bool.and_eq_true, decide_eq_true_eq] at hc
          obtain ⟨v, h1, h2, h3, h4⟩ := zback_ok q
          exact ⟨_, _, _, _, _, _, _, v, by assumption, by assumption, by assumption, hc.1.1, hc.1.2, h1, h2, h3, h4⟩
        · cases q
      · cases q
    · cases q
  · cases q
theorem zins_ok {cal : zCal} {own idx len pc pc' : Nat} {lv st lv' st' : List Value} {h h' : zH} (q : zins cal own idx len pc lv st h = some (pc', lv', st', h')) : (∃ x y r, zlook (zaT own) idx = some y ∧ st = .long x :: r ∧ zsum r ≤ 8 ∧ pc' = pc + len ∧ lv' = lv ∧ st' = .long (if 0 < x then x else -x) :: r ∧ h' = h) ∨ ∃ m n x v, zlook (zsT own) idx = some (m, n, x) ∧ (st.take n).length = n ∧ zsum (st.drop n) ≤ 8 ∧ cal m ((st.take n).reverse) h = some (v, h') ∧ pc' = pc + len ∧ lv' = lv ∧ st' = v.toList ++ st.drop n := by
  unfold zins at q
  split at q
  · split at q
    · split at q
      · rename_i hc
        simp only [decide_eq_true_eq] at hc
        cases q
        exact Or.inl ⟨_, _, _, by assumption, rfl, hc, rfl, rfl, rfl, rfl⟩
      · cases q
    · cases q
  · split at q
    · split at q
      · rename_i hc
        simp only [Bool.and_eq_true, decide_eq_true_eq] at hc
        obtain ⟨v, h1, h2, h3, h4⟩ := zback_ok q
        exact Or.inr ⟨_, _, _, v, by assumption, hc.1, hc.2, h1, h2, h3, h4⟩
      · cases q
    · cases q
theorem zkl_at {a : Nat → Nat} {ls : Array Slot} {lv : List Value} {i : Nat} {v : Value} (hl : zls a ls lv) (hv : lv[i]? = some v) (hk : zkn v = true) : ls[i]? = some (.val (zv a v)) := hl.2.2 i v hv hk
theorem zcmp_t {c : Jvm.ClassFile.Cond} {x y : Int32} {t f : Nat} : zcmp c x y t f = t ∨ zcmp c x y t f = f := by
  cases c <;> simp only [zcmp] <;> split <;> simp
