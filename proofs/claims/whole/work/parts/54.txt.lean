/-! the text of a VALUE; the class's way to it. -/
def pre (k : Int32) : List Int32 := if k = nI 1 then [nI 119] else if k = nI 2 then [nI 99] else if k = nI 3 then [nI 116] else []
def hdr (t : zS) (x : Nat) : List Int32 := if t 16 x = nI 1 then [nI 123] else if t 16 x = nI 2 then [nI 64] ++ num (t 17 x) ++ [nI 40] else pre (t 17 x) ++ num (t 18 x)
def cls (t : zS) (x : Nat) : List Int32 := if t 16 x = nI 1 then [nI 125] else [nI 41]
def bhd (t : zS) (x : Nat) : Nat → Bool
  | 0 => false
  | k + 1 => bhd t x k || decide (kd t x k ≠ -1)
def lab (t : zS) (x e : Nat) : List Int32 := if t 16 x = nI 2 then [nI 48 + t 7 (5 * (t 17 x).toNatClampNeg + e), nI 61] else []
def itm (t : zS) (f : Nat → List Int32) (x k : Nat) : List Int32 := (if bhd t x k = true then [nI 44] else []) ++ lab t x k ++ f (kd t x k).toNatClampNeg
def bod (t : zS) (f : Nat → List Int32) (x : Nat) : Nat → Nat → List Int32
  | _, 0 => []
  | k, c + 1 => (if kd t x k = -1 then [] else itm t f x k) ++ bod t f x (k + 1) c
def txt (t : zS) : Nat → Nat → List Int32
  | 0, x => hdr t x
  | n + 1, x => if t 16 x = nI 0 then hdr t x else hdr t x ++ bod t (txt t n) x 0 (wd t x) ++ cls t x
def tl : Nat → Nat
  | 0 => 14
  | n + 1 => 5 * (tl n + 3) + 15
theorem hdr_l (t : zS) (x : Nat) : (hdr t x).length ≤ 13 := by
  unfold hdr
  have h1 := num_l (t 17 x)
  have h2 := num_l (t 18 x)
  by_cases c1 : t 16 x = nI 1
  · rw [if_pos c1]
    simp
  by_cases c2 : t 16 x = nI 2
  · rw [if_neg c1, if_pos c2]
    simp
    omega
  rw [if_neg c1, if_neg c2]
  have : (pre (t 17 x)).length ≤ 1 := by
    unfold pre
    repeat' split
    all_goals simp
  simp
  omega
theorem lab_l (t : zS) (x e : Nat) : (lab t x e).length ≤ 2 := by
  unfold lab
  split <;> simp
theorem cls_l (t : zS) (x : Nat) : (cls t x).length = 1 := by
  unfold cls
  split <;> rfl
theorem bod_l {t : zS} {f : Nat → List Int32} {x B : Nat} : ∀ c k, (∀ e, k ≤ e → e < k + c → kd t x e ≠ -1 → (f (kd t x e).toNatClampNeg).length ≤ B) → (bod t f x k c).length ≤ c * (B + 3)
  | 0, k, _ => by
    unfold bod
    simp
  | c + 1, k, h => by
    have ih := bod_l (t := t) (f := f) (x := x) (B := B) c (k + 1) (fun e h1 h2 => h e (by omega) (by omega))
    unfold bod
    rw [List.length_append, Nat.succ_mul]
    have : (if kd t x k = -1 then [] else itm t f x k).length ≤ B + 3 := by
      by_cases z : kd t x k = -1
      · rw [if_pos z]
        simp
      · rw [if_neg z]
        have h1 := h k (by omega) (by omega) z
        have h2 := lab_l t x k
        unfold itm
        rw [List.length_append, List.length_append]
        have h3 : (if bhd t x k = true then [nI 44] else []).length ≤ 1 := by
          split <;> simp
        omega
    omega
section TX
variable {m v : Nat} {s t : zS}
theorem txt_0 {x : Nat} (h : t 16 x = nI 0) : ∀ n, txt t n x = hdr t x
  | 0 => rfl
  | n + 1 => if_pos h
theorem txt_s {x : Nat} (h : t 16 x ≠ nI 0) (n : Nat) : txt t (n + 1) x = hdr t x ++ bod t (txt t n) x 0 (wd t x) ++ cls t x := if_neg h
theorem txt_l (hm : m ≤ 12) (hv : v ≤ 100) (hB : iB m (t 6) (t 7) (t 8) (t 4) (t 5)) (hF : iF m v (t 6) (t 8) (t 9) (t 16) (t 17) (t 18) (t 19) (t 20)) (hG : iG m v (s 15) (t 6) (t 8) (t 9) (t 10) (t 16) (t 17) (t 18) (t 19) (t 20)) : ∀ n x, x < v → (txt t n x).length ≤ tl n
  | 0, x, _ => by
    have := hdr_l t x
    show (hdr t x).length ≤ 14
    omega
  | n + 1, x, hx => by
    have h1 := hdr_l t x
    have e : tl (n + 1) = 5 * (tl n + 3) + 15 := rfl
    by_cases c : t 16 x = nI 0
    · rw [txt_0 c]
      omega
    · rw [txt_s c, List.length_append, List.length_append, cls_l]
      obtain ⟨h5, hk⟩ := w_kid hm hv hB hF hG hx
      have hb := bod_l (t := t) (f := txt t n) (x := x) (B := tl n) (wd t x) 0 (fun e' _ he hne => by
        rcases hk e' (by unfold wd at he; omega) with z | ⟨y, y1, y2⟩
        · exact absurd z hne
        · unfold kd
          rw [y2, zcl (by omega)]
          exact txt_l hm hv hB hF hG n y y1)
      have h5 : wd t x ≤ 5 := h5
      have hmul := Nat.mul_le_mul_right (tl n + 3) h5
      omega
theorem w_A {κ : Nat} {S : zS} {L : List Int32} (h : wS κ s S L) (hA : iA m (s 2) (s 3) (s 4) (s 5) (s 6) (s 8) (s 9) (s 12) (s 13) (s 14) (t 0) (t 1) (t 2) (t 3) (t 6) (t 4) (t 5) (t 7) (t 8) (t 9)) : iA m (S 2) (S 3) (S 4) (S 5) (S 6) (S 8) (S 9) (S 12) (S 13) (S 14) (t 0) (t 1) (t 2) (t 3) (t 6) (t 4) (t 5) (t 7) (t 8) (t 9) := by
  have h1 := h.1
  rw [h1 2 (by omega) (by omega) (by omega) (by omega), h1 3 (by omega) (by omega) (by omega) (by omega), h1 4 (by omega) (by omega) (by omega) (by omega), h1 5 (by omega) (by omega) (by omega) (by omega), h1 6 (by omega) (by omega) (by omega) (by omega), h1 8 (by omega) (by omega) (by omega) (by omega), h1 9 (by omega) (by omega) (by omega) (by omega), h1 12 (by omega) (by omega) (by omega) (by omega), h1 13 (by omega) (by omega) (by omega) (by omega), h1 14 (by omega) (by omega) (by omega) (by omega)]
  exact hA
theorem w_E {κ : Nat} {S : zS} {L : List Int32} (h : wS κ s S L) (hE : iE v (s 19) (s 20) (s 21) (s 22) (s 23) (s 24) (t 15) (t 16) (t 17) (t 18) (t 19) (t 20)) : iE v (S 19) (S 20) (S 21) (S 22) (S 23) (S 24) (t 15) (t 16) (t 17) (t 18) (t 19) (t 20) := by
  have h1 := h.1
  rw [h1 19 (by omega) (by omega) (by omega) (by omega), h1 20 (by omega) (by omega) (by omega) (by omega), h1 21 (by omega) (by omega) (by omega) (by omega), h1 22 (by omega) (by omega) (by omega) (by omega), h1 23 (by omega) (by omega) (by omega) (by omega), h1 24 (by omega) (by omega) (by omega) (by omega)]
  exact hE
theorem w_G {κ : Nat} {S : zS} {L : List Int32} (h : wS κ s S L) (hG : iG m v (s 15) (t 6) (t 8) (t 9) (t 10) (t 16) (t 17) (t 18) (t 19) (t 20)) : iG m v (S 15) (t 6) (t 8) (t 9) (t 10) (t 16) (t 17) (t 18) (t 19) (t 20) := by
  have h1 := h.1
  rw [h1 15 (by omega) (by omega) (by omega) (by omega)]
  exact hG
theorem w_skip {κ : Nat} {S : zS} {L : List Int32} (h : wS κ s S L) (hl : L.length < 2 ^ 30) (hc : nI 2000 < S 32 0) (X : List Int32) : wS κ s S (L ++ X) := by
  obtain ⟨h1, h2, ⟨a, h3, h4⟩, h5, h6⟩ := h
  rw [h3] at hc
  have ha := h4.1
  have a2 : 2000 < a := by
    rcases Nat.lt_or_ge 2000 a with z | z
    · exact z
    · exact absurd hc (nI_nlt z (by omega))
  refine ⟨h1, h2, ⟨a, h3, ?_, fun q => ?_, fun _ => a2⟩, h5, fun _ q => ?_⟩
  · rw [List.length_append]
    omega
  · rw [List.length_append] at q
    omega
  · rw [List.length_append] at q
    omega
theorem w_rw {M κ : Nat} {rec : Nat → zS → Int32 → Int32 → Option (zS)} {f : Nat → List Int32} {x n d : Nat} (hκ : κ ≤ 1) (hE : iE v (s 19) (s 20) (s 21) (s 22) (s 23) (s 24) (t 15) (t 16) (t 17) (t 18) (t 19) (t 20)) (hF : iF m v (t 6) (t 8) (t 9) (t 16) (t 17) (t 18) (t 19) (t 20)) (hx : x < v) (q1 : t 16 x = nI 1) (hn : n ≤ 4) (en : t 18 x = nI n)
    (hb : ∀ k, k ≤ n → bhd t x k = decide (0 < k))
    (hr : ∀ e, e < n → kd t x e ≠ -1 ∧ ∀ S L, wS κ s S L → L.length + (f (kd t x e).toNatClampNeg).length + 50 < 2 ^ 30 → ∃ S', rec 0 S (t 20 (5 * x + e)) (nI (d + 1)) = some S' ∧ wS κ s S' (L ++ f (kd t x e).toNatClampNeg)) : ∀ c k S L K, k + c = n → c < K → wS κ s S L → L.length + (bod t f x k c).length + 50 < 2 ^ 30 →
    ∃ S', l_X4_writeRow M rec K S (nI x) (nI d) (nI k) = some S' ∧ wS κ s S' (L ++ bod t f x k c ++ [nI 125]) := by
  have hv := hE.1
  intro c
  induction c with
  | zero =>
    intro k S L K hk hK hw hl
    obtain ⟨K, rfl⟩ : ∃ K', K = K' + 1 := ⟨K - 1, by omega⟩
    have hES := w_E hw hE
    rw [l_X4_writeRow, zin_t (show x < 100 by omega), zq_t, zcl (n := x) (by omega), hES.2.2.2.2.1 x (by omega), en, if_neg (nI_nlt (by omega) (by omega))]
    unfold bod
    obtain ⟨S', g1, g2, -⟩ := w_b (M := M) hw hκ (by omega) (show 125 < 128 by omega)
    rw [g1, zbd_s, List.append_nil]
    exact ⟨S', rfl, g2⟩
  | succ c ih =>
    intro k S L K hk hK hw hl
    obtain ⟨K, rfl⟩ : ∃ K', K = K' + 1 := ⟨K - 1, by omega⟩
    have hES := w_E hw hE
    obtain ⟨r1, r2⟩ := hr k (by omega)
    have hlb : lab t x k = [] := by
      unfold lab
      rw [q1, if_neg (by decide)]
    have eb : bod t f x k (c + 1) = (if bhd t x k = true then [nI 44] else []) ++ f (kd t x k).toNatClampNeg ++ bod t f x (k + 1) c := by
      rw [bod, if_neg r1]
      unfold itm
      rw [hlb, List.append_nil]
    rw [eb] at hl ⊢
    rw [l_X4_writeRow, zin_t (show x < 100 by omega), zq_t, zcl (n := x) (by omega), hES.2.2.2.2.1 x (by omega), en, if_pos (nI_lt (by omega) (by omega))]
    rw [hb k (by omega)] at hl ⊢
    by_cases k0 : 0 < k
    · rw [if_pos (show (0 : Int32) < nI k from nI_lt (a := 0) k0 (by omega))]
      simp only [k0, decide_true, if_true] at hl ⊢
      simp only [List.length_append, List.length_cons, List.length_nil] at hl
      obtain ⟨S1, g1, g2, -⟩ := w_b (M := M) hw hκ (by omega) (show 44 < 128 by omega)
      rw [g1, zbd_s, c_prt (w_E g2 hE) hx (by omega), zbd_s, nI_add]
      obtain ⟨S2, g3, g4⟩ := r2 S1 _ g2 (by simp; omega)
      rw [g3, zbd_s, nI_add]
      obtain ⟨S3, g5, g6⟩ := ih (k + 1) S2 _ K (by omega) (by omega) g4 (by simp; omega)
      refine ⟨S3, g5, ?_⟩
      simpa using g6
    · rw [if_neg (show ¬ (0 : Int32) < nI k by rw [show k = 0 by omega]; decide)]
      simp only [k0, decide_false, Bool.false_eq_true, if_false, List.nil_append] at hl ⊢
      simp only [List.length_append] at hl
      rw [c_prt hES hx (by omega), zbd_s, nI_add]
      obtain ⟨S2, g3, g4⟩ := r2 S _ hw (by omega)
      rw [g3, zbd_s, nI_add]
      obtain ⟨S3, g5, g6⟩ := ih (k + 1) S2 _ K (by omega) (by omega) g4 (by simp; omega)
      refine ⟨S3, g5, ?_⟩
      simpa using g6
theorem w_in {M κ : Nat} (hM : 100 < M) {rec : Nat → zS → Int32 → Int32 → Option (zS)} {f : Nat → List Int32} {x j d : Nat} (hκ : κ ≤ 1) (hA : iA m (s 2) (s 3) (s 4) (s 5) (s 6) (s 8) (s 9) (s 12) (s 13) (s 14) (t 0) (t 1) (t 2) (t 3) (t 6) (t 4) (t 5) (t 7) (t 8) (t 9)) (hB : iB m (t 6) (t 7) (t 8) (t 4) (t 5)) (hE : iE v (s 19) (s 20) (s 21) (s 22) (s 23) (s 24) (t 15) (t 16) (t 17) (t 18) (t 19) (t 20)) (hF : iF m v (t 6) (t 8) (t 9) (t 16) (t 17) (t 18) (t 19) (t 20)) (hG : iG m v (s 15) (t 6) (t 8) (t 9) (t 10) (t 16) (t 17) (t 18) (t 19) (t 20)) (hx : x < v) (hj : j < m) (q1 : t 16 x = nI 2) (q2 : t 17 x = nI j)
    (hr : ∀ e, e < enn (t 6) j → kd t x e ≠ -1 → ∀ S L, wS κ s S L → L.length + (f (kd t x e).toNatClampNeg).length + 50 < 2 ^ 30 → ∃ S', rec 0 S (kd t x e) (nI (d + 1)) = some S' ∧ wS κ s S' (L ++ f (kd t x e).toNatClampNeg)) : ∀ c k S L K, k + c = enn (t 6) j → c < K → wS κ s S L → L.length + (bod t f x k c).length + 50 < 2 ^ 30 →
    ∃ S', l_X4_writeInstance M rec K S (nI x) (nI d) (nI j) (if bhd t x k = true then nI 0 else nI 1) (nI k) = some S' ∧ wS κ s S' (L ++ bod t f x k c ++ [nI 41]) := by
  have hv := hE.1
  have hm := hA.1
  obtain ⟨en, hen, een⟩ := hB.1 j (by omega)
  have eq := enn_of een hen
  have ekx : ∀ e, kd t x e = inn (t 17) (t 20) (t 10) x e := fun e => if_pos q1
  intro c
  induction c with
  | zero =>
    intro k S L K hk hK hw hl
    obtain ⟨K, rfl⟩ : ∃ K', K = K' + 1 := ⟨K - 1, by omega⟩
    have hAS := w_A hw hA
    obtain ⟨a1, a2, a3, a4, a5, a6, a7, -⟩ := id hAS
    rw [l_X4_writeInstance, zin_t (show j < 12 by omega), zq_t, zcl (n := j) (by omega), a7 j (by omega), een, if_neg (nI_nlt (by omega) (by omega))]
    unfold bod
    obtain ⟨S', g1, g2, -⟩ := w_b (M := M) hw hκ (by omega) (show 41 < 128 by omega)
    rw [g1, zbd_s, List.append_nil]
    exact ⟨S', rfl, g2⟩
  | succ c ih =>
    intro k S L K hk hK hw hl
    obtain ⟨K, rfl⟩ : ∃ K', K = K' + 1 := ⟨K - 1, by omega⟩
    have hAS := w_A hw hA
    obtain ⟨a1, a2, a3, a4, a5, a6, a7, a8, a9, a10, -⟩ := id hAS
    have hkl : k < enn (t 6) j := by omega
    obtain ⟨-, nn, hnn, enn9⟩ := hB.2.2.2.2.1 j k hj hkl
    rw [l_X4_writeInstance, zin_t (show j < 12 by omega), zq_t, zcl (n := j) (by omega), a7 j (by omega), een, if_pos (nI_lt (by omega) (by omega)), (c_elm (w_E hw hE) hB (w_G hw hG) hm hx hj q1 q2 hkl).1, zbd_s, ← ekx]
    have ebh : bhd t x (k + 1) = (bhd t x k || decide (kd t x k ≠ -1)) := rfl
    by_cases hz : kd t x k = -1
    · rw [if_pos hz, nI_add]
      have eb : bod t f x k (c + 1) = bod t f x (k + 1) c := by
        rw [bod, if_pos hz, List.nil_append]
      rw [eb] at hl ⊢
      have e2 : bhd t x (k + 1) = bhd t x k := by rw [ebh]; simp [hz]
      have := ih (k + 1) S L K (by omega) (by omega) hw hl
      rw [e2] at this
      exact this
    · rw [if_neg hz]
      have e2 : bhd t x (k + 1) = true := by rw [ebh]; simp [hz]
      have elb : lab t x k = [nI (48 + nn), nI 61] := by
        unfold lab
        rw [q1, if_pos rfl, q2, zcl (n := j) (by omega), enn9, nI_add]
      have eb : bod t f x k (c + 1) = (if bhd t x k = true then [nI 44] else []) ++ [nI (48 + nn), nI 61] ++ f (kd t x k).toNatClampNeg ++ bod t f x (k + 1) c := by
        rw [bod, if_neg hz]
        unfold itm
        rw [elb]
      rw [eb] at hl ⊢
      have tail : ∀ S1 L1, wS κ s S1 L1 → L1.length + 2 + (f (kd t x k).toNatClampNeg).length + (bod t f x (k + 1) c).length + 50 < 2 ^ 30 → ∃ S', (zq (zin ((nI j * nI 5) + nI k) 60) <| zbd (f_X4_writeDigits M S1 (S1 12 ((nI j * nI 5) + nI k).toNatClampNeg)) (fun q3 => zbd (f_X4_writeByte M q3 (nI 61)) (fun q4 => zbd (rec 0 q4 (kd t x k) (nI d + nI 1)) (fun q5 => l_X4_writeInstance M rec K q5 (nI x) (nI d) (nI j) (nI 0) (nI k + nI 1))))) = some S' ∧ wS κ s S' (L1 ++ ([nI (48 + nn), nI 61] ++ f (kd t x k).toNatClampNeg ++ bod t f x (k + 1) c) ++ [nI 41]) := by
        intro S1 L1 w1 l1
        have hA1 := w_A w1 hA
        obtain ⟨-, -, -, -, -, -, -, -, -, b10, -⟩ := id hA1
        rw [pk_mul, nI_add, zin_t (show j * 5 + k < 60 by omega), zq_t, zcl (n := j * 5 + k) (by omega), show j * 5 + k = 5 * j + k by omega, b10 _ (by omega), enn9]
        obtain ⟨S2, g1, g2⟩ := w_num hM w1 hκ (by omega) (nI nn)
        rw [num_1 hnn] at g2
        rw [g1, zbd_s]
        obtain ⟨S3, g3, g4, -⟩ := w_b (M := M) g2 hκ (by simp; omega) (show 61 < 128 by omega)
        rw [g3, zbd_s, nI_add]
        obtain ⟨S4, g5, g6⟩ := hr k hkl hz S3 _ g4 (by simp; omega)
        rw [g5, zbd_s, nI_add]
        obtain ⟨S5, g7, g8⟩ := ih (k + 1) S4 _ K (by omega) (by omega) g6 (by simp; omega)
        rw [e2] at g7
        simp only [if_true] at g7
        refine ⟨S5, g7, ?_⟩
        simpa using g8
      by_cases cb : bhd t x k = true
      · simp only [cb, if_true] at hl ⊢
        simp only [List.length_append, List.length_cons, List.length_nil] at hl
        rw [if_pos b_00]
        obtain ⟨S1, g1, g2, -⟩ := w_b (M := M) hw hκ (by omega) (show 44 < 128 by omega)
        rw [g1, zbd_s]
        obtain ⟨S2, g3, g4⟩ := tail S1 _ g2 (by simp; omega)
        refine ⟨S2, g3, ?_⟩
        simpa using g4
      · simp only [cb, Bool.false_eq_true, if_false, List.nil_append] at hl ⊢
        simp only [List.length_append, List.length_cons, List.length_nil] at hl
        rw [if_neg b_10]
        exact tail S _ hw (by omega)
theorem bhd_r (hv : v ≤ 100) (hF : iF m v (t 6) (t 8) (t 9) (t 16) (t 17) (t 18) (t 19) (t 20)) {x n : Nat} (hx : x < v) (h : ∀ e, e < n → kd t x e ≠ -1) : ∀ k, k ≤ n → bhd t x k = decide (0 < k)
  | 0, _ => rfl
  | k + 1, hk => by
    have := h k (by omega)
    simp [bhd, this]
theorem w_val {M κ : Nat} (hM : 100 < M) (hκ : κ ≤ 1) (hA : iA m (s 2) (s 3) (s 4) (s 5) (s 6) (s 8) (s 9) (s 12) (s 13) (s 14) (t 0) (t 1) (t 2) (t 3) (t 6) (t 4) (t 5) (t 7) (t 8) (t 9)) (hB : iB m (t 6) (t 7) (t 8) (t 4) (t 5)) (hE : iE v (s 19) (s 20) (s 21) (s 22) (s 23) (s 24) (t 15) (t 16) (t 17) (t 18) (t 19) (t 20)) (hF : iF m v (t 6) (t 8) (t 9) (t 16) (t 17) (t 18) (t 19) (t 20)) (hG : iG m v (s 15) (t 6) (t 8) (t 9) (t 10) (t 16) (t 17) (t 18) (t 19) (t 20)) : ∀ n x d K S L, x < v → hg t n x → n + d ≤ 16 → n + n < K → wS κ s S L → L.length + (txt t n x).length + 50 < 2 ^ 30 →
    ∃ S', g_X4_writeValue M K 0 S (nI x) (nI d) = some S' ∧ wS κ s S' (L ++ txt t n x) := by
  have hv := hE.1
  have hm := hA.1
  -- a plain one
  have pl : ∀ x S L, x < v → t 16 x = nI 0 → wS κ s S L → L.length + 50 < 2 ^ 30 → ∃ S', f_X4_writeSimple M S (t 17 x) (t 18 x) = some S' ∧ wS κ s S' (L ++ hdr t x) := by
    intro x S L hx q hw hl
    have eh : hdr t x = pre (t 17 x) ++ num (t 18 x) := by
      unfold hdr
      rw [q, if_neg (by decide), if_neg (by decide)]
    rw [eh]
    unfold f_X4_writeSimple pre
    have one : ∀ k, k < 128 → ∃ S', zbd (f_X4_writeByte M S (nI k)) (fun q1 => zbd (f_X4_writeDigits M q1 (t 18 x)) (fun q2 => some q2)) = some S' ∧ wS κ s S' (L ++ ([nI k] ++ num (t 18 x))) := by
      intro k hk
      obtain ⟨S1, g1, g2, -⟩ := w_b (M := M) hw hκ (by omega) hk
      obtain ⟨S2, g3, g4⟩ := w_num hM g2 hκ (by simp; omega) (t 18 x)
      rw [g1, zbd_s, g3, zbd_s]
      exact ⟨S2, rfl, by simpa using g4⟩
    by_cases c1 : t 17 x = nI 1
    · rw [if_pos c1, if_pos c1]
      exact one 119 (by omega)
    by_cases c2 : t 17 x = nI 2
    · rw [if_neg c1, if_pos c2, if_neg c1, if_pos c2]
      exact one 99 (by omega)
    by_cases c3 : t 17 x = nI 3
    · rw [if_neg c1, if_neg c2, if_pos c3, if_neg c1, if_neg c2, if_pos c3]
      exact one 116 (by omega)
    rw [if_neg c1, if_neg c2, if_neg c3, if_neg c1, if_neg c2, if_neg c3]
    obtain ⟨S2, g3, g4⟩ := w_num hM hw hκ (by omega) (t 18 x)
    rw [g3, zbd_s]
    exact ⟨S2, rfl, g4⟩
  have vb : ∀ rec x S L d, x < v → d ≤ 16 → wS κ s S L → ¬ nI 2000 < S 32 0 → b_X4_writeValue M rec S (nI x) (nI d) = if t 16 x = nI 1 then zbd (rec 1 S (nI x) (nI d)) (fun q => some q) else if t 16 x = nI 2 then zbd (rec 2 S (nI x) (nI d)) (fun q => some q) else zbd (f_X4_writeSimple M S (if t 16 x = nI 2 then nI 10 + t 17 x else t 17 x) (t 18 x)) (fun q => some q) := by
    intro rec x S L d hx hd hw h2
    have hES := w_E hw hE
    obtain ⟨f1, f2, f3, f4, f5, f6, f7, f8, f9, f10⟩ := id hES
    unfold b_X4_writeValue
    rw [s_of hES hx, zbd_s, if_neg b_10, if_neg (nI_nlt (by omega) (by omega)), if_neg h2, zin_t (show x < 100 by omega), zcl (n := x) (by omega), f4 x (by omega), f5 x (by omega), f9 x hx]
    simp only [zq_t]
  have sk : ∀ rec x S L d X, x < v → d ≤ 16 → wS κ s S L → L.length < 2 ^ 30 → nI 2000 < S 32 0 → ∃ S', b_X4_writeValue M rec S (nI x) (nI d) = some S' ∧ wS κ s S' (L ++ X) := by
    intro rec x S L d X hx hd hw hl h2
    unfold b_X4_writeValue
    rw [s_of (w_E hw hE) hx, zbd_s, if_neg b_10, if_neg (nI_nlt (by omega) (by omega)), if_pos h2]
    exact ⟨S, rfl, w_skip hw hl h2 X⟩
  intro n
  induction n with
  | zero =>
    intro x d K S L hx hh hd hK hw hl
    obtain ⟨K, rfl⟩ : ∃ K', K = K' + 1 := ⟨K - 1, by omega⟩
    have hh : t 16 x = nI 0 := hh
    rw [g_X4_writeValue]
    show ∃ S', b_X4_writeValue _ _ _ _ _ = some S' ∧ _
    by_cases h2 : nI 2000 < S 32 0
    · exact sk _ x S L d _ hx (by omega) hw (by omega) h2
    · rw [vb _ x S L d hx (by omega) hw h2, hh, if_neg (by decide), if_neg (by decide), if_neg (by decide)]
      obtain ⟨S', g1, g2⟩ := pl x S L hx hh hw (by omega)
      rw [g1, zbd_s]
      exact ⟨S', rfl, g2⟩
  | succ n ih =>
    intro x d K S L hx hh hd hK hw hl
    obtain ⟨K, rfl⟩ : ∃ K', K = K' + 2 := ⟨K - 2, by omega⟩
    rw [g_X4_writeValue]
    show ∃ S', b_X4_writeValue _ _ _ _ _ = some S' ∧ _
    by_cases h2 : nI 2000 < S 32 0
    · exact sk _ x S L d _ hx (by omega) hw (by omega) h2
    rw [vb _ x S L d hx (by omega) hw h2]
    obtain ⟨h5, hk⟩ := w_kid hm hv hB hF hG hx
    have key : ∀ e, e < wd t x → kd t x e ≠ -1 → ∀ S L, wS κ s S L → L.length + (txt t n (kd t x e).toNatClampNeg).length + 50 < 2 ^ 30 → ∃ S', g_X4_writeValue M K 0 S (kd t x e) (nI (d + 1)) = some S' ∧ wS κ s S' (L ++ txt t n (kd t x e).toNatClampNeg) := by
      intro e he hne S L hw hl
      rcases hk e he with z | ⟨y, y1, y2⟩
      · exact absurd z hne
      · have hch : hg t n (kd t x e).toNatClampNeg := hh e he hne
        have y2 : kd t x e = nI y := y2
        rw [y2, zcl (by omega)] at hch hl ⊢
        exact ih y (d + 1) K S L y1 hch (by omega) (by omega) hw hl
    obtain ⟨-, q⟩ := hF x hx
    rcases q with ⟨q, -⟩ | ⟨q, -, n', hn', en, hc⟩ | ⟨q, j, hj, ej, hc⟩
    · rw [q, if_neg (by decide), if_neg (by decide), if_neg (by decide), txt_0 q]
      obtain ⟨S', g1, g2⟩ := pl x S L hx q hw (by omega)
      rw [g1, zbd_s]
      exact ⟨S', rfl, g2⟩
    · have hne0 : t 16 x ≠ nI 0 := by rw [q]; decide
      have ew : wd t x = n' := by
        unfold wd wth
        rw [q, if_pos rfl, en, zcl (by omega)]
      have ekx : ∀ e, kd t x e = t 20 (5 * x + e) := fun e => if_neg (by rw [q]; decide)
      have hne : ∀ e, e < n' → kd t x e ≠ -1 := by
        intro e he
        obtain ⟨y, y1, y2, -⟩ := hc e he
        rw [ekx, y2]
        exact nI_m1 (by omega)
      have eh : hdr t x = [nI 123] := by unfold hdr; rw [if_pos q]
      have ec : cls t x = [nI 125] := by unfold cls; rw [if_pos q]
      rw [txt_s hne0, eh, ec, ew] at hl ⊢
      simp only [List.length_append, List.length_cons, List.length_nil] at hl
      rw [if_pos q]
      show ∃ S', zbd (b_X4_writeRow M (g_X4_writeValue M K) S (nI x) (nI d)) _ = some S' ∧ _
      unfold b_X4_writeRow
      obtain ⟨S1, g1, g2, -⟩ := w_b (M := M) hw hκ (by omega) (show 123 < 128 by omega)
      rw [g1, zbd_s]
      obtain ⟨S2, g3, g4⟩ := w_rw (M := M) (rec := g_X4_writeValue M K) (f := txt t n) (d := d) hκ hE hF hx q hn' en (bhd_r hv hF hx hne) (fun e he => ⟨hne e he, by rw [← ekx]; exact key e (by omega) (hne e he)⟩) n' 0 S1 _ M (by omega) (by omega) g2 (by simp; omega)
      have g3 : l_X4_writeRow M (g_X4_writeValue M K) M S1 (nI x) (nI d) (nI 0) = some S2 := g3
      rw [g3, zbd_s]
      refine ⟨S2, rfl, ?_⟩
      simpa using g4
    · have hne0 : t 16 x ≠ nI 0 := by rw [q]; decide
      have ew : wd t x = enn (t 6) j := by
        unfold wd wth
        rw [q, if_neg (by decide), if_pos rfl, ej, zcl (by omega)]
      have eh : hdr t x = [nI 64] ++ num (nI j) ++ [nI 40] := by unfold hdr; rw [q, if_neg (by decide), if_pos rfl, ej]
      have ec : cls t x = [nI 41] := by unfold cls; rw [q, if_neg (by decide)]
      have hw5 : wd t x ≤ 5 := h5
      rw [txt_s hne0, eh, ec, ew] at hl ⊢
      simp only [List.length_append, List.length_cons, List.length_nil] at hl
      rw [if_neg (by rw [q]; decide), if_pos q]
      show ∃ S', zbd (b_X4_writeInstance M (g_X4_writeValue M K) S (nI x) (nI d)) _ = some S' ∧ _
      unfold b_X4_writeInstance
      rw [c_mkof (w_E hw hE) hm hx hj q ej, zbd_s]
      obtain ⟨S1, g1, g2, -⟩ := w_b (M := M) hw hκ (by omega) (show 64 < 128 by omega)
      rw [g1, zbd_s]
      obtain ⟨S2, g3, g4⟩ := w_num hM g2 hκ (by simp; omega) (nI j)
      rw [g3, zbd_s]
      obtain ⟨S3, g5, g6, -⟩ := w_b (M := M) g4 hκ (by simp; omega) (show 40 < 128 by omega)
      rw [g5, zbd_s]
      obtain ⟨S4, g7, g8⟩ := w_in (rec := g_X4_writeValue M K) (f := txt t n) (d := d) hM hκ hA hB hE hF hG hx hj q ej (fun e he hne => key e (by omega) hne) (enn (t 6) j) 0 S3 _ M (by omega) (by omega) g6 (by simp; omega)
      have g7 : l_X4_writeInstance M (g_X4_writeValue M K) M S3 (nI x) (nI d) (nI j) (nI 1) (nI 0) = some S4 := g7
      rw [g7, zbd_s]
      refine ⟨S4, rfl, ?_⟩
      simpa using g8
end TX
