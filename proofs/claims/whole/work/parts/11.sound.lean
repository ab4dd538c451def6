section ZX
variable {p : Program} {l : Launch} {e : Env} {R : Room} {s : State} {m : MethodId} {args : Array Value} {below : List Frame} {meth : Method} {c : Code} {cells slots : Nat} {Q : State → Prop}
variable {D : va_G} {a : Nat → Nat} {cA : Nat → ClassId} {tb : zTb} {A : Nat → Prop} {own d nL : Nat} {cc : ByteArray}
theorem zs_st1 {H : Heap} {locs : List Loc} {ls : Array Slot} {lv lv' r : List Value} {i pc len : Nat} {x : Int32} {h : zH} {ins : zI} (hrow : ∀ {lw : List (Nat × Value)}, lv_has ls nL lw → i < nL → (∀ ls' : Array Slot, lv_has ls' nL ((i, Value.int x) :: lw.filter (fun q => !(q.1 == i) && !(q.1 + 1 == i && q.2.category == 2))) → W p l e R s m args below meth c H locs cells slots Q (F0 m (pc + len) ls' (r.map (zv a)))) → W p l e R s m args below meth c H locs cells slots Q (F0 m pc ls (.int x :: r.map (zv a))))
    (hz : zst1 lv i (.int x) = some lv') (hln : lv.length = nL) (hI : zIv D a cA A s h H locs) (hl : zls a ls lv) (k : zK p l e R s m args below meth c cells slots Q D a cA A nL (pc + len) lv' r h) : W p l e R s m args below meth c H locs cells slots Q (F0 m pc ls (.int x :: r.map (zv a))) := by
  subst hln
  refine hrow (zls_has hl) (zst1_lt hz) (fun ls' hl' => ?_)
  obtain ⟨g1, g2⟩ := zls_st1 (a := a) hz hl'
  exact k H locs ls' hI g1 g2
set_option maxHeartbeats 4000000 in
theorem zstep_W {cal : zCal} {i : zI} {len pc pc' : Nat} {lv st lv' st' : List Value} {h h' : zH} {H : Heap} {locs : List Loc} {ls : Array Slot} (C0 : zCx p R s m args c cells slots D a cA tb A own d nL cc) (hcal : ∀ q av h r h', cal q av h = some (r, h') → zCon l tb d q av h r h') (hd : decode cc pc = .ok (i, len)) (hlo : zlo (pc, i, len) = true) (hz : zstep tb cal own i len pc lv st h = some (pc', lv', st', h')) (hln : lv.length = nL) (hI : zIv D a cA A s h H locs) (hl : zls a ls lv)
    (k : zK p l e R s m args below meth c cells slots Q D a cA A nL pc' lv' st' h') : W p l e R s m args below meth c H locs cells slots Q (F0 m pc ls (st.map (zv a))) := by
  obtain ⟨hx, hb, hml, hown, hts, hA, hg, hcs, hfr, hlc⟩ := id C0
  cases i
  case iconst n =>
    obtain rfl : len = 1 := of_decide_eq_true hlo
    cases hz
    exact lv_iconst hx hb hd rfl (k H locs ls hI hl hln)
  case bipush n =>
    obtain rfl : len = 2 := of_decide_eq_true hlo
    cases hz
    exact lv_bipush hx hb hd rfl (k H locs ls hI hl hln)
  case sipush n =>
    obtain rfl : len = 3 := of_decide_eq_true hlo
    cases hz
    exact lv_sipush hx hb hd rfl (k H locs ls hI hl hln)
  case lconst n =>
    obtain rfl : len = 1 := of_decide_eq_true hlo
    cases hz
    exact lv_lconst hx hb hd rfl (k H locs ls hI hl hln)
  case ldc2_w idx =>
    obtain rfl : len = 3 := of_decide_eq_true hlo
    simp only [zstep] at hz
    split at hz
    · rename_i v y hv
      cases hz
      have hf := zlT_ok own _ (zlook_mem hv)
      unfold zlok at hf
      simp only [decide_eq_true_eq] at hf
      exact lv_ldc2 hx hb hown (hts _ (List.mem_of_getElem? hf)) hd (k H locs ls hI hl hln)
    · cases hz
  case iload_n n =>
    obtain rfl : len = 1 := of_decide_eq_true hlo
    obtain ⟨x, h1, rfl, rfl, rfl, rfl⟩ := zload_ok hz
    exact lv_iload_n hx hb hd rfl (zkl_at hl h1 rfl) (k H locs ls hI hl hln)
  case iload n =>
    obtain rfl : len = 2 := of_decide_eq_true hlo
    obtain ⟨x, h1, rfl, rfl, rfl, rfl⟩ := zload_ok hz
    exact lv_iload hx hb hd (zkl_at hl h1 rfl) (k H locs ls hI hl hln)
  case lload_n n =>
    obtain rfl : len = 1 := of_decide_eq_true hlo
    obtain ⟨x, h1, rfl, rfl, rfl, rfl⟩ := zloadl_ok hz
    exact lv_lload_n hx hb hd rfl (zkl_at hl h1 rfl) (k H locs ls hI hl hln)
  case aload_n n =>
    obtain rfl : len = 1 := of_decide_eq_true hlo
    obtain ⟨x, h1, rfl, rfl, rfl, rfl⟩ := zloada_ok hz
    exact lv_aload_n hx hb hd rfl (zkl_at hl h1 rfl) (k H locs ls hI hl hln)
  case istore_n n =>
    obtain rfl : len = 1 := of_decide_eq_true hlo
    obtain ⟨x, rfl, h1, rfl, rfl⟩ := zstore_ok hz
    subst hln
    refine lv_istore_n hx hb hd rfl (zls_has hl) (zst1_lt h1) rfl (fun ls' hl' => ?_)
    obtain ⟨g1, g2⟩ := zls_st1 (a := a) h1 hl'
    exact k H locs ls' hI g1 g2
  case istore n =>
    obtain rfl : len = 2 := of_decide_eq_true hlo
    obtain ⟨x, rfl, h1, rfl, rfl⟩ := zstore_ok hz
    subst hln
    refine lv_istore hx hb hd (zls_has hl) (zst1_lt h1) rfl (fun ls' hl' => ?_)
    obtain ⟨g1, g2⟩ := zls_st1 (a := a) h1 hl'
    exact k H locs ls' hI g1 g2
  case lstore_n n =>
    obtain rfl : len = 1 := of_decide_eq_true hlo
    obtain ⟨x, rfl, h1, rfl, rfl⟩ := zstorel_ok hz
    subst hln
    refine lv_lstore_n hx hb hd rfl (zls_has hl) (zst2_lt h1) rfl (fun ls' hl' => ?_)
    obtain ⟨g1, g2⟩ := zls_st2 (a := a) h1 hl'
    exact k H locs ls' hI g1 g2
  case iinc n v =>
    obtain rfl : len = 3 := of_decide_eq_true hlo
    simp only [zstep] at hz
    split at hz
    · rename_i x hv
      split at hz
      · rename_i lv2 h1
        cases hz
        subst hln
        obtain ⟨kk, hk⟩ := List.getElem?_of_mem (zkl_mem (a := a) (q := (n, zv a (.int x))).mpr ⟨_, hv, rfl, rfl⟩)
        refine lv_iinc hx hb hd (zls_has hl) hk rfl (zst1_lt h1) rfl (fun ls' hl' => ?_)
        obtain ⟨g1, g2⟩ := zls_st1 (a := a) h1 hl'
        exact k H locs ls' hI g1 g2
      · cases hz
    · cases hz
  case iadd =>
    obtain rfl : len = 1 := of_decide_eq_true hlo
    obtain ⟨x, y, r, rfl, rfl, rfl, rfl, rfl⟩ := zbin_ok hz
    exact lv_iadd hx hb hd (k H locs ls hI hl hln)
  case isub =>
    obtain rfl : len = 1 := of_decide_eq_true hlo
    obtain ⟨x, y, r, rfl, rfl, rfl, rfl, rfl⟩ := zbin_ok hz
    exact lv_isub hx hb hd (k H locs ls hI hl hln)
  case imul =>
    obtain rfl : len = 1 := of_decide_eq_true hlo
    obtain ⟨x, y, r, rfl, rfl, rfl, rfl, rfl⟩ := zbin_ok hz
    exact lv_imul hx hb hd (k H locs ls hI hl hln)
  case iand =>
    obtain rfl : len = 1 := of_decide_eq_true hlo
    obtain ⟨x, y, r, rfl, rfl, rfl, rfl, rfl⟩ := zbin_ok hz
    exact lv_iand hx hb hd (k H locs ls hI hl hln)
  case ior =>
    obtain rfl : len = 1 := of_decide_eq_true hlo
    obtain ⟨x, y, r, rfl, rfl, rfl, rfl, rfl⟩ := zbin_ok hz
    exact lv_ior hx hb hd (k H locs ls hI hl hln)
  case ixor =>
    obtain rfl : len = 1 := of_decide_eq_true hlo
    obtain ⟨x, y, r, rfl, rfl, rfl, rfl, rfl⟩ := zbin_ok hz
    exact lv_ixor hx hb hd (k H locs ls hI hl hln)
  case ishl =>
    obtain rfl : len = 1 := of_decide_eq_true hlo
    obtain ⟨x, y, r, rfl, rfl, rfl, rfl, rfl⟩ := zbin_ok hz
    exact lv_ishl hx hb hd (k H locs ls hI hl hln)
  case ldiv =>
    obtain rfl : len = 1 := of_decide_eq_true hlo
    obtain ⟨x, y, r, rfl, hne, rfl, rfl, rfl, rfl⟩ := zbinl_ok hz
    exact lv_ldiv hx hb hd hne (k H locs ls hI hl hln)
  case lrem =>
    obtain rfl : len = 1 := of_decide_eq_true hlo
    obtain ⟨x, y, r, rfl, hne, rfl, rfl, rfl, rfl⟩ := zbinl_ok hz
    exact lv_lrem hx hb hd hne (k H locs ls hI hl hln)
  case lneg =>
    obtain rfl : len = 1 := of_decide_eq_true hlo
    simp only [zstep] at hz
    split at hz
    · cases hz
      exact lv_lneg hx hb hd (k H locs ls hI hl hln)
    · cases hz
  case lcmp =>
    obtain rfl : len = 1 := of_decide_eq_true hlo
    simp only [zstep] at hz
    split at hz
    · cases hz
      exact W.lcmp hx hb hd (k H locs ls hI hl hln)
    · cases hz
  case i2l =>
    obtain rfl : len = 1 := of_decide_eq_true hlo
    simp only [zstep] at hz
    split at hz
    · cases hz
      exact lv_i2l hx hb hd rfl (k H locs ls hI hl hln)
    · cases hz
  case l2i =>
    obtain rfl : len = 1 := of_decide_eq_true hlo
    simp only [zstep] at hz
    split at hz
    · cases hz
      exact lv_l2i hx hb hd rfl (k H locs ls hI hl hln)
    · cases hz
  case i2b =>
    obtain rfl : len = 1 := of_decide_eq_true hlo
    obtain ⟨x, r, rfl, rfl, rfl, rfl, rfl⟩ := zun_ok hz
    exact lv_i2b hx hb hd rfl (k H locs ls hI hl hln)
  case dup =>
    obtain rfl : len = 1 := of_decide_eq_true hlo
    simp only [zstep] at hz
    split at hz
    · split at hz
      · cases hz
      · rename_i hc
        cases hz
        exact lv_dup hx hb hd (by rw [zv_cat]; exact zc2_cat (by simpa using hc)) (k H locs ls hI hl hln)
    · cases hz
  case dup2 =>
    obtain rfl : len = 1 := of_decide_eq_true hlo
    simp only [zstep] at hz
    split at hz
    · split at hz
      · cases hz
      · rename_i hc
        cases hz
        have hc := Bool.or_eq_false_iff.mp (Bool.not_eq_true _ ▸ hc)
        exact lv_dup2_11 hx hb hd (by rw [zv_cat]; exact zc2_cat hc.1) (by rw [zv_cat]; exact zc2_cat hc.2) (k H locs ls hI hl hln)
    · cases hz
  case pop =>
    obtain rfl : len = 1 := of_decide_eq_true hlo
    simp only [zstep] at hz
    split at hz
    · split at hz
      · cases hz
      · rename_i hc
        cases hz
        exact lv_pop hx hb hd (by rw [zv_cat]; exact zc2_cat (by simpa using hc)) (k H locs ls hI hl hln)
    · cases hz
  case goto off =>
    have hlo2 : (decide (len = 3) && ztok pc off) = true := hlo
    simp only [Bool.and_eq_true, decide_eq_true_eq] at hlo2
    obtain ⟨rfl, ht⟩ := hlo2
    cases hz
    exact lv_goto hx hb hd (zto_ok ht) (k H locs ls hI hl hln)
  case ifCond cd off =>
    have hlo2 : (decide (len = 3) && ztok pc off) = true := hlo
    simp only [Bool.and_eq_true, decide_eq_true_eq] at hlo2
    obtain ⟨rfl, ht⟩ := hlo2
    simp only [zstep] at hz
    split at hz
    · cases hz
      exact zcm0_W hx hb hd ht (k H locs ls hI hl hln)
    · cases hz
  case if_icmp cd off =>
    have hlo2 : (decide (len = 3) && ztok pc off) = true := hlo
    simp only [Bool.and_eq_true, decide_eq_true_eq] at hlo2
    obtain ⟨rfl, ht⟩ := hlo2
    simp only [zstep] at hz
    split at hz
    · cases hz
      exact zcmp_W hx hb hd ht (k H locs ls hI hl hln)
    · cases hz
  case tableswitch dd lo hi offs =>
    have hlo2 : (ztok pc dd && offs.toList.all (ztok pc) && decide (hi = lo + offs.toList.length - 1) && decide (-1000 ≤ lo) && decide (hi ≤ 1000)) = true := hlo
    simp only [Bool.and_eq_true, decide_eq_true_eq] at hlo2
    obtain ⟨⟨⟨⟨t1, t2⟩, t3⟩, t4⟩, t5⟩ := hlo2
    simp only [zstep] at hz
    split at hz
    · rename_i x r
      cases hz
      obtain ⟨g1, g2⟩ := zsw_tb (pc := pc) (d := dd) (x := x) offs.toList lo t2 t1 t4 (by omega)
      by_cases c1 : x.toInt < lo
      · exact lv_tableOut hx hb hd (Or.inl c1) (g1 (Or.inl c1)) (k H locs ls hI hl hln)
      · by_cases c2 : hi < x.toInt
        · exact lv_tableOut hx hb hd (Or.inr c2) (g1 (Or.inr (by omega))) (k H locs ls hI hl hln)
        · have hin : (x.toInt - lo).toNat < offs.size := by
            have : offs.toList.length = offs.size := Array.length_toList
            omega
          exact lv_tableIn hx hb hd c1 c2 (Array.getElem?_eq_getElem hin) (g2 _ (by omega) (by rw [Array.getElem?_toList]; exact Array.getElem?_eq_getElem hin)) (k H locs ls hI hl hln)
    · cases hz
  case lookupswitch dd ps =>
    have hlo2 : (ztok pc dd && ps.toList.all (fun q => ztok pc q.2 && decide (-1000 ≤ q.1) && decide (q.1 ≤ 1000)) && (ps.toList.zip (ps.toList.drop 1)).all (fun (a, next) => a.1 < next.1)) = true := hlo
    rw [Bool.and_eq_true, Bool.and_eq_true] at hlo2
    obtain ⟨⟨t1, t2⟩, t3⟩ := hlo2
    simp only [zstep] at hz
    split at hz
    · rename_i x r
      cases hz
      exact lv_lookup hx hb hd t3 rfl (zsw_lk _ t2 t1) (k H locs ls hI hl hln)
    · cases hz
  case getfield idx =>
    obtain rfl : len = 3 := of_decide_eq_true hlo
    exact zs_getf C0 hd hz hln hI hl k
  case putfield idx =>
    obtain rfl : len = 3 := of_decide_eq_true hlo
    exact zs_putf C0 hd hz hln hI hl k
  case getstatic idx =>
    obtain rfl : len = 3 := of_decide_eq_true hlo
    simp only [zstep] at hz
    split at hz
    · rename_i hc
      simp only [Bool.and_eq_true, decide_eq_true_eq] at hc
      obtain ⟨rfl, rfl⟩ := hc
      cases hz
      exact va_getsN (v := .ref (a 1000)) hx hb hg.2.2.1 hI.2.2 hown (va_Nw.use rfl hg.2.2.2) (fun _ h9 => h9) hd (k H locs ls hI hl hln)
    · cases hz
  case iaload =>
    obtain rfl : len = 1 := of_decide_eq_true hlo
    exact zs_ial C0 hd hz hln hI hl k
  case baload =>
    obtain rfl : len = 1 := of_decide_eq_true hlo
    exact zs_bal C0 hd hz hln hI hl k
  case iastore =>
    obtain rfl : len = 1 := of_decide_eq_true hlo
    exact zs_ias C0 hd hz hln hI hl k
  case bastore =>
    obtain rfl : len = 1 := of_decide_eq_true hlo
    exact zs_bas C0 hd hz hln hI hl k
  case arraylength =>
    obtain rfl : len = 1 := of_decide_eq_true hlo
    simp only [zstep] at hz
    split at hz
    · rename_i q r
      split at hz
      · rename_i n hn
        cases hz
        unfold zlenA at hn
        by_cases hq : q < 1000
        · rw [if_pos hq] at hn
          split at hn
          · rename_i t n' f hq2
            split at hn
            · rename_i ht
              cases hn
              have hw := zw_at (a := a) (cA := cA) hq2
              match t, ht, hw with
              | 0, _, hw => exact va_alen hx hb hg.1 hI.1 q 0 hw rfl rfl hd (k H locs ls hI hl hln)
              | 1, _, hw => exact va_alen hx hb hg.1 hI.1 q 1 hw rfl rfl hd (k H locs ls hI hl hln)
              | 2, _, hw => exact va_alen hx hb hg.1 hI.1 q 2 hw rfl rfl hd (k H locs ls hI hl hln)
            · cases hn
          · cases hn
        · rw [if_neg hq] at hn
          cases h1 : tb (q - 1000) with
          | none => rw [h1] at hn; cases hn
          | some nf =>
            rw [h1] at hn
            cases hn
            have hT := hg.2.1 _ _ _ h1
            rw [Nat.add_sub_of_le (Nat.not_lt.mp hq)] at hT
            exact va_tlen hx hb hT hI.2.2 rfl hd (k H locs ls hI hl hln)
      · cases hz
    · cases hz
  case invokevirtual idx =>
    obtain rfl : len = 3 := of_decide_eq_true hlo
    exact zs_inv C0 hcal hd hz hln hI hl k
  case invokestatic idx =>
    obtain rfl : len = 3 := of_decide_eq_true hlo
    exact zs_ins C0 hcal hd hz hln hI hl k
  all_goals first | cases hz | cases hlo
theorem zex_W {cal : zCal} {rt : Nat} {cd : zCd} {r : Option Value} {h' : zH} (C0 : zCx p R s m args c cells slots D a cA tb A own d nL cc) (hcal : ∀ q av h r h', cal q av h = some (r, h') → zCon l tb d q av h r h') (hcd : ∀ q ∈ cd, ∀ x ∈ q.2, decode cc x.1 = .ok x.2 ∧ zlo x = true)
    (hend : ∀ (pc len : Nat) (i : zI) (st : List Value) (H : Heap) (locs : List Loc) (ls : Array Slot), decode cc pc = .ok (i, len) → zlo (pc, i, len) = true → zend rt i st = some r → zIv D a cA A s h' H locs → W p l e R s m args below meth c H locs cells slots Q (F0 m pc ls (st.map (zv a)))) :
    ∀ (n pc : Nat) (lv st : List Value) (h : zH), zex tb cal own rt cd n pc lv st h = some (r, h') → lv.length = nL → ∀ (H : Heap) (locs : List Loc) (ls : Array Slot), zIv D a cA A s h H locs → zls a ls lv → W p l e R s m args below meth c H locs cells slots Q (F0 m pc ls (st.map (zv a))) := by
  intro n
  induction n with
  | zero => intro pc lv st h q; cases q
  | succ n ih =>
    intro pc lv st h q hln H locs ls hI hl
    unfold zex at q
    cases h1 : zfe cd pc with
    | none => rw [h1] at q; cases q
    | some e1 =>
      obtain ⟨i, len⟩ := e1
      obtain ⟨qz, hz1, hz2⟩ := zfe_mem h1
      obtain ⟨hd, hlo⟩ := hcd qz hz1 _ hz2
      rw [h1] at q
      simp only at q
      cases h2 : zend rt i st with
      | some v =>
        rw [h2] at q
        cases q
        exact hend pc len i st H locs ls hd hlo h2 hI
      | none =>
        rw [h2] at q
        simp only at q
        cases h3 : zstep tb cal own i len pc lv st h with
        | none => rw [h3] at q; cases q
        | some w =>
          obtain ⟨pc', lv', st', h2'⟩ := w
          rw [h3] at q
          exact zstep_W C0 hcal hd hlo h3 hln hI hl (fun H1 locs1 ls1 hI1 hl1 hln1 => ih pc' lv' st' h2' q hln1 H1 locs1 ls1 hI1 hl1)
end ZX
