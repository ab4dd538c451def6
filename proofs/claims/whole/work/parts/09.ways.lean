section ZT
variable {p : Program} {l : Launch} {e : Env} {R : Room} {s : State} {m : MethodId} {args : Array Value} {below : List Frame} {meth : Method} {c : Code} {H : Heap} {locs : List Loc} {cells slots : Nat} {Q : State → Prop}
variable {D : va_G} {a : Nat → Nat} {cA : Nat → ClassId} {tb : zTb} {A : Nat → Prop} {own d nL : Nat} {cc : ByteArray} {ls : Array Slot} {lv st : List Value} {h : zH}
theorem zcmp_W {cd : Jvm.ClassFile.Cond} {off : Int} {pc : Nat} {x y : Int32} {rest : List Value} (hx : p.tables.exec = Jvm.exec) (hb : c.code = cc) (hd : decode cc pc = .ok (.if_icmp cd off, 3)) (ht : ztok pc off = true)
    (k : W p l e R s m args below meth c H locs cells slots Q (F0 m (zcmp cd x y (zto pc off) (pc + 3)) ls rest)) : W p l e R s m args below meth c H locs cells slots Q (F0 m pc ls (.int y :: .int x :: rest)) := by
  have h0 := zto_ok ht
  cases cd with
  | eq => exact lv_icmp_eq hx hb hd h0 (fun q => by simpa only [zcmp, if_pos q] using k) (fun q => by simpa only [zcmp, if_neg q] using k)
  | ne => exact lv_icmp_ne hx hb hd h0 (fun q => by simpa only [zcmp, if_neg q] using k) (fun q => by simpa only [zcmp, if_pos q] using k)
  | lt => exact lv_icmp_lt hx hb hd h0 (fun q => by simpa only [zcmp, if_pos q] using k) (fun q => by simpa only [zcmp, if_neg q] using k)
  | ge => exact lv_icmp_ge hx hb hd h0 (fun q => by simpa only [zcmp, if_neg (Int32.not_lt.mpr q)] using k) (fun q => by simpa only [zcmp, if_pos (Int32.not_le.mp q)] using k)
  | gt => exact lv_icmp_gt hx hb hd h0 (fun q => by simpa only [zcmp, if_pos q] using k) (fun q => by simpa only [zcmp, if_neg q] using k)
  | le => exact lv_icmp_le hx hb hd h0 (fun q => by simpa only [zcmp, if_neg (Int32.not_lt.mpr q)] using k) (fun q => by simpa only [zcmp, if_pos (Int32.not_le.mp q)] using k)
theorem zcm0_W {cd : Jvm.ClassFile.Cond} {off : Int} {pc : Nat} {x : Int32} {rest : List Value} (hx : p.tables.exec = Jvm.exec) (hb : c.code = cc) (hd : decode cc pc = .ok (.ifCond cd off, 3)) (ht : ztok pc off = true)
    (k : W p l e R s m args below meth c H locs cells slots Q (F0 m (zcmp cd x 0 (zto pc off) (pc + 3)) ls rest)) : W p l e R s m args below meth c H locs cells slots Q (F0 m pc ls (.int x :: rest)) := by
  have h0 := zto_ok ht
  cases cd with
  | eq => exact lv_if_eq hx hb hd h0 (fun q => by simpa only [zcmp, if_pos q] using k) (fun q => by simpa only [zcmp, if_neg q] using k)
  | ne => exact lv_if_ne hx hb hd h0 (fun q => by simpa only [zcmp, if_neg q] using k) (fun q => by simpa only [zcmp, if_pos q] using k)
  | lt => exact lv_if_lt hx hb hd h0 (fun q => by simpa only [zcmp, if_pos q] using k) (fun q => by simpa only [zcmp, if_neg q] using k)
  | ge => exact lv_if_ge hx hb hd h0 (fun q => by simpa only [zcmp, if_neg (Int32.not_lt.mpr q)] using k) (fun q => by simpa only [zcmp, if_pos (Int32.not_le.mp q)] using k)
  | gt => exact lv_if_gt hx hb hd h0 (fun q => by simpa only [zcmp, if_pos q] using k) (fun q => by simpa only [zcmp, if_neg q] using k)
  | le => exact lv_if_le hx hb hd h0 (fun q => by simpa only [zcmp, if_neg (Int32.not_lt.mpr q)] using k) (fun q => by simpa only [zcmp, if_pos (Int32.not_le.mp q)] using k)
theorem zki_int {k : Int} (h1 : -1000 ≤ k) (h2 : k ≤ 1000) : (zki k).toInt = k := by
  unfold zki
  exact Int32.toInt_ofInt_of_le (by omega) (by omega)
theorem zsw_lk {pc : Nat} {d : Int} {x : Int32} : ∀ (ps : List (Int × Int)), ps.all (fun q => ztok pc q.2 && decide (-1000 ≤ q.1) && decide (q.1 ≤ 1000)) = true → ztok pc d = true → (pc : Int) + Op.lookupswitch.offset ps d x.toInt = (zsw pc ps d x : Int)
  | [], _, hd => zto_ok hd
  | (k, o) :: r, hp, hd => by
    simp only [List.all_cons, Bool.and_eq_true, decide_eq_true_eq] at hp
    obtain ⟨⟨⟨h1, h2⟩, h3⟩, h4⟩ := hp
    have hk := zki_int h2 h3
    by_cases hx : x = zki k
    · have e1 : zsw pc ((k, o) :: r) d x = zto pc o := by simp only [zsw, if_pos hx]
      have e2 : Op.lookupswitch.offset ((k, o) :: r) d x.toInt = o := by
        rw [hx, hk]
        simp [Op.lookupswitch.offset]
      rw [e1, e2]
      exact zto_ok h1
    · have e1 : zsw pc ((k, o) :: r) d x = zsw pc r d x := by simp only [zsw, if_neg hx]
      rw [e1, lv_osw hx hk]
      exact zsw_lk r (by simpa only [Bool.and_eq_true, decide_eq_true_eq] using h4) hd
theorem zsw_tb {pc : Nat} {d : Int} {x : Int32} : ∀ (offs : List Int) (lo : Int), offs.all (ztok pc) = true → ztok pc d = true → -1000 ≤ lo → lo + offs.length ≤ 1001 →
    ((x.toInt < lo ∨ lo + offs.length ≤ x.toInt) → (pc : Int) + d = (zsw pc (ztp lo offs) d x : Int)) ∧ (∀ off, lo ≤ x.toInt → offs[(x.toInt - lo).toNat]? = some off → (pc : Int) + off = (zsw pc (ztp lo offs) d x : Int))
  | [], lo, _, hd, _, _ => ⟨fun _ => zto_ok hd, fun off _ h => by simp at h⟩
  | o :: r, lo, hp, hd, h1, h2 => by
    simp only [List.all_cons, Bool.and_eq_true] at hp
    simp only [List.length_cons] at h2
    have hk : (zki lo).toInt = lo := zki_int h1 (by omega)
    obtain ⟨ih1, ih2⟩ := zsw_tb r (lo + 1) hp.2 hd (by omega) (by push_cast at h2 ⊢; omega)
    by_cases hx : x = zki lo
    · have e1 : zsw pc (ztp lo (o :: r)) d x = zto pc o := by simp only [ztp, zsw, if_pos hx]
      have ex : x.toInt = lo := by rw [hx, hk]
      refine ⟨fun h => ?_, fun off h3 h4 => ?_⟩
      · rw [ex] at h
        simp only [List.length_cons] at h
        omega
      · rw [ex, Int.sub_self] at h4
        have h4 : some o = some off := h4
        cases h4
        rw [e1]
        exact zto_ok hp.1
    · have e1 : zsw pc (ztp lo (o :: r)) d x = zsw pc (ztp (lo + 1) r) d x := by simp only [ztp, zsw, if_neg hx]
      have ex : ¬ x.toInt = lo := lv_neT hx hk
      rw [e1]
      refine ⟨fun h => ih1 ?_, fun off h3 h4 => ih2 off (by omega) ?_⟩
      · simp only [List.length_cons] at h
        omega
      · rw [show (x.toInt - lo).toNat = (x.toInt - (lo + 1)).toNat + 1 by omega] at h4
        exact h4
end ZT
