/-! All instructions that call nothing. -/
section BOS5
variable {p : Program} {l : Launch} {e : Env} {R : Room} {s : State} {mm : MethodId} {args : Array Value} {below : List Frame} {meth : Method} {c : Code} {Q : State → Prop}
variable {X : bo_X} {kC kS n0 : Nat} {ad0 : Nat → Nat} {m : bo_M}
theorem bo_Wg.tsw {pc len : Nat} {d lo hi : Int} {offs : Array Int} {x : Int32} {lv : bo_LV} {r : List Value} {G : bo_G} (C : bo_Cx p s mm args meth c m) (hd : decode (bo_cc m) pc = .ok (.tableswitch d lo hi offs, len)) (h0 : 0 ≤ bo_tsw pc d lo hi offs x.toInt) (h1 : (hi - lo).toNat < offs.toList.length) (kk : bo_Wg p l e R s mm args below meth c Q X kC kS n0 ad0 m ((bo_tsw pc d lo hi offs x.toInt).toNat, lv, r, G)) : bo_Wg p l e R s mm args below meth c Q X kC kS n0 ad0 m (pc, lv, .int x :: r, G) := by
  obtain ⟨hx, hb, -⟩ := C
  refine kk.pure (fun h => h.tl) fun H locs ls ad pa g1 g2 k1 => ?_
  rw [List.map_cons]
  by_cases hq : x.toInt < lo ∨ hi < x.toInt
  · have e : bo_tsw pc d lo hi offs x.toInt = pc + d := if_pos hq
    rw [e] at h0 k1
    exact lv_tableOut hx hb hd hq (by omega) k1
  · have e : bo_tsw pc d lo hi offs x.toInt = pc + offs.toList.getD (x.toInt - lo).toNat 0 := if_neg hq
    rw [e] at h0 k1
    have hlt : (x.toInt - lo).toNat < offs.toList.length := by omega
    refine lv_tableIn (off := offs.toList.getD (x.toInt - lo).toNat 0) hx hb hd (fun z => hq (Or.inl z)) (fun z => hq (Or.inr z)) ?_ (by omega) k1
    rw [← Array.getElem?_toList, List.getD_eq_getElem?_getD, List.getElem?_eq_getElem hlt]
    rfl
theorem bo_i8_ok {n : Int} (h : bo_i8 n = true) : (Int8.ofInt n).toInt32 = Int32.ofInt n := by
  cases n with
  | ofNat k => have := Nat.le_of_ble_eq_true h; exact Int8.toInt32_ofInt (by show (-128 : Int) ≤ (k : Int); omega) (by show (k : Int) ≤ 127; omega)
  | negSucc k => have := Nat.le_of_ble_eq_true h; exact Int8.toInt32_ofInt (by show (-128 : Int) ≤ Int.negSucc k; omega) (by show Int.negSucc k ≤ 127; omega)
theorem bo_i16_ok {n : Int} (h : bo_i16 n = true) : (Int16.ofInt n).toInt32 = Int32.ofInt n := by
  cases n with
  | ofNat k => have := Nat.le_of_ble_eq_true h; exact Int16.toInt32_ofInt (by show (-32768 : Int) ≤ (k : Int); omega) (by show (k : Int) ≤ 32767; omega)
  | negSucc k => have := Nat.le_of_ble_eq_true h; exact Int16.toInt32_ofInt (by show (-32768 : Int) ≤ Int.negSucc k; omega) (by show Int.negSucc k ≤ 32767; omega)
theorem bo_sound_step {pc : Nat} {en : bo_E} {lv : bo_LV} {st : List Value} {G : bo_G} {S' : bo_S} (C : bo_Cx p s mm args meth c m) (he : bo_cd m pc = some en) (hs : bo_step m pc en lv st G = some S') (hroom : bo_uC S'.2.2.2 - kC ≤ R.cells ∧ bo_uS S'.2.2.2 - kS ≤ R.slots) (kk : bo_Wg p l e R s mm args below meth c Q X kC kS n0 ad0 m S') : bo_Wg p l e R s mm args below meth c Q X kC kS n0 ad0 m (pc, lv, st, G) := by
  obtain ⟨hx, hb, hml, hown, hts, hini, hOK⟩ := id C
  obtain ⟨len, hd, hok⟩ := hOK pc en he
  obtain ⟨i, nx, tg, kp⟩ := en
  dsimp only at hd hok
  unfold bo_step at hs
  dsimp only at hs
  split at hs
  · obtain ⟨rfl, rfl⟩ := bo_len (n := 0) hok rfl
    cases hs
    exact kk.pure (fun h => h.cons trivial) fun H locs ls ad pa h1 h2 k1 => lv_null hx hb hd k1
  · obtain ⟨rfl, rfl⟩ := bo_len (n := 1) hok rfl
    exact bo_Wg.ldA hs kk (fun _ _ _ _ _ _ _ h k1 => lv_aload hx hb hd h k1) (fun _ _ _ _ _ _ h k1 => lv_aloadN hx hb hd h k1)
  · obtain ⟨rfl, rfl⟩ := bo_len (n := 0) hok rfl
    exact bo_Wg.ldA hs kk (fun _ _ _ _ _ _ _ h k1 => lv_aload_n hx hb hd rfl h k1) (fun _ _ _ _ _ _ h k1 => lv_aload_nN hx hb hd rfl h k1)
  · obtain ⟨rfl, rfl⟩ := bo_len (n := 1) hok rfl
    exact bo_Wg.ldI hs kk (fun _ _ _ _ _ _ _ h k1 => lv_iload hx hb hd h k1)
  · obtain ⟨rfl, rfl⟩ := bo_len (n := 0) hok rfl
    exact bo_Wg.ldI hs kk (fun _ _ _ _ _ _ _ h k1 => lv_iload_n hx hb hd rfl h k1)
  · obtain ⟨rfl, rfl⟩ := bo_len (n := 1) hok rfl
    exact bo_Wg.ldL hs kk (fun _ _ _ _ _ _ _ h k1 => lv_lload hx hb hd h k1)
  · obtain ⟨rfl, rfl⟩ := bo_len (n := 0) hok rfl
    exact bo_Wg.ldL hs kk (fun _ _ _ _ _ _ _ h k1 => lv_lload_n hx hb hd rfl h k1)
  · obtain ⟨rfl, rfl⟩ := bo_len (n := 1) hok rfl
    exact bo_Wg.stA hs kk (fun _ _ _ _ _ _ _ _ h1 h2 k1 => lv_astore hx hb hd h2 h1 rfl k1) (fun _ _ _ _ _ _ _ h1 h2 k1 => lv_astoreN hx hb hd h2 h1 rfl k1)
  · obtain ⟨rfl, rfl⟩ := bo_len (n := 0) hok rfl
    exact bo_Wg.stA hs kk (fun _ _ _ _ _ _ _ _ h1 h2 k1 => lv_astore_n hx hb hd rfl h2 h1 rfl k1) (fun _ _ _ _ _ _ _ h1 h2 k1 => lv_astore_nN hx hb hd rfl h2 h1 rfl k1)
  · obtain ⟨rfl, rfl⟩ := bo_len (n := 1) hok rfl
    exact bo_Wg.stI hs kk (fun _ _ _ _ _ _ _ _ h1 h2 k1 => lv_istore hx hb hd h2 h1 rfl k1)
  · obtain ⟨rfl, rfl⟩ := bo_len (n := 0) hok rfl
    exact bo_Wg.stI hs kk (fun _ _ _ _ _ _ _ _ h1 h2 k1 => lv_istore_n hx hb hd rfl h2 h1 rfl k1)
  · obtain ⟨rfl, rfl⟩ := bo_len (n := 1) hok rfl
    exact bo_Wg.stL hs kk (fun _ _ _ _ _ _ _ _ h1 h2 k1 => lv_lstore hx hb hd h2 h1 rfl k1)
  · obtain ⟨rfl, rfl⟩ := bo_len (n := 0) hok rfl
    exact bo_Wg.stL hs kk (fun _ _ _ _ _ _ _ _ h1 h2 k1 => lv_lstore_n hx hb hd rfl h2 h1 rfl k1)
  · obtain ⟨rfl, rfl⟩ := bo_len (n := 2) hok rfl
    exact bo_Wg.inc hs kk (fun _ _ _ _ _ _ _ _ _ h0 h1 h2 k1 => lv_iinc hx hb hd h2 h0 rfl h1 rfl k1)
  · obtain ⟨rfl, rfl⟩ := bo_len (n := 0) hok rfl
    cases hs
    exact kk.pure (fun h => h.cons trivial) fun H locs ls ad pa h1 h2 k1 => lv_iconst hx hb hd rfl k1
  · rename_i n
    obtain ⟨rfl, rfl⟩ := bo_len (n := 1) hok rfl
    cases hi : bo_i8 n <;> rw [hi] at hs
    · cases hs
    · cases hs
      exact kk.pure (fun h => h.cons trivial) fun H locs ls ad pa h1 h2 k1 => lv_bipush hx hb hd (bo_i8_ok hi) k1
  · rename_i n
    obtain ⟨rfl, rfl⟩ := bo_len (n := 2) hok rfl
    cases hi : bo_i16 n <;> rw [hi] at hs
    · cases hs
    · cases hs
      exact kk.pure (fun h => h.cons trivial) fun H locs ls ad pa h1 h2 k1 => lv_sipush hx hb hd (bo_i16_ok hi) k1
  · obtain ⟨rfl, rfl⟩ := bo_len (n := 0) hok rfl
    cases hs
    exact kk.pure (fun h => h.cons trivial) fun H locs ls ad pa h1 h2 k1 => lv_lconst hx hb hd rfl k1
  · obtain ⟨rfl, rfl⟩ := bo_len (n := 1) hok rfl
    split at hs
    · rename_i v hv
      cases hs
      exact kk.pure (fun h => h.cons trivial) fun H locs ls ad pa h1 h2 k1 => lv_ldc hx hb hown (hts _ (bo_cko _ _ _ hv)) hd k1
    · split at hs
      · rename_i v hv
        cases hs
        exact kk.pure (fun h => h.cons trivial) fun H locs ls ad pa h1 h2 k1 => lv_ldcf hx hb hown (hts _ (bo_cfo _ _ _ hv)) hd k1
      · cases hs
  · obtain ⟨rfl, rfl⟩ := bo_len (n := 2) hok rfl
    split at hs
    · rename_i v hv
      cases hs
      exact kk.pure (fun h => h.cons trivial) fun H locs ls ad pa h1 h2 k1 => lv_ldcw hx hb hown (hts _ (bo_cko _ _ _ hv)) hd k1
    · cases hs
  · obtain ⟨rfl, rfl⟩ := bo_len (n := 2) hok rfl
    split at hs
    · rename_i v hv
      cases hs
      exact kk.pure (fun h => h.cons trivial) fun H locs ls ad pa h1 h2 k1 => lv_ldc2 hx hb hown (hts _ (bo_clo _ _ _ hv)) hd k1
    · cases hs
  · obtain ⟨rfl, rfl⟩ := bo_len (n := 0) hok rfl
    exact bo_Wg.i2 hs kk (fun _ _ _ => rfl) (fun _ _ _ => trivial) fun _ _ _ _ _ _ _ _ k1 => lv_iadd hx hb hd k1
  · obtain ⟨rfl, rfl⟩ := bo_len (n := 0) hok rfl
    exact bo_Wg.i2 hs kk (fun _ _ _ => rfl) (fun _ _ _ => trivial) fun _ _ _ _ _ _ _ _ k1 => lv_isub hx hb hd k1
  · obtain ⟨rfl, rfl⟩ := bo_len (n := 0) hok rfl
    exact bo_Wg.i2 hs kk (fun _ _ _ => rfl) (fun _ _ _ => trivial) fun _ _ _ _ _ _ _ _ k1 => lv_imul hx hb hd k1
  · obtain ⟨rfl, rfl⟩ := bo_len (n := 0) hok rfl
    exact bo_Wg.i2 hs kk (fun _ _ _ => rfl) (fun _ _ _ => trivial) fun _ _ _ _ _ _ _ _ k1 => lv_iand hx hb hd k1
  · obtain ⟨rfl, rfl⟩ := bo_len (n := 0) hok rfl
    exact bo_Wg.i2 hs kk (fun _ _ _ => rfl) (fun _ _ _ => trivial) fun _ _ _ _ _ _ _ _ k1 => lv_ior hx hb hd k1
  · obtain ⟨rfl, rfl⟩ := bo_len (n := 0) hok rfl
    exact bo_Wg.i2 hs kk (fun _ _ _ => rfl) (fun _ _ _ => trivial) fun _ _ _ _ _ _ _ _ k1 => lv_ishr hx hb hd k1
  · obtain ⟨rfl, rfl⟩ := bo_len (n := 0) hok rfl
    exact bo_Wg.i2 hs kk (fun _ _ _ => rfl) (fun _ _ _ => trivial) fun _ _ _ _ _ _ _ _ k1 => lv_iushr hx hb hd rfl k1
  · obtain ⟨rfl, rfl⟩ := bo_len (n := 0) hok rfl
    exact bo_Wg.d2 hs kk (fun _ _ _ => rfl) (fun _ _ _ => trivial) fun _ _ _ _ _ _ _ _ h k1 => lv_idiv hx hb hd h k1
  · obtain ⟨rfl, rfl⟩ := bo_len (n := 0) hok rfl
    exact bo_Wg.d2 hs kk (fun _ _ _ => rfl) (fun _ _ _ => trivial) fun _ _ _ _ _ _ _ _ h k1 => lv_irem hx hb hd h k1
  · obtain ⟨rfl, rfl⟩ := bo_len (n := 0) hok rfl
    exact bo_Wg.i1 hs kk (fun _ _ => rfl) (fun _ _ => trivial) fun _ _ _ _ _ _ _ k1 => lv_ineg hx hb hd k1
  · obtain ⟨rfl, rfl⟩ := bo_len (n := 0) hok rfl
    exact bo_Wg.i1 hs kk (fun _ _ => rfl) (fun _ _ => trivial) fun _ _ _ _ _ _ _ k1 => lv_i2l hx hb hd rfl k1
  · obtain ⟨rfl, rfl⟩ := bo_len (n := 0) hok rfl
    exact bo_Wg.i1 hs kk (fun _ _ => rfl) (fun _ _ => trivial) fun _ _ _ _ _ _ _ k1 => lv_i2s hx hb hd rfl k1
  · obtain ⟨rfl, rfl⟩ := bo_len (n := 0) hok rfl
    exact bo_Wg.i1 hs kk (fun _ _ => rfl) (fun _ _ => trivial) fun _ _ _ _ _ _ _ k1 => lv_i2f hx hb hd k1
  · obtain ⟨rfl, rfl⟩ := bo_len (n := 0) hok rfl
    split at hs
    · cases hs
      exact kk.pure (fun h => h.tl.cons trivial) fun H locs ls ad pa h1 h2 k1 => lv_f2i hx hb hd k1
    · cases hs
  · obtain ⟨rfl, rfl⟩ := bo_len (n := 0) hok rfl
    unfold bo_fm at hs
    split at hs
    · split at hs
      · rename_i hn
        cases hs
        exact kk.pure (fun h => h.tl.tl.cons trivial) fun H locs ls ad pa h1 h2 k1 => lv_fmul hx hb hd hn k1
      · cases hs
    · cases hs
  · obtain ⟨rfl, rfl⟩ := bo_len (n := 0) hok rfl
    exact bo_Wg.l1 hs kk (fun _ _ => rfl) (fun _ _ => trivial) fun _ _ _ _ _ _ _ k1 => lv_l2i hx hb hd rfl k1
  · obtain ⟨rfl, rfl⟩ := bo_len (n := 0) hok rfl
    exact bo_Wg.l2 hs kk (fun _ _ _ => rfl) (fun _ _ _ => trivial) fun _ _ _ _ _ _ _ _ k1 => lv_ladd hx hb hd k1
  · obtain ⟨rfl, rfl⟩ := bo_len (n := 0) hok rfl
    exact bo_Wg.l2 hs kk (fun _ _ _ => rfl) (fun _ _ _ => trivial) fun _ _ _ _ _ _ _ _ k1 => lv_lsub hx hb hd k1
  · obtain ⟨rfl, rfl⟩ := bo_len (n := 0) hok rfl
    exact bo_Wg.l2 hs kk (fun _ _ _ => rfl) (fun _ _ _ => trivial) fun _ _ _ _ _ _ _ _ k1 => lv_lmul hx hb hd k1
  · obtain ⟨rfl, rfl⟩ := bo_len (n := 0) hok rfl
    exact bo_Wg.l2 hs kk (fun _ _ _ => rfl) (fun _ _ _ => trivial) fun _ _ _ _ _ _ _ _ k1 => lv_lxor hx hb hd k1
  · obtain ⟨rfl, rfl⟩ := bo_len (n := 0) hok rfl
    exact bo_Wg.l2 hs kk (fun _ _ _ => rfl) (fun _ _ _ => trivial) fun _ _ _ _ _ _ _ _ k1 => W.lcmp hx hb hd k1
  · obtain ⟨rfl, rfl⟩ := bo_len (n := 0) hok rfl
    exact bo_Wg.dl hs kk (fun _ _ _ => rfl) (fun _ _ _ => trivial) fun _ _ _ _ _ _ _ _ h k1 => lv_ldiv hx hb hd h k1
  · obtain ⟨rfl, rfl⟩ := bo_len (n := 0) hok rfl
    split at hs
    · rename_i v r
      cases hq : Nat.beq v.category 1 <;> rw [hq] at hs
      · cases hs
      · cases hs
        refine kk.pure (fun h => h.cons h.hd) fun H locs ls ad pa h1 h2 k1 => lv_dup hx hb hd ?_ k1
        rw [bo_sv_cat]
        exact Nat.eq_of_beq_eq_true hq
    · cases hs
  · obtain ⟨rfl, rfl⟩ := bo_len (n := 0) hok rfl
    split at hs
    · rename_i v w r
      cases hq : (Nat.beq v.category 1 && Nat.beq w.category 1) <;> rw [hq] at hs
      · cases hs
      · cases hs
        rw [Bool.and_eq_true] at hq
        refine kk.pure (fun h => (h.cons h.tl.hd).cons h.hd) fun H locs ls ad pa h1 h2 k1 => lv_dup2_11 hx hb hd ?_ ?_ k1
        · rw [bo_sv_cat]
          exact Nat.eq_of_beq_eq_true hq.1
        · rw [bo_sv_cat]
          exact Nat.eq_of_beq_eq_true hq.2
    · cases hs
  · obtain ⟨rfl, rfl⟩ := bo_len (n := 0) hok rfl
    split at hs
    · rename_i v r
      cases hq : Nat.beq v.category 1 <;> rw [hq] at hs
      · cases hs
      · cases hs
        refine kk.pure (fun h => h.tl) fun H locs ls ad pa h1 h2 k1 => lv_pop hx hb hd ?_ k1
        rw [bo_sv_cat]
        exact Nat.eq_of_beq_eq_true hq
    · cases hs
  · obtain ⟨rfl, rfl⟩ := bo_len (n := 2) hok rfl
    have ht := bo_tgt hok rfl
    cases hs
    intro H locs ls ad pa h1 h2 h3 h4 h5 h6 h7 h8
    exact lv_goto hx hb hd ht (kk H locs ls ad pa h1 (bo_has_sub h2 (fun q hq => (List.mem_filter.mp hq).1)) ⟨fun q hq => h3.1 q (List.mem_filter.mp hq).1, h3.2⟩ h4 h5 h6 h7 h8)
  · rename_i cd o
    obtain ⟨rfl, rfl⟩ := bo_len (n := 2) hok rfl
    have ht := bo_tgt hok rfl
    refine bo_Wg.b1 hs kk fun H locs ls cells slots rest x k1 k2 => ?_
    cases cd
    · exact lv_if_eq hx hb hd ht (fun q => k1 (decide_eq_true q)) (fun q => k2 (decide_eq_false q))
    · exact lv_if_ne hx hb hd ht (fun q => k1 (decide_eq_true q)) (fun q => k2 (decide_eq_false (fun z => z q)))
    · exact lv_if_lt hx hb hd ht (fun q => k1 (decide_eq_true q)) (fun q => k2 (decide_eq_false q))
    · exact lv_if_ge hx hb hd ht (fun q => k1 (decide_eq_true q)) (fun q => k2 (decide_eq_false q))
    · exact lv_if_gt hx hb hd ht (fun q => k1 (decide_eq_true q)) (fun q => k2 (decide_eq_false q))
    · exact lv_if_le hx hb hd ht (fun q => k1 (decide_eq_true q)) (fun q => k2 (decide_eq_false q))
  · rename_i cd o
    obtain ⟨rfl, rfl⟩ := bo_len (n := 2) hok rfl
    have ht := bo_tgt hok rfl
    refine bo_Wg.b2 hs kk fun H locs ls cells slots rest x y k1 k2 => ?_
    cases cd
    · exact lv_icmp_eq hx hb hd ht (fun q => k1 (decide_eq_true q)) (fun q => k2 (decide_eq_false q))
    · exact lv_icmp_ne hx hb hd ht (fun q => k1 (decide_eq_true q)) (fun q => k2 (decide_eq_false (fun z => z q)))
    · exact lv_icmp_lt hx hb hd ht (fun q => k1 (decide_eq_true q)) (fun q => k2 (decide_eq_false q))
    · exact lv_icmp_ge hx hb hd ht (fun q => k1 (decide_eq_true q)) (fun q => k2 (decide_eq_false q))
    · exact lv_icmp_gt hx hb hd ht (fun q => k1 (decide_eq_true q)) (fun q => k2 (decide_eq_false q))
    · exact lv_icmp_le hx hb hd ht (fun q => k1 (decide_eq_true q)) (fun q => k2 (decide_eq_false q))
  · obtain ⟨rfl, rfl⟩ := bo_len (n := 2) hok rfl
    have ht := bo_tgt hok rfl
    unfold bo_nul at hs
    split at hs
    · cases hs
      exact kk.pure (fun h => h.tl) fun H locs ls ad pa h1 h2 k1 => lv_ifnullN hx hb hd ht k1
    · cases hs
      exact kk.pure (fun h => h.tl) fun H locs ls ad pa h1 h2 k1 => lv_ifnull hx hb hd k1
    · cases hs
  · obtain ⟨rfl, rfl⟩ := bo_len (n := 2) hok rfl
    have ht := bo_tgt hok rfl
    unfold bo_nul at hs
    split at hs
    · cases hs
      exact kk.pure (fun h => h.tl) fun H locs ls ad pa h1 h2 k1 => lv_ifnonnullN hx hb hd k1
    · cases hs
      exact kk.pure (fun h => h.tl) fun H locs ls ad pa h1 h2 k1 => lv_ifnonnull hx hb hd ht k1
    · cases hs
  · split at hs
    · split at hs
      · rename_i hq
        cases hs
        exact bo_Wg.tsw C hd hq.1 hq.2 kk
      · cases hs
    · cases hs
  · rename_i d ps
    split at hs
    · rename_i x r
      split at hs
      · rename_i hq
        cases hs
        refine kk.pure (fun h => h.tl) fun H locs ls ad pa h1 h2 k1 => lv_lookup hx hb hd hq.2 rfl ?_ k1
        have := hq.1
        unfold bo_lsw at this ⊢
        omega
      · cases hs
    · cases hs
  · obtain ⟨rfl, rfl⟩ := bo_len (n := 2) hok rfl
    split at hs
    · rename_i ck hk
      exact bo_Wg.gf C (bo_fko _ _ _ hk) hd hs kk
    · cases hs
  · obtain ⟨rfl, rfl⟩ := bo_len (n := 2) hok rfl
    split at hs
    · rename_i ck hk
      exact bo_Wg.pf C (bo_fko _ _ _ hk) hd hs kk
    · cases hs
  · obtain ⟨rfl, rfl⟩ := bo_len (n := 2) hok rfl
    split at hs
    · rename_i cn hk
      exact bo_Wg.new C (bo_kko _ _ _ hk) hd hs hroom kk
    · cases hs
  · obtain ⟨rfl, rfl⟩ := bo_len (n := 1) hok rfl
    split at hs
    · exact bo_Wg.na1 C hd hs hroom kk
    · cases hs
  · obtain ⟨rfl, rfl⟩ := bo_len (n := 2) hok rfl
    split at hs
    · rename_i cn hk
      exact bo_Wg.na2 C (bo_kko _ _ _ hk) hd hs hroom kk
    · cases hs
  · obtain ⟨rfl, rfl⟩ := bo_len (n := 0) hok rfl
    exact bo_Wg.al C hd hs kk
  · obtain ⟨rfl, rfl⟩ := bo_len (n := 0) hok rfl
    exact bo_Wg.ial C hd hs kk
  · obtain ⟨rfl, rfl⟩ := bo_len (n := 0) hok rfl
    exact bo_Wg.ias C hd hs kk
  · obtain ⟨rfl, rfl⟩ := bo_len (n := 0) hok rfl
    exact bo_Wg.aal C hd hs kk
  · obtain ⟨rfl, rfl⟩ := bo_len (n := 0) hok rfl
    exact bo_Wg.aas C hd hs kk
  · cases hs
end BOS5
