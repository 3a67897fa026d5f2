/-! Making, rows, switches; then all instructions. -/
section BOS4
variable {p : Program} {l : Launch} {e : Env} {R : Room} {s : State} {mm : MethodId} {args : Array Value} {below : List Frame} {meth : Method} {c : Code} {Q : State → Prop}
variable {X : bo_X} {kC kS n0 : Nat} {ad0 : Nat → Nat} {m : bo_M}
/-- a cell comes: what follows from it -/
theorem bo_Wg.came {pc nx dS : Nat} {lv : bo_LV} {st r : List Value} {G : bo_G} {c1 : bo_C} (kk : bo_Wg p l e R s mm args below meth c Q X kC kS n0 ad0 m (nx, lv, .ref G.length :: r, G ++ [c1])) (hwC : bo_wC c1 = 1) (hwS : bo_wS c1 = dS) (hc : bo_rkc (G.length + 1) c1) (hr : bo_isR c1 = false) (hrl : bo_rl G.length lv st → bo_rl G.length lv r) (hroom : bo_uC (G ++ [c1]) - kC ≤ R.cells ∧ bo_uS (G ++ [c1]) - kS ≤ R.slots)
    (row : ∀ (H : Heap) (locs : List Loc) (ls : Array Slot) (cells slots : Nat) (ad pa : Nat → Nat), bo_U X s H → cells + 1 ≤ R.cells → slots + dS ≤ R.slots → (∀ (H1 : Heap), (∀ ad' : Nat → Nat, ad' G.length = H.size → bo_Ad X H.size → bo_rc X ad' pa s H1 G.length c1) → H1.size = H.size + 1 → (∀ q, q < H.size → H1[q]? = H[q]?) → W p l e R s mm args below meth c H1 locs (cells + 1) (slots + dS) Q (F0 mm nx ls (.ref H.size :: r.map (bo_sv ad)))) → W p l e R s mm args below meth c H locs cells slots Q (F0 mm pc ls (st.map (bo_sv ad)))) : bo_Wg p l e R s mm args below meth c Q X kC kS n0 ad0 m (pc, lv, st, G) := by
  intro H locs ls ad pa h1 h2 h3 h4 h5 h6 h7 h8
  have eC : bo_uC (G ++ [c1]) = bo_uC G + 1 := by unfold bo_uC; rw [bo_sum_app, hwC]
  have eS : bo_uS (G ++ [c1]) = bo_uS G + dS := by unfold bo_uS; rw [bo_sum_app, hwS]
  rw [eC, eS] at hroom
  have h7' : kC ≤ bo_uC G := h7
  have h8' : kS ≤ bo_uS G := h8
  refine row H locs ls _ _ ad pa h1.1 (by show bo_uC G - kC + 1 ≤ _; omega) (by show bo_uS G - kS + dS ≤ _; omega) fun H1 e1 ez e2 => ?_
  have hA : bo_Ad X H.size := h1.1.2.2.2.2.2.1
  have hlen : (G ++ [c1]).length = G.length + 1 := by simp
  have hrl' := hrl h3
  have hk := kk H1 locs ls (bo_ad ad G.length H.size) pa (h1.push (e1 _ bo_ad_self hA) hc hr ez e2) (by
      have : bo_lm (bo_ad ad G.length H.size) lv = bo_lm ad lv := List.map_congr_left fun q hq => by rw [bo_sv_eq (fun i hi => bo_ad_lt hi) (h3.1 q hq)]
      show lv_has ls (bo_ml m) (bo_lm (bo_ad ad G.length H.size) lv)
      rw [this]
      exact h2) (by
      show bo_rl (G ++ [c1]).length lv (.ref G.length :: r)
      rw [hlen]
      exact (hrl'.mono (Nat.le_succ _)).cons (Nat.lt_succ_self _)) h4 (fun i hi => by rw [bo_ad_lt (Nat.lt_of_lt_of_le hi h6)]; exact h5 i hi) (by show n0 ≤ (G ++ [c1]).length; rw [hlen]; exact Nat.le_succ_of_le h6) (by show kC ≤ bo_uC (G ++ [c1]); omega) (by show kS ≤ bo_uS (G ++ [c1]); omega)
  have em : ((.ref G.length :: r : List Value).map (bo_sv (bo_ad ad G.length H.size))) = .ref H.size :: r.map (bo_sv ad) := by
    rw [List.map_cons, bo_sv_map (fun i hi => bo_ad_lt hi) hrl'.2]
    congr 1
    show Value.ref _ = _
    rw [bo_ad_self]
  have hk2 : W p l e R s mm args below meth c H1 locs (bo_uC (G ++ [c1]) - kC) (bo_uS (G ++ [c1]) - kS) Q (F0 mm nx ls (.ref H.size :: r.map (bo_sv ad))) := by rw [← em]; exact hk
  rw [eC, eS, show bo_uC G + 1 - kC = bo_uC G - kC + 1 by omega, show bo_uS G + dS - kS = bo_uS G - kS + dS by omega] at hk2
  exact hk2
theorem bo_Wg.ial {pc : Nat} {lv : bo_LV} {st : List Value} {G : bo_G} {S' : bo_S} (C : bo_Cx p s mm args meth c m) (hd : decode (bo_cc m) pc = .ok (.iaload, 1)) (hs : bo_ial lv (pc + 1) st G = some S') (kk : bo_Wg p l e R s mm args below meth c Q X kC kS n0 ad0 m S') : bo_Wg p l e R s mm args below meth c Q X kC kS n0 ad0 m (pc, lv, st, G) := by
  obtain ⟨hx, hb, -⟩ := C
  unfold bo_ial at hs
  split at hs
  · rename_i i a r
    split at hs
    · rename_i w hw
      split at hs
      · rename_i hin
        cases hs
        refine kk.pure (fun h => h.tl.tl.cons trivial) fun H locs ls ad pa h1 h2 k1 => ?_
        exact va_iald (D := X.1) (cl := bo_Cls) (ws := [(ad a, .inl (bo_cI X, w.1, .inl w.2))]) hx hb (bo_K1 h1.1) (bo_P1 (h1.2.1 a _ hw).1.1) 0 0 rfl rfl (bo_vpin hin) hd k1
      · cases hs
    · rename_i w hw
      split at hs
      · rename_i hin
        cases hs
        refine kk.pure (fun h => h.tl.tl.cons trivial) fun H locs ls ad pa h1 h2 k1 => ?_
        obtain ⟨⟨scr, g1, g2, g3, g4, g5⟩, -⟩ := (h1.2.1 a _ hw).1
        exact W.iald (v := .int (w.2 i.toNatClampNeg)) hx hb g1 g2 g3 (by rw [g4]; exact bo_vpin hin) (g5 _ hin.2) rfl rfl hd k1
      · cases hs
    · cases hs
  · cases hs
theorem bo_Wg.al {pc : Nat} {lv : bo_LV} {st : List Value} {G : bo_G} {S' : bo_S} (C : bo_Cx p s mm args meth c m) (hd : decode (bo_cc m) pc = .ok (.arraylength, 1)) (hs : bo_al lv (pc + 1) st G = some S') (kk : bo_Wg p l e R s mm args below meth c Q X kC kS n0 ad0 m S') : bo_Wg p l e R s mm args below meth c Q X kC kS n0 ad0 m (pc, lv, st, G) := by
  obtain ⟨hx, hb, -⟩ := C
  unfold bo_al at hs
  split at hs
  · rename_i a r
    split at hs
    · rename_i w hw
      cases hs
      refine kk.pure (fun h => h.tl.cons trivial) fun H locs ls ad pa h1 h2 k1 => ?_
      exact va_alen (D := X.1) (cl := bo_Cls) (ws := [(ad a, .inl (bo_cI X, w.1, .inl w.2))]) hx hb (bo_K1 h1.1) (bo_P1 (h1.2.1 a _ hw).1.1) 0 0 rfl rfl rfl hd k1
    · rename_i w hw
      cases hs
      refine kk.pure (fun h => h.tl.cons trivial) fun H locs ls ad pa h1 h2 k1 => ?_
      have hq := (h1.2.1 a _ hw).1
      exact va_alen (D := X.1) (cl := bo_Cls) (ws := [(ad a, .inl (bo_cq X w.1, w.2.1, .inr (.inr (.inr (.inr (fun j => (w.2.2 j).map ad))))))]) hx hb (bo_Kq h1.1 hq.1) (bo_P1 hq.2.1) 0 0 rfl rfl rfl hd k1
    · rename_i w hw
      cases hs
      refine kk.pure (fun h => h.tl.cons trivial) fun H locs ls ad pa h1 h2 k1 => ?_
      obtain ⟨⟨scr, g1, g2, g3, g4, g5⟩, -⟩ := (h1.2.1 a _ hw).1
      exact W.alen (n := Int32.ofNat w.1) hx hb g1 g2 (by rw [g4] <;> rfl) rfl rfl hd k1
    · cases hs
  · cases hs
theorem bo_Wg.ias {pc : Nat} {lv : bo_LV} {st : List Value} {G : bo_G} {S' : bo_S} (C : bo_Cx p s mm args meth c m) (hd : decode (bo_cc m) pc = .ok (.iastore, 1)) (hs : bo_ias lv (pc + 1) st G = some S') (kk : bo_Wg p l e R s mm args below meth c Q X kC kS n0 ad0 m S') : bo_Wg p l e R s mm args below meth c Q X kC kS n0 ad0 m (pc, lv, st, G) := by
  obtain ⟨hx, hb, -⟩ := C
  unfold bo_ias at hs
  split at hs
  · rename_i x i a r
    split at hs
    · rename_i w hw
      split at hs
      · rename_i hin
        cases hs
        intro H locs ls ad pa h1 h2 h3 h4 h5 h6 h7 h8
        have hcell := (h1.2.1 a _ hw).1
        have hset : (bo_uC (G.set a (cI w.1 (upd w.2 i.toNatClampNeg x)))) = bo_uC G := by have := bo_sum_set (f := bo_wC) G a _ (cI w.1 (upd w.2 i.toNatClampNeg x)) hw; unfold bo_uC; simp only [bo_wC] at this; omega
        have hsetS : (bo_uS (G.set a (cI w.1 (upd w.2 i.toNatClampNeg x)))) = bo_uS G := by have := bo_sum_set (f := bo_wS) G a _ (cI w.1 (upd w.2 i.toNatClampNeg x)) hw; unfold bo_uS; simp only [bo_wS] at this; omega
        refine br_iast (A := bo_Ad X) hx hb h1.1.2.1.1 hcell.1 (bo_vpin hin) hcell.2 h4 hd fun H1 locs1 e1 e2 e3 e4 => ?_
        have hk := kk H1 locs1 ls ad pa (h1.upd hw (c1 := cI w.1 (upd w.2 i.toNatClampNeg x)) ⟨e1, hcell.2⟩ trivial rfl hcell.2 (fun z => by cases z) e2 (fun q hq _ => e3 q hq)) h2 (by rw [List.length_set]; exact h3.tl.tl.tl) e4 h5 (by rw [List.length_set]; exact h6) (by rw [hset]; exact h7) (by rw [hsetS]; exact h8)
        rw [hset, hsetS] at hk
        exact hk
      · cases hs
    · cases hs
  · cases hs
theorem bo_Wg.aal {pc : Nat} {lv : bo_LV} {st : List Value} {G : bo_G} {S' : bo_S} (C : bo_Cx p s mm args meth c m) (hd : decode (bo_cc m) pc = .ok (.aaload, 1)) (hs : bo_aal lv (pc + 1) st G = some S') (kk : bo_Wg p l e R s mm args below meth c Q X kC kS n0 ad0 m S') : bo_Wg p l e R s mm args below meth c Q X kC kS n0 ad0 m (pc, lv, st, G) := by
  obtain ⟨hx, hb, -⟩ := C
  unfold bo_aal at hs
  split at hs
  · rename_i i a r
    split at hs
    · rename_i w hw
      split at hs
      · rename_i hin
        cases hs
        intro H locs ls ad pa h1 h2 h3 h4 h5 h6 h7 h8
        have hq := h1.2.1 a _ hw
        refine va_aldq (D := X.1) (cl := bo_Cls) (ws := [(ad a, .inl (bo_cq X w.1, w.2.1, .inr (.inr (.inr (.inr (fun j => (w.2.2 j).map ad))))))]) hx hb (bo_Kq h1.1 hq.1.1) (bo_P1 hq.1.2.1) 0 0 rfl rfl (bo_vpin hin) hd ?_
        have hk := kk H locs ls ad pa h1 h2 (h3.tl.tl.cons (by
          cases hz : w.2.2 i.toNatClampNeg with
          | none => exact trivial
          | some z => exact hq.2 _ z hz)) h4 h5 h6 h7 h8
        rw [List.map_cons, bo_sv_rf] at hk
        exact hk
      · cases hs
    · cases hs
  · cases hs
theorem bo_Wg.aas {pc : Nat} {lv : bo_LV} {st : List Value} {G : bo_G} {S' : bo_S} (C : bo_Cx p s mm args meth c m) (hd : decode (bo_cc m) pc = .ok (.aastore, 1)) (hs : bo_aas lv (pc + 1) st G = some S') (kk : bo_Wg p l e R s mm args below meth c Q X kC kS n0 ad0 m S') : bo_Wg p l e R s mm args below meth c Q X kC kS n0 ad0 m (pc, lv, st, G) := by
  obtain ⟨hx, hb, -⟩ := C
  unfold bo_aas at hs
  split at hs
  · rename_i v i a r
    split at hs
    · rename_i w hw
      split at hs
      · rename_i o ho
        split at hs
        · rename_i hin
          obtain ⟨hi1, hi2, hoc⟩ := hin
          cases hs
          intro H locs ls ad pa h1 h2 h3 h4 h5 h6 h7 h8
          have hcell := h1.2.1 a _ hw
          have hc1 := hcell.1
          have hov := (h1.2.1 v _ ho).1.1
          have h12 : w.1 < 12 := by
            have := hc1.1
            unfold bo_ro at this
            simp only [Bool.or_eq_true, beq_iff_eq] at this
            omega
          rw [hoc] at hov
          have hset : (bo_uC (G.set a (cQ w.1 w.2.1 (va_up w.2.2 i.toNatClampNeg (some v))))) = bo_uC G := by have := bo_sum_set (f := bo_wC) G a _ (cQ w.1 w.2.1 (va_up w.2.2 i.toNatClampNeg (some v))) hw; unfold bo_uC; simp only [bo_wC] at this; omega
          have hsetS : (bo_uS (G.set a (cQ w.1 w.2.1 (va_up w.2.2 i.toNatClampNeg (some v))))) = bo_uS G := by have := bo_sum_set (f := bo_wS) G a _ (cQ w.1 w.2.1 (va_up w.2.2 i.toNatClampNeg (some v))) hw; unfold bo_uS; simp only [bo_wS] at this; omega
          refine br_aast (A := bo_Ad X) hx hb h1.1.1 (r := (bo_R w.1, bo_T w.1, bo_N w.1)) (h1.1.2.2.1 w.1 hc1.1).2 hc1.2.1 hov (bo_clok w.1 h12) (bo_vpin ⟨hi1, hi2⟩) hc1.2.2 h4 hd fun H1 locs1 e1 e2 e3 e4 => ?_
          have hv3 := h3.hd
          have efn : (fun j => (va_up w.2.2 i.toNatClampNeg (some v) j).map ad) = va_up (fun j => (w.2.2 j).map ad) i.toNatClampNeg (some (ad v)) := by
            funext j
            by_cases hj : j = i.toNatClampNeg
            · subst hj; simp [va_up]
            · simp [va_up, hj]
          have hk := kk H1 locs1 ls ad pa (h1.upd hw (c1 := cQ w.1 w.2.1 (va_up w.2.2 i.toNatClampNeg (some v))) ⟨hc1.1, by show va_at _ _ (_, .inl (_, _, .inr (.inr (.inr (.inr (fun j => (va_up w.2.2 i.toNatClampNeg (some v) j).map ad)))))) _; rw [efn]; exact e1, hc1.2.2⟩ (fun j z hz => by
            have hz : va_up w.2.2 i.toNatClampNeg (some v) j = some z := hz
            by_cases hj : j = i.toNatClampNeg
            · subst hj
              simp [va_up] at hz
              subst hz
              exact hv3
            · simp [va_up, hj] at hz
              exact hcell.2 j z hz) rfl hc1.2.2 (fun z => by cases z) e2 (fun q hq _ => e3 q hq)) h2 (by rw [List.length_set]; exact h3.tl.tl.tl) e4 h5 (by rw [List.length_set]; exact h6) (by rw [hset]; exact h7) (by rw [hsetS]; exact h8)
          rw [hset, hsetS] at hk
          exact hk
        · cases hs
      · cases hs
    · cases hs
  · cases hs
theorem bo_Wg.new {pc k cn : Nat} {lv : bo_LV} {st : List Value} {G : bo_G} {S' : bo_S} (C : bo_Cx p s mm args meth c m) (hf : bo_Kk (bo_o m) k cn) (hd : decode (bo_cc m) pc = .ok (.new k, 3)) (hs : bo_new cn lv (pc + 3) st G = some S') (hroom : bo_uC S'.2.2.2 - kC ≤ R.cells ∧ bo_uS S'.2.2.2 - kS ≤ R.slots) (kk : bo_Wg p l e R s mm args below meth c Q X kC kS n0 ad0 m S') : bo_Wg p l e R s mm args below meth c Q X kC kS n0 ad0 m (pc, lv, st, G) := by
  obtain ⟨hx, hb, hml, hown, hts, hini, hOK⟩ := C
  obtain ⟨h12, w1, w2, w3⟩ := hf
  cases hs
  refine bo_Wg.came (dS := bo_N cn) kk rfl rfl (fun v hv => ?_) rfl (fun h => h) hroom fun H locs ls cells slots ad pa hU hc1 hc2 k1 => ?_
  · rcases bo_dfrk cn h12 v hv with rfl | rfl | rfl <;> exact trivial
  · refine br_new (ci := cn) (C := bo_R cn) (T := bo_T cn) (N := bo_N cn) hx hb hts (bo_lay cn h12) (bo_ty cn) (bo_tyok cn h12) hown (hts _ w1) (hts _ w2) (hts _ w3) hU.1 (bo_clok cn h12) (bo_dfok cn h12) hc1 hc2 hd fun H1 e1 ez e2 => ?_
    refine k1 H1 (fun ad' ha hA => ⟨?_, by rw [ha]; exact hA⟩) ez e2
    rw [ha]
    have : (bo_df cn).map (bo_sv ad') = bo_df cn := by
      conv => rhs; rw [← List.map_id (bo_df cn)]
      refine List.map_congr_left fun v hv => ?_
      rcases bo_dfrk cn h12 v hv with rfl | rfl | rfl <;> rfl
    rw [this]
    exact e1
theorem bo_Wg.na1 {pc : Nat} {lv : bo_LV} {st : List Value} {G : bo_G} {S' : bo_S} (C : bo_Cx p s mm args meth c m) (hd : decode (bo_cc m) pc = .ok (.newarray .int, 2)) (hs : bo_na1 lv (pc + 2) st G = some S') (hroom : bo_uC S'.2.2.2 - kC ≤ R.cells ∧ bo_uS S'.2.2.2 - kS ≤ R.slots) (kk : bo_Wg p l e R s mm args below meth c Q X kC kS n0 ad0 m S') : bo_Wg p l e R s mm args below meth c Q X kC kS n0 ad0 m (pc, lv, st, G) := by
  obtain ⟨hx, hb, hml, hown, hts, hini, hOK⟩ := C
  unfold bo_na1 at hs
  split at hs
  · rename_i n r
    split at hs
    · rename_i hn
      cases hs
      have hn2 : n.toNatClampNeg ≤ 200000 := by
        have := Int32.le_iff_toInt_le.mp hn.2
        show n.toInt.toNat ≤ 200000
        have e : (200000 : Int32).toInt = 200000 := by decide
        omega
      refine bo_Wg.came (dS := n.toNatClampNeg) kk rfl rfl trivial rfl (fun h => h.tl) hroom fun H locs ls cells slots ad pa hU hc1 hc2 k1 => ?_
      refine br_newa (D := X.1) (cl := bo_Cls) hx hb (hts _ bo_w_arr) hU.2.1.2 (Int32.not_lt.mpr hn.1) hn2 hc1 hc2 hd fun H1 e1 ez e2 => ?_
      exact k1 H1 (fun ad' ha hA => ⟨by rw [ha]; exact e1, by rw [ha]; exact hA⟩) ez e2
    · cases hs
  · cases hs
theorem bo_Wg.na2 {pc k cn : Nat} {lv : bo_LV} {st : List Value} {G : bo_G} {S' : bo_S} (C : bo_Cx p s mm args meth c m) (hf : bo_Kk (bo_o m) k cn) (hd : decode (bo_cc m) pc = .ok (.anewarray k, 3)) (hs : bo_na2 cn lv (pc + 3) st G = some S') (hroom : bo_uC S'.2.2.2 - kC ≤ R.cells ∧ bo_uS S'.2.2.2 - kS ≤ R.slots) (kk : bo_Wg p l e R s mm args below meth c Q X kC kS n0 ad0 m S') : bo_Wg p l e R s mm args below meth c Q X kC kS n0 ad0 m (pc, lv, st, G) := by
  obtain ⟨hx, hb, hml, hown, hts, hini, hOK⟩ := C
  obtain ⟨h12, w1, w2, w3⟩ := hf
  unfold bo_na2 at hs
  split at hs
  · rename_i n r
    split at hs
    · rename_i hn
      obtain ⟨hn0, hn1, hro⟩ := hn
      cases hs
      have hn2 : n.toNatClampNeg ≤ 200000 := by
        have := Int32.le_iff_toInt_le.mp hn1
        show n.toInt.toNat ≤ 200000
        have e : (200000 : Int32).toInt = 200000 := by decide
        omega
      refine bo_Wg.came (dS := n.toNatClampNeg) kk rfl rfl (fun j a h => by cases h) rfl (fun h => h.tl) hroom fun H locs ls cells slots ad pa hU hc1 hc2 k1 => ?_
      refine br_newq (D := X.1) (cl := bo_Cls) hx hb hown (hts _ w1) (va_AO.use (hU.2.2.2.2.2.2.2 cn hro)) (hU.2.2.1 cn hro).2 (Int32.not_lt.mpr hn0) hn2 hc1 hc2 hd fun H1 e1 ez e2 => ?_
      exact k1 H1 (fun ad' ha hA => ⟨hro, by rw [ha]; exact e1, by rw [ha]; exact hA⟩) ez e2
    · cases hs
  · cases hs
end BOS4
