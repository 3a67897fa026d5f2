/-! Each instruction. -/
theorem bo_P1 {D : va_G} {cl : List vw_C} {q : Nat × va_E} {H : Heap} (h : va_at D cl q H) : va_P D cl [q] H := by
  intro k x hx
  have hz : k < 1 := (List.getElem?_eq_some_iff.mp hx).1
  rw [show k = 0 by omega] at hx
  cases hx
  exact h
theorem bo_K1 {X : bo_X} {U : State} {H : Heap} (h : bo_U X U H) : va_K X.1 bo_Cls [(bo_cI X, .int)] U := by
  refine ⟨h.1.1, fun k x hx => ?_⟩
  have hz : k < 1 := (List.getElem?_eq_some_iff.mp hx).1
  rw [show k = 0 by omega] at hx
  cases hx
  exact h.2.1
theorem bo_Kq {X : bo_X} {U : State} {H : Heap} (h : bo_U X U H) {c : Nat} (hc : bo_ro c = true) : va_K X.1 bo_Cls [(bo_cq X c, .object (bo_R c))] U := by
  refine ⟨h.1.1, fun k x hx => ?_⟩
  have hz : k < 1 := (List.getElem?_eq_some_iff.mp hx).1
  rw [show k = 0 by omega] at hx
  cases hx
  exact h.2.2.1 c hc
theorem bo_len {i : Instr} {len pc nx tg n : Nat} (hok : bo_okI i len pc nx tg = true) (h : bo_ln i = n + 1) : len = n + 1 ∧ nx = pc + (n + 1) := by
  unfold bo_okI at hok
  rw [h] at hok
  simp only [Bool.and_eq_true, Bool.or_eq_true, beq_iff_eq] at hok
  obtain ⟨⟨h1, h2⟩, -⟩ := hok
  have h1 : n + 1 = len := h1.resolve_left (by omega)
  subst h1
  exact ⟨rfl, Nat.eq_of_beq_eq_true h2⟩
theorem bo_tgt {i : Instr} {len pc nx tg : Nat} {o : Int} (hok : bo_okI i len pc nx tg = true) (h : bo_off i = some o) : (pc : Int) + o = (tg : Int) := by
  unfold bo_okI at hok
  rw [h] at hok
  simp only [Bool.and_eq_true] at hok
  exact of_decide_eq_true hok.2
theorem bo_vpin {i : Int32} {n : Nat} (h : 0 ≤ i ∧ i.toNatClampNeg < n) : vp_in i n := fun q => q.elim (fun z => absurd h.1 (Int32.not_le.mpr z)) (fun z => absurd h.2 (Nat.not_lt.mpr z))
section BOS3
variable {p : Program} {l : Launch} {e : Env} {R : Room} {s : State} {mm : MethodId} {args : Array Value} {below : List Frame} {meth : Method} {c : Code} {Q : State → Prop}
variable {X : bo_X} {kC kS n0 : Nat} {ad0 : Nat → Nat} {m : bo_M}
theorem bo_Wg.gf {pc k : Nat} {ck : Nat × Nat} {lv : bo_LV} {st : List Value} {G : bo_G} {S' : bo_S} (C : bo_Cx p s mm args meth c m) (hf : bo_Fk (bo_o m) k ck) (hd : decode (bo_cc m) pc = .ok (.getfield k, 3)) (hs : bo_gf ck lv (pc + 3) st G = some S') (kk : bo_Wg p l e R s mm args below meth c Q X kC kS n0 ad0 m S') : bo_Wg p l e R s mm args below meth c Q X kC kS n0 ad0 m (pc, lv, st, G) := by
  obtain ⟨hx, hb, hml, hown, hts, hini, hOK⟩ := C
  obtain ⟨⟨hc12, hkN⟩, hlink⟩ := hf
  unfold bo_gf at hs
  split at hs
  · rename_i a r
    have get : ∀ (H : Heap) (locs : List Loc) (ls : Array Slot) (cells slots : Nat) (rest : List Value) (aa : Nat) (fs : List Value) (v : Value), bo_U X s H → va_at X.1 bo_Cls (aa, .inr (ck.1, fs)) H → fs[ck.2]? = some v → W p l e R s mm args below meth c H locs cells slots Q (F0 mm (pc + 3) ls (v :: rest)) → W p l e R s mm args below meth c H locs cells slots Q (F0 mm pc ls (.ref aa :: rest)) := by
      intro H locs ls cells slots rest aa fs v hU hat hv k1
      have hsame : ∀ x, s.fieldFound? (bo_T ck.1 ck.2).1 (bo_T ck.1 ck.2).2.1 (bo_T ck.1 ck.2).2.2.1 = some x → s.fieldFound? (bo_R ck.1) (bo_T ck.1 ck.2).2.1 (bo_T ck.1 ck.2).2.2.1 = some x := fun x hx => by rw [← bo_decl ck.1 hc12 ck.2 hkN]; exact hx
      rcases hlink with hl | ⟨-, hl⟩
      · exact va_get (D := X.1) (cl := bo_Cls) (tys := []) (ws := [(aa, .inr (ck.1, fs))]) hx hb hts (bo_lay ck.1 hc12) hown hU.1 (bo_P1 hat) 0 rfl (bo_clok ck.1 hc12) ck.2 hkN (hts _ hl) hsame hv hd k1
      · exact va_getN (D := X.1) (cl := bo_Cls) (tys := []) (ws := [(aa, .inr (ck.1, fs))]) hx hb hts (bo_lay ck.1 hc12) hown hU.1 (bo_P1 hat) 0 rfl (bo_clok ck.1 hc12) ck.2 hkN (va_Nw.use rfl (hU.2.2.2.2.2.2.1 _ hl)) hsame hv hd k1
    split at hs
    · rename_i o ho
      cases hb1 : Nat.beq o.1 ck.1 <;> rw [hb1] at hs
      · cases hs
      · dsimp only [cond_true] at hs
        split at hs
        · rename_i v hv
          cases hs
          have hoc : o.1 = ck.1 := Nat.eq_of_beq_eq_true hb1
          intro H locs ls ad pa h1 h2 h3 h4 h5 h6 h7 h8
          have hcell := h1.2.1 a _ ho
          have hat := hcell.1.1
          rw [hoc] at hat
          exact get H locs ls _ _ _ (ad a) _ (bo_sv ad v) h1.1 hat (by rw [List.getElem?_map, hv]; rfl) (kk H locs ls ad pa h1 h2 (h3.tl.cons (hcell.2 v (List.mem_of_getElem? hv))) h4 h5 h6 h7 h8)
        · cases hs
    · rename_i w hw
      cases hb1 : Nat.beq ck.1 4 <;> rw [hb1] at hs
      · cases hs
      · have hc4 : ck.1 = 4 := Nat.eq_of_beq_eq_true hb1
        dsimp only [cond_true] at hs
        split at hs
        · rename_i hk0
          cases hs
          intro H locs ls ad pa h1 h2 h3 h4 h5 h6 h7 h8
          have hat := (h1.2.1 a _ hw).1.2.1
          rw [← hc4] at hat
          exact get H locs ls _ _ _ (ad a) _ (.int (Int32.ofNat w.1)) h1.1 hat (by rw [hk0]; rfl) (kk H locs ls ad pa h1 h2 (h3.tl.cons trivial) h4 h5 h6 h7 h8)
        · rename_i hk2
          cases hs
          intro H locs ls ad pa h1 h2 h3 h4 h5 h6 h7 h8
          have hat := (h1.2.1 a _ hw).1.2.1
          rw [← hc4] at hat
          exact get H locs ls _ _ _ (ad a) _ (.int (Int32.ofNat w.2.2.length)) h1.1 hat (by rw [hk2]; rfl) (kk H locs ls ad pa h1 h2 (h3.tl.cons trivial) h4 h5 h6 h7 h8)
        · cases hs
    · cases hs
  · cases hs
theorem bo_Wg.pf {pc k : Nat} {ck : Nat × Nat} {lv : bo_LV} {st : List Value} {G : bo_G} {S' : bo_S} (C : bo_Cx p s mm args meth c m) (hf : bo_Fk (bo_o m) k ck) (hd : decode (bo_cc m) pc = .ok (.putfield k, 3)) (hs : bo_pf m ck lv (pc + 3) st G = some S') (kk : bo_Wg p l e R s mm args below meth c Q X kC kS n0 ad0 m S') : bo_Wg p l e R s mm args below meth c Q X kC kS n0 ad0 m (pc, lv, st, G) := by
  obtain ⟨hx, hb, hml, hown, hts, hini, hOK⟩ := C
  obtain ⟨⟨hc12, hkN⟩, hlink⟩ := hf
  unfold bo_pf at hs
  split at hs
  · rename_i v a r
    have hsame : ∀ x, s.fieldFound? (bo_T ck.1 ck.2).1 (bo_T ck.1 ck.2).2.1 (bo_T ck.1 ck.2).2.2.1 = some x → s.fieldFound? (bo_R ck.1) (bo_T ck.1 ck.2).2.1 (bo_T ck.1 ck.2).2.2.1 = some x := fun x hx => by rw [← bo_decl ck.1 hc12 ck.2 hkN]; exact hx
    split at hs
    · rename_i o ho
      cases hb1 : (Nat.beq o.1 ck.1 && (Nat.blt ck.2 o.2.length && bo_wr m ck v)) <;> rw [hb1] at hs
      · cases hs
      · cases hs
        rw [Bool.and_eq_true, Bool.and_eq_true] at hb1
        obtain ⟨q1, q2, q3⟩ := hb1
        have hoc : o.1 = ck.1 := Nat.eq_of_beq_eq_true q1
        have hlt : ck.2 < o.2.length := Nat.le_of_ble_eq_true q2
        obtain ⟨w1, w2, w3, w4⟩ := bo_wr_ok q3
        have hl := hlink.resolve_right (fun q => by have := q.1; rw [w1] at this; simp at this)
        intro H locs ls ad pa h1 h2 h3 h4 h5 h6 h7 h8
        have hcell := h1.2.1 a _ ho
        have hat := hcell.1.1
        have hA := hcell.1.2
        rw [hoc] at hat
        have hv1 : narrow (bo_ty ck.1 ck.2) (bo_sv ad v) = bo_sv ad v := by
          cases v with
          | ref x => revert w3; cases bo_ty ck.1 ck.2 <;> simp [narrow, bo_sv]
          | _ => exact w3
        have hv2 : fits (bo_ty ck.1 ck.2) (bo_sv ad v) = true := by
          cases v with
          | ref x => revert w4; cases bo_ty ck.1 ck.2 <;> simp [fits, bo_sv]
          | _ => exact w4
        refine br_put (A := bo_Ad X) (ci := ck.1) (C := bo_R ck.1) (T := bo_T ck.1) (N := bo_N ck.1) hx hb hts (bo_lay ck.1 hc12) (bo_ty ck.1) (bo_tyok ck.1 hc12) (bo_nmok ck.1 hc12) hown h1.1.1 hat (bo_clok ck.1 hc12) ck.2 hkN (hts _ hl) hsame (w2.imp id fun z => ⟨hini z, by rw [w1]; exact bo_decl ck.1 hc12 ck.2 hkN⟩) hv1 hv2 (by rw [List.length_map]; exact hlt) hA h4 hd fun H1 locs1 e1 e2 e3 e4 => ?_
        have hset : (bo_uC (G.set a (cO o.1 (o.2.set ck.2 v)))) = bo_uC G := by have := bo_sum_set (f := bo_wC) G a _ (cO o.1 (o.2.set ck.2 v)) ho; unfold bo_uC; simp only [bo_wC] at this; omega
        have hsetS : (bo_uS (G.set a (cO o.1 (o.2.set ck.2 v)))) = bo_uS G := by have := bo_sum_set (f := bo_wS) G a _ (cO o.1 (o.2.set ck.2 v)) ho; unfold bo_uS; simp only [bo_wS] at this; omega
        have hv3 := h3.hd
        have hk := kk H1 locs1 ls ad pa (h1.upd ho (c1 := cO o.1 (o.2.set ck.2 v)) ⟨by rw [List.map_set, hoc]; exact e1, hA⟩ (fun z hz => ?_) rfl hA (fun z => by cases z) e2 (fun q hq _ => e3 q hq)) h2 (by rw [List.length_set]; exact h3.tl.tl) e4 h5 (by rw [List.length_set]; exact h6) (by rw [hset]; exact h7) (by rw [hsetS]; exact h8)
        · rw [hset, hsetS] at hk
          exact hk
        · rcases List.mem_or_eq_of_mem_set hz with hz | rfl
          · exact hcell.2 z hz
          · exact hv3
    · rename_i w hw
      cases hb1 : (Nat.beq ck.1 4 && (Nat.beq ck.2 2 && Nat.beq (bo_o m) 4)) <;> rw [hb1] at hs
      · cases hs
      · rw [Bool.and_eq_true, Bool.and_eq_true] at hb1
        obtain ⟨q1, q2, q3⟩ := hb1
        have hc4 : ck.1 = 4 := Nat.eq_of_beq_eq_true q1
        have hk2 : ck.2 = 2 := Nat.eq_of_beq_eq_true q2
        have ho4 : bo_o m = 4 := Nat.eq_of_beq_eq_true q3
        dsimp only [cond_true] at hs
        split at hs
        · rename_i x
          split at hs
          · rename_i hxx
            cases hs
            have hl := hlink.resolve_right (fun q => by have := q.1; rw [ho4, hc4] at this; simp at this)
            intro H locs ls ad pa h1 h2 h3 h4 h5 h6 h7 h8
            have hcell := h1.2.1 a _ hw
            obtain ⟨r1, r2, r3, r4, f, r5, r6⟩ := hcell.1
            have r2' := r2
            rw [← hc4] at r2
            have hty : bo_ty ck.1 ck.2 = .int := by rw [hc4, hk2]; rfl
            refine br_put (A := bo_Ad X) (ci := ck.1) (C := bo_R ck.1) (T := bo_T ck.1) (N := bo_N ck.1) hx hb hts (bo_lay ck.1 hc12) (bo_ty ck.1) (bo_tyok ck.1 hc12) (bo_nmok ck.1 hc12) hown h1.1.1 r2 (bo_clok ck.1 hc12) ck.2 hkN (hts _ hl) hsame (Or.inl (by rw [hc4, hk2]; rfl)) (v := .int x) (by rw [hty]; rfl) (by rw [hty]; rfl) (by rw [hk2]; exact Nat.le_refl 3) r3 h4 hd fun H1 locs1 e1 e2 e3 e4 => ?_
            have htl : (w.2.2.take x.toNatClampNeg).length = x.toNatClampNeg := by rw [List.length_take]; omega
            have hxe : Int32.ofNat x.toNatClampNeg = x := by
              have hx0 : (0 : Int) ≤ x.toInt := Int32.le_iff_toInt_le.mp hxx.1
              apply Int32.toInt_inj.mp
              rw [← Int32.ofInt_eq_ofNat]
              have : (x.toNatClampNeg : Int) = x.toInt := by
                show ((x.toInt.toNat : Nat) : Int) = x.toInt
                omega
              rw [this, Int32.ofInt_toInt]
            have hset : (bo_uC (G.set a (cR w.1 w.2.1 (w.2.2.take x.toNatClampNeg)))) = bo_uC G := by have := bo_sum_set (f := bo_wC) G a _ (cR w.1 w.2.1 (w.2.2.take x.toNatClampNeg)) hw; unfold bo_uC; simp only [bo_wC] at this; omega
            have hsetS : (bo_uS (G.set a (cR w.1 w.2.1 (w.2.2.take x.toNatClampNeg)))) = bo_uS G := by have := bo_sum_set (f := bo_wS) G a _ (cR w.1 w.2.1 (w.2.2.take x.toNatClampNeg)) hw; unfold bo_uS; simp only [bo_wS] at this; omega
            have hap : pa a ≠ ad a := h1.2.2.2.2 a a _ hw rfl (bo_lt hw)
            have hk := kk H1 locs1 ls ad pa (h1.upd hw (c1 := cR w.1 w.2.1 (w.2.2.take x.toNatClampNeg)) ⟨⟨r1.1, r1.2.1, by show (w.2.2.take x.toNatClampNeg).length ≤ w.2.1; rw [htl]; exact Nat.le_trans hxx.2 r1.2.2.1, r1.2.2.2⟩, by show va_at _ _ (ad a, .inr (4, [_, _, .int (Int32.ofNat (w.2.2.take x.toNatClampNeg).length)])) _; rw [htl, hxe]; rw [hc4, hk2] at e1; exact e1, r3, r4, f, r5.kept (e3 _ hap), fun j hj => by
                have hj' : j < (w.2.2.take x.toNatClampNeg).length := hj
                rw [htl] at hj'
                rw [r6 j (by omega)]
                simp only [List.getD_eq_getElem?_getD]
                rw [List.getElem?_take_of_lt hj']⟩ trivial rfl r3 (fun _ => r4) e2 (fun q hq _ => e3 q hq)) h2 (by rw [List.length_set]; exact h3.tl.tl) e4 h5 (by rw [List.length_set]; exact h6) (by rw [hset]; exact h7) (by rw [hsetS]; exact h8)
            rw [hset, hsetS] at hk
            exact hk
          · cases hs
        · cases hs
    · cases hs
  · cases hs
end BOS3
