/-! A whole method. -/
theorem bo_args (ad : Nat → Nat) : ∀ (as : List Value) (i : Nat), lv_args i (as.map (bo_sv ad)) = bo_lm ad (lv_args i as) := by
  intro as
  induction as with
  | nil => intro i; rfl
  | cons v as ih =>
    intro i
    show (i, bo_sv ad v) :: lv_args (if (bo_sv ad v).category = 2 then i + 2 else i + 1) (as.map (bo_sv ad)) = _
    rw [bo_sv_cat, ih]
    rfl
theorem bo_args_rk {n : Nat} : ∀ (as : List Value) (i : Nat), (∀ v ∈ as, bo_rk n v) → ∀ q ∈ lv_args i as, bo_rk n q.2 := by
  intro as
  induction as with
  | nil => intro i h q hq; cases hq
  | cons v as ih =>
    intro i h q hq
    rcases List.mem_cons.mp hq with rfl | hq
    · exact h v List.mem_cons_self
    · exact ih _ (fun w hw => h w (List.mem_cons_of_mem _ hw)) q hq
theorem bo_lsl (ad : Nat → Nat) (as : List Value) : (lg_sl (as.map (bo_sv ad))).length = (lg_sl as).length := by
  induction as with
  | nil => rfl
  | cons v as ih =>
    unfold lg_sl at ih ⊢
    rw [List.map_cons, List.flatMap_cons, List.flatMap_cons, List.length_append, List.length_append, ih, bo_sv_cat]
    split <;> rfl
section BOM
variable {p : Program} {l : Launch} {e : Env} {R : Room} {s : State} {mm : MethodId} {args : Array Value} {below : List Frame} {meth : Method} {c : Code} {Q : State → Prop}
variable {X : bo_X} {kC kS n0 : Nat} {ad0 : Nat → Nat} {m : bo_M}
theorem bo_Wg.nat {pc d : Nat} {en : bo_E} {lv : bo_LV} {st r : List Value} {G : bo_G} (C : bo_Cx p s mm args meth c m) (hat : bo_wh R (d + 1)) (he : bo_cd m pc = some en) (hc : bo_nat m en.1 st = some r) (hcat : bo_cat r = true) (kk : bo_Wg p l e R s mm args below meth c Q X kC kS n0 ad0 m (en.2.1, lv, r, G)) : bo_Wg p l e R s mm args below meth c Q X kC kS n0 ad0 m (pc, lv, st, G) := by
  obtain ⟨hx, hb, hml, hown, hts, hini, hOK⟩ := id C
  obtain ⟨len, hd, hok⟩ := hOK pc en he
  obtain ⟨i, nx, tg, kp⟩ := en
  dsimp only at hd hok hc kk
  obtain ⟨hfr, hlo⟩ := hat
  have hcs : (r.map fun v => v.category).sum ≤ 8 := Nat.le_of_ble_eq_true hcat
  have hcs2 : ∀ (ad : Nat → Nat) (r' : List Value), (r'.map fun v => v.category).sum ≤ 8 → ((r'.map (bo_sv ad)).map fun v => v.category).sum ≤ 8 := by
    intro ad r' h
    rw [List.map_map]
    have : ((fun v : Value => v.category) ∘ bo_sv ad) = fun v : Value => v.category := funext fun v => bo_sv_cat ad v
    rw [this]; exact h
  unfold bo_nat at hc
  split at hc
  · rename_i k
    obtain ⟨rfl, rfl⟩ := bo_len (n := 2) hok rfl
    split at hc
    · rename_i z hlk
      split at hc
      · rename_i a r'
        cases hc
        have w1 : bo_Lk (bo_o m) k (5, z) := bo_lko _ _ _ hlk
        refine kk.pure (fun h => h.tl) fun H locs ls ad pa h1 h2 k1 => ?_
        have hq := hcs2 ad r hcs
        refine W.objInit hx hb hown (hts _ w1) (hts _ bo_w_oi) (hts _ bo_w_oc) rfl (h2.1.trans hml.symm) (by rw [List.map_cons]; rfl) hd (by omega) (by show 2 * 0 + _ + 12 ≤ _; omega) ?_
        exact k1
      · cases hc
    · cases hc
  · rename_i k
    obtain ⟨rfl, rfl⟩ := bo_len (n := 2) hok rfl
    split at hc
    · rename_i z hlk
      split at hc
      · rename_i b r'
        split at hc
        · rename_i hv
          cases hc
          have w1 : bo_Lk (bo_o m) k (6, z) := bo_lko _ _ _ hlk
          refine kk.pure (fun h => h.tl.cons trivial) fun H locs ls ad pa h1 h2 k1 => ?_
          have hq := hcs2 ad r' (by simp only [List.map_cons, List.sum_cons] at hcs; omega)
          exact vn_i2f hx hb (hml.trans h2.1.symm) hown (hts _ w1) (hts _ bo_w_fn) (hts _ bo_w_fs) (hts _ bo_w_fi) hv (by omega) (by omega) hd k1
        · cases hc
      · cases hc
    · cases hc
  · cases hc
theorem bo_sound_ex {d : Nat} {K : bo_K} {v : Option Value} {G' : bo_G} (C : bo_Cx p s mm args meth c m) (hat : bo_wh R d) (hK : ∀ y as G v G', K y as G = some (v, G') → bo_le G G') (hM : ∀ d', d = d' + 1 → ∀ y as G v G', bo_Mo y → K y as G = some (v, G') → bo_Met X d' y as G v G') (hroom : bo_uC G' - kC ≤ R.cells ∧ bo_uS G' - kS ≤ R.slots)
    (hret : ∀ (pc : Nat) (en : bo_E) (lv : bo_LV) (st : List Value), bo_cd m pc = some en → bo_ret m en.1 st = some v → bo_Wg p l e R s mm args below meth c Q X kC kS n0 ad0 m (pc, lv, st, G')) : ∀ (n : Nat) (S : bo_S), bo_ex d K m n S = some (v, G') → bo_Wg p l e R s mm args below meth c Q X kC kS n0 ad0 m S := by
  intro n
  induction n with
  | zero => intro S h; cases h
  | succ n ih =>
    intro S h
    obtain ⟨pc, lv, st, G⟩ := S
    unfold bo_ex at h
    split at h
    · cases h
    · rename_i en he
      split at h
      · rename_i S' hS'
        have hm := bo_mono_ex hK n S' v G' h
        exact bo_sound_step C he hS' ⟨by have := hm.2.1; have := hroom.1; omega, by have := hm.2.2; have := hroom.2; omega⟩ (ih S' h)
      · split at h
        · rename_i v' hv'
          cases h
          exact hret pc en lv st he hv'
        · rename_i hnr
          split at h
          · rename_i r hr
            simp only [Bool.cond_eq_ite, Bool.and_eq_true] at h
            split at h
            · rename_i hb
              have hd0 : 0 < d := Nat.le_of_ble_eq_true hb.1
              obtain ⟨d', rfl⟩ : ∃ d', d = d' + 1 := ⟨d - 1, by omega⟩
              exact bo_Wg.nat C hat he hr hb.2 (ih _ h)
            · cases h
          · split at h
            · rename_i y as r hcal
              simp only [Bool.cond_eq_ite, Bool.and_eq_true] at h
              split at h
              · rename_i hb
                have hd0 : 0 < d := Nat.le_of_ble_eq_true hb.1
                obtain ⟨d', rfl⟩ : ∃ d', d = d' + 1 := ⟨d - 1, by omega⟩
                split at h
                · rename_i v1 G1 hk
                  have hm := bo_mono_ex hK n _ v G' h
                  dsimp only at hm
                  exact bo_Wg.call C hat he hcal hb.2 (fun hy => hM d' rfl y as G v1 G1 hy hk) (hK _ _ _ _ _ hk) ⟨by have := hm.2.1; have := hroom.1; omega, by have := hm.2.2; have := hroom.2; omega⟩ (ih _ h)
                · cases h
              · cases h
            · cases h
end BOM
/-- from the walk of a body to the call -/
theorem bo_enter {X : bo_X} {d : Nat} {m : bo_M} {as : List Value} {G G' : bo_G} {v : Option Value} (hmo : bo_Mo m) (hlen : Nat.ble (lg_sl as).length (bo_ml m) = true)
    (body : ∀ (p : Program) (l : Launch) (e : Env) (R : Room) (s : State) (mm : MethodId) (args : Array Value) (below : List Frame) (meth : Method) (c : Code) (Q : State → Prop) (ad : Nat → Nat), bo_Cx p s mm args meth c m → bo_wh R d → (bo_uC G' - bo_uC G ≤ R.cells ∧ bo_uS G' - bo_uS G ≤ R.slots) →
      (∀ (pc : Nat) (en : bo_E) (lv : bo_LV) (st : List Value), bo_cd m pc = some en → bo_ret m en.1 st = some v → bo_Wg p l e R s mm args below meth c Q X (bo_uC G) (bo_uS G) G.length ad m (pc, lv, st, G')) → bo_Wg p l e R s mm args below meth c Q X (bo_uC G) (bo_uS G) G.length ad m (0, lv_args 0 as, [], G)) : bo_Met X d m as G v G' := by
  intro l ad pa
  refine va_MetF (cc := bo_cc m) (maxL := bo_ml m) (ret := bo_rt m) hmo.2.2.2.1 rfl ?_
  intro p e s mm args below meth c s₁ B hml hv
  obtain ⟨rfl, hR, hrk⟩ := hv
  have hx := B.exec
  have hb := B.bytes
  have hr := B.returns
  have hts2 := atoms_spec (ws := bo_ws m) B.pre
  have hown : s.vm.findClass (bo_R (bo_o m)) = some mm.cls := by rw [hmo.2.2.2.2.2.2.1]; exact findClass_of_methodNamed B.named
  have hlocks := B.notSynchronized
  have hin : bo_in m = true → meth.name = "<init>" := fun q => by rw [(name_of_methodNamed B.named B.method).1]; exact (hmo.2.2.2.2.2.2.2.1 q).1
  have C : bo_Cx p s mm (as.map (bo_sv ad)).toArray meth c m := ⟨hx, hb, hml, hown, fun w hw => hts2 w (List.mem_cons_of_mem _ hw), hin, hmo.2.2.2.2.2.1⟩
  have W0 := body p l e (headSpec (bo_ws m) (bo_rm d (bo_uC G' - bo_uC G) (bo_uS G' - bo_uS G))).room s mm (as.map (bo_sv ad)).toArray below meth c (MQ below (bo_Qc X ad G v G') (as.map (bo_sv ad)).toArray s (bo_uC G' - bo_uC G) (bo_uS G' - bo_uS G) (bo_Ad X)) ad C ⟨rfl, Nat.le_refl _⟩ ⟨Nat.le_refl _, Nat.le_refl _⟩ ?_
  · have hl := lv_entry (as.map (bo_sv ad)) (n := bo_ml m) (by rw [bo_lsl]; exact Nat.le_of_ble_eq_true hlen)
    rw [lg_entry_eq]
    generalize (lg_sl (as.map (bo_sv ad)) ++ List.replicate (bo_ml m - (lg_sl (as.map (bo_sv ad))).length) Slot.unset).toArray = ls at hl ⊢
    rw [bo_args] at hl
    have k1 := W0 s.heap [] ls ad pa hR hl ⟨bo_args_rk as 0 hrk, fun v hv => by cases hv⟩ (fun q hq => by cases hq) (fun i _ => rfl) (Nat.le_refl _) (Nat.le_refl _) (Nat.le_refl _)
    dsimp only at k1
    rw [Nat.sub_self, Nat.sub_self] at k1
    exact k1
  · intro pc en lv st he hv
    obtain ⟨len, hd, hok⟩ := hmo.2.2.2.2.2.1 pc en he
    obtain ⟨i, nx, tg, kp⟩ := en
    dsimp only at hd hok hv
    intro H locs ls ad' pa' h1 h2 h3 h4 h5 h6 h7 h8
    have post : ∀ (o : Outcome), o = .returned (v.map (bo_sv ad')) → (∀ x, v = some x → bo_rk G'.length x) → ∀ t : State, t.heap = H → s.WarmedH t.vm → bo_Qc X ad G v G' (as.map (bo_sv ad)).toArray s o t := fun o ho hx t ht hW => ⟨ad', pa', h5, ho, by rw [ht]; exact h1.moved hW.alike (h1.u1.warm hW), hx⟩
    dsimp only
    unfold bo_ret at hv
    split at hv
    · rename_i x hrt
      cases hv
      obtain ⟨rfl, rfl⟩ := bo_len (n := 0) hok rfl
      exact W.iret hx hb (by rw [hr, hrt]) (post _ rfl (fun x h => by cases h; exact trivial)) h4 hd
    · rename_i x hrt
      split at hv
      · rename_i hx01
        cases hv
        obtain ⟨rfl, rfl⟩ := bo_len (n := 0) hok rfl
        exact W.zret (ty := .boolean) hx hb (by rw [hr, hrt]) (by rcases hx01 with rfl | rfl <;> rfl) (post _ rfl (fun x h => by cases h; exact trivial)) h4 hd
      · cases hv
    · rename_i x hrt
      cases hv
      obtain ⟨rfl, rfl⟩ := bo_len (n := 0) hok rfl
      exact W.lret hx hb (by rw [hr, hrt]) (post _ rfl (fun x h => by cases h; exact trivial)) h4 hd
    · rename_i a C0 hrt
      cases hv
      obtain ⟨rfl, rfl⟩ := bo_len (n := 0) hok rfl
      exact W.aret hx hb (by rw [hr, hrt]) (Or.inl ⟨_, rfl⟩) (Or.inr ⟨_, rfl⟩) (post _ rfl (fun x h => by cases h; exact h3.hd)) h4 hd
    · rename_i C0 hrt
      cases hv
      obtain ⟨rfl, rfl⟩ := bo_len (n := 0) hok rfl
      exact W.aret hx hb (by rw [hr, hrt]) (Or.inl ⟨_, rfl⟩) (Or.inl rfl) (post _ rfl (fun x h => by cases h; exact trivial)) h4 hd
    · rename_i hrt
      cases hv
      obtain ⟨rfl, rfl⟩ := bo_len (n := 0) hok rfl
      exact W.vret hx hb (by rw [hr, hrt]) (post _ rfl (fun x h => by cases h)) h4 hd
    · cases hv
theorem bo_method {X : bo_X} {d n : Nat} {K : bo_K} {m : bo_M} {as : List Value} {G G' : bo_G} {v : Option Value} (hmo : bo_Mo m) (hK : ∀ y as G v G', K y as G = some (v, G') → bo_le G G') (hM : ∀ d', d = d' + 1 → ∀ y as G v G', bo_Mo y → K y as G = some (v, G') → bo_Met X d' y as G v G') (hlen : Nat.ble (lg_sl as).length (bo_ml m) = true) (h : bo_ex d K m n (0, lv_args 0 as, [], G) = some (v, G')) : bo_Met X d m as G v G' :=
  bo_enter hmo hlen fun _ _ _ _ _ _ _ _ _ _ _ _ C hw hroom hret => bo_sound_ex C hw hK hM hroom hret n _ h
