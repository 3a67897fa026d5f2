/-! Calls and returns; the walk of a whole method is the machine's. -/
def bo_le (G G' : bo_G) : Prop := G.length ≤ G'.length ∧ bo_uC G ≤ bo_uC G' ∧ bo_uS G ≤ bo_uS G'
theorem bo_le.rf (G : bo_G) : bo_le G G := ⟨Nat.le_refl _, Nat.le_refl _, Nat.le_refl _⟩
theorem bo_le.tr {A B C : bo_G} (h : bo_le A B) (h2 : bo_le B C) : bo_le A C := ⟨Nat.le_trans h.1 h2.1, Nat.le_trans h.2.1 h2.2.1, Nat.le_trans h.2.2 h2.2.2⟩
theorem bo_le.app (G : bo_G) (c : bo_C) : bo_le G (G ++ [c]) := by
  refine ⟨by simp, ?_, ?_⟩
  · unfold bo_uC; rw [bo_sum_app]; exact Nat.le_add_right _ _
  · unfold bo_uS; rw [bo_sum_app]; exact Nat.le_add_right _ _
theorem bo_le.st {G : bo_G} {i : Nat} {c0 c1 : bo_C} (h : G[i]? = some c0) (hC : bo_wC c0 ≤ bo_wC c1) (hS : bo_wS c0 ≤ bo_wS c1) : bo_le G (G.set i c1) := by
  have e1 := bo_sum_set (f := bo_wC) G i c0 c1 h
  have e2 := bo_sum_set (f := bo_wS) G i c0 c1 h
  refine ⟨by simp, ?_, ?_⟩
  · unfold bo_uC; omega
  · unfold bo_uS; omega
theorem bo_mono_pf {m : bo_M} {ck : Nat × Nat} {nx : Nat} {lv : bo_LV} {st : List Value} {G : bo_G} {S' : bo_S} (hs : bo_pf m ck lv nx st G = some S') : bo_le G S'.2.2.2 := by
  unfold bo_pf at hs
  simp only [Bool.cond_eq_ite] at hs
  split at hs
  · split at hs
    · rename_i o ho
      split at hs
      · cases hs
        exact bo_le.st ho (Nat.le_refl _) (Nat.le_refl _)
      · cases hs
    · rename_i w hw
      split at hs
      · split at hs
        · split at hs
          · cases hs
            exact bo_le.st hw (Nat.le_refl _) (Nat.le_refl _)
          · cases hs
        · cases hs
      · cases hs
    · cases hs
  · cases hs
theorem bo_mono_ias {nx : Nat} {lv : bo_LV} {st : List Value} {G : bo_G} {S' : bo_S} (hs : bo_ias lv nx st G = some S') : bo_le G S'.2.2.2 := by
  unfold bo_ias at hs
  split at hs
  · split at hs
    · rename_i w hw
      split at hs
      · cases hs
        exact bo_le.st hw (Nat.le_refl _) (Nat.le_refl _)
      · cases hs
    · cases hs
  · cases hs
theorem bo_mono_aas {nx : Nat} {lv : bo_LV} {st : List Value} {G : bo_G} {S' : bo_S} (hs : bo_aas lv nx st G = some S') : bo_le G S'.2.2.2 := by
  unfold bo_aas at hs
  split at hs
  · split at hs
    · rename_i w hw
      split at hs
      · split at hs
        · cases hs
          exact bo_le.st hw (Nat.le_refl _) (Nat.le_refl _)
        · cases hs
      · cases hs
    · cases hs
  · cases hs
theorem bo_mono_step {m : bo_M} {pc : Nat} {en : bo_E} {lv : bo_LV} {st : List Value} {G : bo_G} {S' : bo_S} (hs : bo_step m pc en lv st G = some S') : bo_le G S'.2.2.2 := by
  unfold bo_step at hs
  split at hs <;> (try unfold bo_ldA at hs) <;> (try unfold bo_ldI at hs) <;> (try unfold bo_ldL at hs) <;> (try unfold bo_stA at hs) <;> (try unfold bo_stI at hs) <;> (try unfold bo_stL at hs) <;> (try unfold bo_inc at hs) <;> (try unfold bo_i1 at hs) <;> (try unfold bo_i2 at hs) <;> (try unfold bo_l1 at hs) <;> (try unfold bo_l2 at hs) <;> (try unfold bo_d2 at hs) <;> (try unfold bo_dl at hs) <;> (try unfold bo_b1 at hs) <;> (try unfold bo_b2 at hs) <;> (try unfold bo_nul at hs) <;> (try unfold bo_fm at hs) <;> (try simp only [Bool.cond_eq_ite] at hs) <;> (repeat' (split at hs)) <;>
    first
    | (cases hs; done)
    | (cases hs; exact bo_le.rf _)
    | (unfold bo_gf at hs
       simp only [Bool.cond_eq_ite] at hs
       repeat' (split at hs)
       all_goals first | (cases hs; done) | (cases hs; exact bo_le.rf _))
    | exact bo_mono_pf hs
    | exact bo_mono_ias hs
    | exact bo_mono_aas hs
    | (unfold bo_new at hs; cases hs; exact bo_le.app _ _)
    | (unfold bo_na1 at hs
       repeat' (split at hs)
       all_goals first | (cases hs; done) | (cases hs; exact bo_le.app _ _))
    | (unfold bo_na2 at hs
       repeat' (split at hs)
       all_goals first | (cases hs; done) | (cases hs; exact bo_le.app _ _))
    | (unfold bo_al at hs
       repeat' (split at hs)
       all_goals first | (cases hs; done) | (cases hs; exact bo_le.rf _))
    | (unfold bo_ial at hs
       repeat' (split at hs)
       all_goals first | (cases hs; done) | (cases hs; exact bo_le.rf _))
    | (unfold bo_aal at hs
       repeat' (split at hs)
       all_goals first | (cases hs; done) | (cases hs; exact bo_le.rf _))
theorem bo_mono_ex {d : Nat} {K : bo_K} {m : bo_M} (hK : ∀ y as G v G', K y as G = some (v, G') → bo_le G G') : ∀ (n : Nat) (S : bo_S) (v : Option Value) (G' : bo_G), bo_ex d K m n S = some (v, G') → bo_le S.2.2.2 G' := by
  intro n
  induction n with
  | zero => intro S v G' h; cases h
  | succ n ih =>
    intro S v G' h
    obtain ⟨pc, lv, st, G⟩ := S
    unfold bo_ex at h
    split at h
    · cases h
    · split at h
      · rename_i S' hS'
        exact (bo_mono_step hS').tr (ih S' v G' h)
      · split at h
        · cases h
          exact bo_le.rf _
        · simp only [Bool.cond_eq_ite] at h
          split at h
          · split at h
            · have q := ih _ v G' h
              exact q
            · cases h
          · split at h
            · split at h
              · split at h
                · rename_i v1 G1 hk
                  exact (hK _ _ _ _ _ hk).tr (ih _ v G' h)
                · cases h
              · cases h
            · cases h
def bo_ws (m : bo_M) : List Cond := Cond.code (bo_y m) (bo_cc m) (bo_ml m) (bo_rt m) :: bo_W
def bo_rm (d mc ms : Nat) : Room := { frames := d, cells := mc, slots := ms, locals := 46 * d }
def bo_Pc (X : bo_X) (ad pa : Nat → Nat) (as : List Value) (G : bo_G) : Array Value → State → Prop := fun a U => a = (as.map (bo_sv ad)).toArray ∧ bo_Rel X ad pa U U.heap G ∧ ∀ v ∈ as, bo_rk G.length v
def bo_Qc (X : bo_X) (ad : Nat → Nat) (G : bo_G) (v : Option Value) (G' : bo_G) : Array Value → State → Outcome → State → Prop := fun _ _ o t =>
  ∃ ad' pa' : Nat → Nat, (∀ i, i < G.length → ad' i = ad i) ∧ o = .returned (v.map (bo_sv ad')) ∧ bo_Rel X ad' pa' t t.heap G' ∧ ∀ x, v = some x → bo_rk G'.length x
/-- what a call of m is on the machine -/
def bo_Met (X : bo_X) (d : Nat) (m : bo_M) (as : List Value) (G : bo_G) (v : Option Value) (G' : bo_G) : Prop :=
  ∀ (l : Launch) (ad pa : Nat → Nat), Met l (bo_y m) (bo_ws m) (bo_rm d (bo_uC G' - bo_uC G) (bo_uS G' - bo_uS G)) (bo_Pc X ad pa as G) (bo_Qc X ad G v G') (bo_uC G' - bo_uC G) (bo_uS G' - bo_uS G) (bo_Ad X)
theorem bo_Rel.moved {X : bo_X} {ad pa : Nat → Nat} {u U : State} {H : Heap} {G : bo_G} (hvm : u.vm.Alike U.vm) (hV : bo_U1 U) (h : bo_Rel X ad pa u H G) : bo_Rel X ad pa U H G := by
  obtain ⟨e1, e2, e3⟩ := h
  refine ⟨e1.moved hvm hV, fun i c hc => ⟨?_, (e2 i c hc).2⟩, e3⟩
  have q := (e2 i c hc).1
  match c, q with
  | .inl o, q => exact q
  | .inr (.inl w), q => exact q
  | .inr (.inr (.inl w)), q => exact q
  | .inr (.inr (.inr (.inl w))), q => exact q
  | .inr (.inr (.inr (.inr w))), q => exact ⟨q.1.moved hvm, q.2⟩
theorem bo_Rel.u1 {X : bo_X} {ad pa : Nat → Nat} {u : State} {H : Heap} {G : bo_G} (h : bo_Rel X ad pa u H G) : bo_U1 u := h.1.2.2.2.2.2.2
theorem bo_blind (X : bo_X) (ad pa : Nat → Nat) (as : List Value) (G : bo_G) : FrameBlind (bo_Pc X ad pa as G) := by
  intro a U g mk h
  obtain ⟨h1, h2, h3⟩ := h
  refine ⟨h1, bo_Rel.moved (u := U) (U := U.calling g mk a) (Vm.Alike.refl U.vm) ⟨fun w hw => ?_, fun c hc => va_AO.moved (u := U) (U := U.calling g mk a) (Vm.Alike.refl U.vm) (h2.u1.2 c hc)⟩ h2, h3⟩
  have q := h2.u1.1 w hw
  have q2 := (List.mem_filter.mp hw).2
  cases w <;> first | (cases q2; done) | exact va_Nw.same (u := U) (U := U.calling g mk a) rfl rfl q
section BOC
variable {p : Program} {l : Launch} {e : Env} {R : Room} {s : State} {mm : MethodId} {args : Array Value} {below : List Frame} {meth : Method} {c : Code} {Q : State → Prop}
variable {X : bo_X} {kC kS n0 : Nat} {ad0 : Nat → Nat} {m : bo_M}
theorem bo_after {H : Heap} {locs : List Loc} {cells slots mc ms pc : Nat} {ls : Array Slot} {st0 rest : List Value} {Qa : State → Outcome → State → Prop} {free : Addr → Prop} (hr : va_Run p l e R s mm args below meth c H locs cells slots mc ms (F0 mm pc ls st0) rest Qa free)
    (kk : ∀ (v : Option Value) (st₀ t : State) (L : List Loc), s.vm.Alike t.vm → (∀ q ∈ L, free q.base) → Qa st₀ (.returned v) t → W p l e R s mm args below meth c t.heap (locs ++ L) (cells + mc) (slots + ms) Q (F0 mm (pc + 3) ls (v.toList ++ rest))) : W p l e R s mm args below meth c H locs cells slots Q (F0 mm pc ls st0) := by
  intro T hT X
  obtain ⟨v, st₀, t, T', L, h0, X', hL, e1, e2, hq, st⟩ := hr T hT X
  obtain ⟨t2, a1, b1⟩ := kk v st₀ t L (by rw [← e2]; exact X'.warmed.alike) hL hq T' e1 X'
  exact ⟨t2, st t2 a1, b1⟩
theorem bo_good (y : bo_M) (hy : bo_Mo y) : GoodIn bo_W (bo_ws y) := by
  intro w hw
  have hW : w ∈ bo_W := by
    rcases List.mem_cons.mp hw with rfl | h
    · exact hy.1
    · exact h
  exact ⟨hW, good_of_word (List.mem_filter.mp hW).2⟩
theorem bo_recv {ad pa : Nat → Nat} {H : Heap} {G : bo_G} {cn a : Nat} (h : bo_Rel X ad pa s H G) (hi : bo_is G cn (.ref a) = true) (hc : cn < 12) : ∃ cell : Cell, H[ad a]? = some cell ∧ cell.vm.isStatics = false ∧ s.vm.findClass (bo_R cn) = some cell.cls := by
  unfold bo_is at hi
  dsimp only at hi
  split at hi
  · rename_i o ho
    have e := Nat.eq_of_beq_eq_true hi
    have q := (h.2.1 a _ ho).1.1
    rw [e] at q
    exact va_recv (D := X.1) (cl := bo_Cls) (ws := [(ad a, .inr (cn, o.2.map (bo_sv ad)))]) (tys := []) h.1.1 (bo_P1 q) (bo_clok cn hc) (q0 := 0) rfl
  · rename_i w hw
    have e := Nat.eq_of_beq_eq_true hi
    have q := (h.2.1 a _ hw).1.2.1
    rw [← e] at q
    exact va_recv (D := X.1) (cl := bo_Cls) (ws := [(ad a, .inr (cn, _))]) (tys := []) h.1.1 (bo_P1 q) (bo_clok cn hc) (q0 := 0) rfl
  · cases hi
/-- what a call needs of where it stands -/
def bo_wh (R : Room) (d : Nat) : Prop := R.frames = d ∧ 46 * d ≤ R.locals
theorem bo_split {n : Nat} {st : List Value} (h : Nat.beq (st.take n).length n = true) : st = (st.take n).reverse.reverse ++ st.drop n ∧ (st.take n).reverse.length = n := by
  rw [List.reverse_reverse, List.take_append_drop, List.length_reverse]
  exact ⟨rfl, Nat.eq_of_beq_eq_true h⟩
theorem bo_splitR {n : Nat} {st : List Value} (h : Nat.beq (st.take (n + 1)).length (n + 1) = true) : ∃ (As : List Value), (st.take (n + 1)).reverse = (st.take (n + 1)).getLastD .null :: As ∧ As.length = n ∧ st = As.reverse ++ (st.take (n + 1)).getLastD .null :: st.drop (n + 1) := by
  have hl := Nat.eq_of_beq_eq_true h
  have hne : st.take (n + 1) ≠ [] := fun q => by rw [q] at hl; simp at hl
  obtain ⟨A, x, hx⟩ : ∃ A x, st.take (n + 1) = A ++ [x] := ⟨_, _, (List.dropLast_concat_getLast hne).symm⟩
  have hg : (st.take (n + 1)).getLastD .null = x := by rw [hx]; simp
  refine ⟨A.reverse, ?_, ?_, ?_⟩
  · rw [hg, hx]; simp
  · rw [hx] at hl
    simp at hl
    simp [hl]
  · rw [hg]
    conv => lhs; rw [← List.take_append_drop (n + 1) st, hx]
    simp
theorem bo_room {d k mc ms : Nat} (h : Nat.ble k 27 = true) : 8 + (k + 11) + (bo_rm d mc ms).locals ≤ 46 * (d + 1) := by
  have := Nat.le_of_ble_eq_true h
  show 8 + (k + 11) + 46 * d ≤ _
  omega
/-- a call: what the callee answers, then on -/
theorem bo_Wg.call {pc d : Nat} {en : bo_E} {lv : bo_LV} {st as r : List Value} {y : bo_M} {G G1 : bo_G} {v : Option Value} (C : bo_Cx p s mm args meth c m) (hat : bo_wh R (d + 1)) (he : bo_cd m pc = some en) (hc : bo_cal m en.1 st G = some (y, as, r)) (hcat : bo_cat r = true) (hM : bo_Mo y → bo_Met X d y as G v G1) (hle : bo_le G G1) (hroom : bo_uC G1 - kC ≤ R.cells ∧ bo_uS G1 - kS ≤ R.slots) (kk : bo_Wg p l e R s mm args below meth c Q X kC kS n0 ad0 m (en.2.1, lv, v.toList ++ r, G1)) : bo_Wg p l e R s mm args below meth c Q X kC kS n0 ad0 m (pc, lv, st, G) := by
  obtain ⟨hx, hb, hml, hown, hts, hini, hOK⟩ := id C
  obtain ⟨len, hd, hok⟩ := hOK pc en he
  obtain ⟨i, nx, tg, kp⟩ := en
  dsimp only at hd hok hc kk
  obtain ⟨hfr, hlo⟩ := hat
  intro H locs ls ad pa h1 h2 h3 h4 h5 h6 h7 h8
  have h7' : kC ≤ bo_uC G := h7
  have h8' : kS ≤ bo_uS G := h8
  obtain ⟨hle1, hle2, hle3⟩ := hle
  have hf : bo_uC G - kC + (bo_uC G1 - bo_uC G) ≤ R.cells ∧ bo_uS G - kS + (bo_uS G1 - bo_uS G) ≤ R.slots := ⟨by omega, by omega⟩
  have hsz : ls.size = bo_ml m := h2.1
  have hcs : (r.map fun v => v.category).sum ≤ 8 := Nat.le_of_ble_eq_true hcat
  have hcs2 : ((r.map (bo_sv ad)).map fun v => v.category).sum ≤ 8 := by
    rw [List.map_map]
    have : ((fun v : Value => v.category) ∘ bo_sv ad) = fun v : Value => v.category := funext fun v => bo_sv_cat ad v
    rw [this]; exact hcs
  -- behind the call
  have fin : ∀ (free : Addr → Prop) (a0 : Array Value), (∀ q, free q → bo_Ad X q) → (∀ x ∈ r, bo_rk G.length x) → nx = pc + 3 → va_Run p l e R s mm args below meth c H locs (bo_uC G - kC) (bo_uS G - kS) (bo_uC G1 - bo_uC G) (bo_uS G1 - bo_uS G) (F0 mm pc ls (st.map (bo_sv ad))) (r.map (bo_sv ad)) (bo_Qc X ad G v G1 a0) free → W p l e R s mm args below meth c H locs (bo_uC G - kC) (bo_uS G - kS) Q (F0 mm pc ls (st.map (bo_sv ad))) := by
    intro free a0 hfree hrr hnx hr
    subst hnx
    refine bo_after hr fun v' st₀ t L hal hL hq => ?_
    obtain ⟨ad', pa', g1, g2, g3, g4⟩ := hq
    cases g2
    have hR := g3.moved hal.symm h1.u1
    have hlv : bo_lm ad' lv = bo_lm ad lv := List.map_congr_left fun q hq => by rw [bo_sv_eq g1 (h3.1 q hq)]
    have hk := kk t.heap (locs ++ L) ls ad' pa' hR (by show lv_has ls (bo_ml m) (bo_lm ad' lv); rw [hlv]; exact h2) (by
        refine ⟨fun q hq => (h3.1 q hq).mono hle1, fun x hx => ?_⟩
        rcases List.mem_append.mp hx with hx | hx
        · cases v with
          | none => cases hx
          | some z =>
            have : x = z := by simpa using hx
            rw [this]
            exact g4 z rfl
        · exact (hrr x hx).mono hle1) (by
        intro q hq
        rcases List.mem_append.mp hq with hq | hq
        · exact h4 q hq
        · exact hfree _ (hL q hq)) (fun i hi => by rw [g1 i (Nat.lt_of_lt_of_le hi h6)]; exact h5 i hi) (Nat.le_trans h6 hle1) (by show kC ≤ bo_uC G1; omega) (by show kS ≤ bo_uS G1; omega)
    have em : ((v.toList ++ r : List Value).map (bo_sv ad')) = (v.map (bo_sv ad')).toList ++ r.map (bo_sv ad) := by
      rw [List.map_append, bo_sv_map g1 hrr]
      cases v <;> rfl
    have hk2 : W p l e R s mm args below meth c t.heap (locs ++ L) (bo_uC G1 - kC) (bo_uS G1 - kS) Q (F0 mm (pc + 3) ls ((v.map (bo_sv ad')).toList ++ r.map (bo_sv ad))) := by rw [← em]; exact hk
    rw [show bo_uC G1 - kC = bo_uC G - kC + (bo_uC G1 - bo_uC G) by omega, show bo_uS G1 - kS = bo_uS G - kS + (bo_uS G1 - bo_uS G) by omega] at hk2
    exact hk2
  have fix : CallFix p mm c (bo_cc m) (bo_ml m) s args bo_W (bo_R (bo_o m)) := ⟨hx, hb, hml, hown, hts⟩
  have rooms : ∀ (mc ms : Nat), Nat.ble (bo_ml y) 27 = true → (bo_rm d mc ms).frames + 1 ≤ R.frames ∧ 8 + (bo_ml y + 11) + (bo_rm d mc ms).locals ≤ R.locals := fun mc ms hk => ⟨by show d + 1 ≤ _; omega, Nat.le_trans (bo_room hk) hlo⟩
  have pc0 : ∀ U : State, U.heap = H → s.WarmedH U.vm → (∀ x ∈ as, bo_rk G.length x) → bo_Pc X ad pa as G (as.map (bo_sv ad)).toArray U := fun U hU hW ha => ⟨rfl, by rw [hU]; exact h1.moved hW.alike (h1.u1.warm hW), ha⟩
  have hst : ∀ x ∈ st, bo_rk G.length x := h3.2
  unfold bo_cal at hc
  split at hc
  · rename_i k
    obtain ⟨rfl, rfl⟩ := bo_len (n := 2) hok rfl
    split at hc
    · rename_i z hlk
      cases hq : (bo_is G (bo_o z) ((st.take (bo_na z + 1)).getLastD .null) && Nat.beq (st.take (bo_na z + 1)).length (bo_na z + 1)) <;> rw [hq] at hc
      · cases hc
      · cases hc
        rw [Bool.and_eq_true] at hq
        obtain ⟨As, a1, a2, a3⟩ := bo_splitR hq.2
        obtain ⟨w1, w2, w3, w4, hy⟩ : bo_Lk (bo_o m) k (0, y) := bo_lko _ _ _ hlk
        obtain ⟨x0, hx0⟩ : ∃ a, (st.take (bo_na y + 1)).getLastD .null = .ref a := by
          have := hq.1
          unfold bo_is at this
          split at this
          · exact ⟨_, by assumption⟩
          · cases this
        have hlt : bo_o y < 12 := Nat.lt_of_not_le fun z => by rw [Nat.ble_eq_true_of_le z] at w4; cases w4
        rw [hx0] at a1 a3 hq
        have hyc : (bo_y y).cls = bo_R (bo_o y) := hy.2.2.2.2.2.2.1.symm
        have hrv := bo_recv h1 hq.1 hlt
        have hargs : ∀ x ∈ (st.take (bo_na y + 1)).reverse, bo_rk G.length x := fun x hx => hst x (List.mem_of_mem_take (List.mem_reverse.mp hx))
        refine fin (bo_Ad X) _ (fun q h => h) (fun x hx => hst x (List.mem_of_mem_drop hx)) rfl (va_runV (C := bo_R (bo_o y)) (As := As.map (bo_sv ad)) (b := ad x0) fix (hM hy l ad pa) ⟨callB_of (bo_na y) hts (bo_good y hy) rfl rfl rfl (hts _ hy.2.1) (hts _ w1) hy.2.2.1 (rooms _ _ hy.2.2.2.2.1), hts _ w2, by rw [← hyc]; exact hts _ w3⟩ ⟨bo_blind X ad pa _ G, hrv, fun U hU hW => ?_⟩ rfl (by rw [List.length_map]; exact a2) hsz ?_ (lv_room hcs2) hd hf)
        · have := pc0 U hU hW hargs
          rw [a1] at this ⊢
          exact this
        · show st.map (bo_sv ad) = _
          conv => lhs; rw [a3]
          rw [List.map_append, List.map_reverse]
          rfl
    · cases hc
  · rename_i k
    obtain ⟨rfl, rfl⟩ := bo_len (n := 2) hok rfl
    split at hc
    · rename_i z hlk
      cases hq : (bo_is G (bo_o z) ((st.take (bo_na z + 1)).getLastD .null) && Nat.beq (st.take (bo_na z + 1)).length (bo_na z + 1)) <;> rw [hq] at hc
      · cases hc
      · cases hc
        rw [Bool.and_eq_true] at hq
        obtain ⟨As, a1, a2, a3⟩ := bo_splitR hq.2
        obtain ⟨w1, w2, w3, hy⟩ : bo_Lk (bo_o m) k (2, y) := bo_lko _ _ _ hlk
        obtain ⟨x0, hx0⟩ : ∃ a, (st.take (bo_na y + 1)).getLastD .null = .ref a := by
          have := hq.1
          unfold bo_is at this
          split at this
          · exact ⟨_, by assumption⟩
          · cases this
        rw [hx0] at a1 a3 hq
        obtain ⟨i1, i2⟩ := hy.2.2.2.2.2.2.2.1 w3
        have hargs : ∀ x ∈ (st.take (bo_na y + 1)).reverse, bo_rk G.length x := fun x hx => hst x (List.mem_of_mem_take (List.mem_reverse.mp hx))
        refine fin (bo_Ad X) _ (fun q h => h) (fun x hx => hst x (List.mem_of_mem_drop hx)) rfl (va_runI (As := As.map (bo_sv ad)) (b := ad x0) fix (hM hy l ad pa) ⟨by rw [← i2]; exact callB_of (bo_na y) hts (bo_good y hy) rfl rfl rfl (hts _ hy.2.1) (hts _ w1) hy.2.2.1 (rooms _ _ hy.2.2.2.2.1), i1, hts _ w2⟩ ⟨bo_blind X ad pa _ G, fun U hU hW => ?_⟩ rfl (by rw [List.length_map]; exact a2) hsz ?_ (lv_room hcs2) hd hf)
        · have := pc0 U hU hW hargs
          rw [a1] at this ⊢
          exact this
        · show st.map (bo_sv ad) = _
          conv => lhs; rw [a3]
          rw [List.map_append, List.map_reverse]
          rfl
    · rename_i z hlk
      cases hq : (bo_is G (bo_o z) ((st.take (bo_na z + 1)).getLastD .null) && Nat.beq (st.take (bo_na z + 1)).length (bo_na z + 1)) <;> rw [hq] at hc
      · cases hc
      · cases hc
        rw [Bool.and_eq_true] at hq
        obtain ⟨As, a1, a2, a3⟩ := bo_splitR hq.2
        obtain ⟨w1, w2, w3, hy⟩ : bo_Lk (bo_o m) k (4, y) := bo_lko _ _ _ hlk
        obtain ⟨x0, hx0⟩ : ∃ a, (st.take (bo_na y + 1)).getLastD .null = .ref a := by
          have := hq.1
          unfold bo_is at this
          split at this
          · exact ⟨_, by assumption⟩
          · cases this
        rw [hx0] at a1 a3 hq
        obtain ⟨i1, i2⟩ := hy.2.2.2.2.2.2.2.1 w3
        have hargs : ∀ x ∈ (st.take (bo_na y + 1)).reverse, bo_rk G.length x := fun x hx => hst x (List.mem_of_mem_take (List.mem_reverse.mp hx))
        refine fin (bo_Ad X) _ (fun q h => h) (fun x hx => hst x (List.mem_of_mem_drop hx)) rfl (va_runIN (host := "BoilerRoll") (As := As.map (bo_sv ad)) (b := ad x0) fix (hM hy l ad pa) ⟨by rw [← i2]; exact va_cnB (bo_na y) hts (bo_good y hy) rfl rfl rfl (h1.u1.1 _ w1) (hts _ hy.2.1) hy.2.2.1 (rooms _ _ hy.2.2.2.2.1), i1, hts _ w2⟩ ⟨bo_blind X ad pa _ G, fun U hU hW => ?_⟩ rfl (by rw [List.length_map]; exact a2) hsz ?_ (lv_room hcs2) hd hf)
        · have := pc0 U hU hW hargs
          rw [a1] at this ⊢
          exact this
        · show st.map (bo_sv ad) = _
          conv => lhs; rw [a3]
          rw [List.map_append, List.map_reverse]
          rfl
    · cases hc
  · rename_i k
    obtain ⟨rfl, rfl⟩ := bo_len (n := 2) hok rfl
    split at hc
    · rename_i z hlk
      cases hq : Nat.beq (st.take (bo_na z)).length (bo_na z) <;> rw [hq] at hc
      · cases hc
      · cases hc
        obtain ⟨a1, a2⟩ := bo_split hq
        obtain ⟨w1, w2, hy⟩ : bo_Lk (bo_o m) k (1, y) := bo_lko _ _ _ hlk
        have hargs : ∀ x ∈ (st.take (bo_na y)).reverse, bo_rk G.length x := fun x hx => hst x (List.mem_of_mem_take (List.mem_reverse.mp hx))
        refine fin (bo_Ad X) _ (fun q h => h) (fun x hx => hst x (List.mem_of_mem_drop hx)) rfl (va_runS (As := ((st.take (bo_na y)).reverse).map (bo_sv ad)) fix (hM hy l ad pa) ⟨callB_of (bo_na y) hts (bo_good y hy) rfl rfl rfl (hts _ hy.2.1) (hts _ w1) hy.2.2.1 (rooms _ _ hy.2.2.2.2.1), hts _ w2⟩ ⟨bo_blind X ad pa _ G, fun U hU hW => pc0 U hU hW hargs⟩ rfl (by rw [List.length_map]; exact a2) hsz ?_ (lv_room hcs2) hd hf)
        show st.map (bo_sv ad) = _
        conv => lhs; rw [a1]
        rw [List.map_append, List.map_reverse]
    · rename_i z hlk
      cases hq : Nat.beq (st.take (bo_na z)).length (bo_na z) <;> rw [hq] at hc
      · cases hc
      · cases hc
        obtain ⟨a1, a2⟩ := bo_split hq
        obtain ⟨w1, w2, hy⟩ : bo_Lk (bo_o m) k (3, y) := bo_lko _ _ _ hlk
        have hargs : ∀ x ∈ (st.take (bo_na y)).reverse, bo_rk G.length x := fun x hx => hst x (List.mem_of_mem_take (List.mem_reverse.mp hx))
        refine fin (bo_Ad X) _ (fun q h => h) (fun x hx => hst x (List.mem_of_mem_drop hx)) rfl (va_runSN (host := "BoilerRoll") (As := ((st.take (bo_na y)).reverse).map (bo_sv ad)) fix (hM hy l ad pa) ⟨va_cnB (bo_na y) hts (bo_good y hy) rfl rfl rfl (h1.u1.1 _ w1) (hts _ hy.2.1) hy.2.2.1 (rooms _ _ hy.2.2.2.2.1), hts _ w2, trivial⟩ ⟨bo_blind X ad pa _ G, fun U hU hW => pc0 U hU hW hargs⟩ rfl (by rw [List.length_map]; exact a2) hsz ?_ (lv_room hcs2) hd hf)
        show st.map (bo_sv ad) = _
        conv => lhs; rw [a1]
        rw [List.map_append, List.map_reverse]
    · cases hc
  · cases hc
end BOC
