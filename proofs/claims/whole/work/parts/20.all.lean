/-! A call of any method, of any depth. -/
theorem bo_pm_le {d k : Nat} {as : List Value} {G G' : bo_G} {v : Option Value} (h : bo_pm d k as G = some (v, G')) : bo_le G G' := by
  unfold bo_pm at h
  split at h
  · split at h
    · rename_i o ho
      split at h
      · rename_i hq
        cases h
        have e : o.1 = 4 := Nat.eq_of_beq_eq_true hq.1
        refine bo_le.st ho (by show 1 ≤ 1 + _; omega) ?_
        show bo_N o.1 ≤ _
        rw [e]
        show 3 ≤ 3 + _ + _
        omega
      · cases h
    · cases h
  · split at h
    · cases h
      exact bo_le.rf _
    · cases h
  · split at h
    · rename_i w hw
      cases h
      exact bo_le.st hw (Nat.le_refl _) (Nat.le_refl _)
    · cases h
  · split at h
    · rename_i w hw
      split at h
      · cases h
        have hc : w.2.1 ≤ bo_cap w.1 w.2.1 w.2.2.length ∨ w.1 < w.2.1 := by unfold bo_cap; split <;> omega
        by_cases hlt : w.1 < w.2.1
        · have e : bo_cap w.1 w.2.1 w.2.2.length = w.2.1 := if_neg (by omega)
          rw [e]
          exact bo_le.st hw (Nat.le_refl _) (Nat.le_refl _)
        · have hc := hc.resolve_right hlt
          refine bo_le.st hw (by show 1 + w.2.1 ≤ 1 + bo_cap w.1 w.2.1 w.2.2.length; omega) ?_
          show 3 + 2 * w.2.1 + (if w.1 ≤ w.2.1 then w.1 else 0) ≤ 3 + 2 * bo_cap w.1 w.2.1 w.2.2.length + (if w.1 ≤ bo_cap w.1 w.2.1 w.2.2.length then w.1 else 0)
          by_cases h1 : w.1 ≤ w.2.1
          · rw [if_pos h1, if_pos (by omega)]; omega
          · rw [if_neg h1]; omega
      · cases h
    · cases h
  · cases h
    exact bo_le.rf _
  · cases h
theorem bo_pm_ok (X : bo_X) {d : Nat} {m : bo_M} {as : List Value} {G G' : bo_G} {v : Option Value} (hmo : bo_Mo m) (h : bo_pm d (bo_pr m) as G = some (v, G')) : bo_Met X d m as G v G' := by
  have hp := hmo.2.2.2.2.2.2.2.2
  unfold bo_Pr at hp
  unfold bo_pm at h
  split at h
  · rename_i a l hpr
    rw [hpr] at hp
    have hp : m = mX4_init := hp
    subst hp
    split at h
    · rename_i o ho
      split at h
      · rename_i hq
        obtain ⟨q1, q2, q3, q4, q5⟩ := hq
        cases h
        obtain ⟨d', rfl⟩ : ∃ d', d = d' + 1 := ⟨d - 1, by omega⟩
        have e : o = (4, bo_df 4) := Prod.ext (Nat.eq_of_beq_eq_true q1) q5
        subst e
        exact bp_init X d' ho q3 q4
      · cases h
    · cases h
  · rename_i a i hpr
    rw [hpr] at hp
    have hp : m = mX4_at := hp
    subst hp
    split at h
    · rename_i w hw
      cases h
      exact bp_at X d hw
    · cases h
  · rename_i a i x hpr
    rw [hpr] at hp
    have hp : m = mX4_put := hp
    subst hp
    split at h
    · rename_i w hw
      cases h
      exact bp_put X d hw
    · cases h
  · rename_i a x hpr
    rw [hpr] at hp
    have hp : m = mX4_add := hp
    subst hp
    split at h
    · rename_i w hw
      split at h
      · cases h
        obtain ⟨d', rfl⟩ : ∃ d', d = d' + 2 := ⟨d - 2, by omega⟩
        exact bp_add X d' hw
      · cases h
    · cases h
  · rename_i x hpr
    rw [hpr] at hp
    have hp : m = mX3_lengthOf := hp
    subst hp
    cases h
    exact bp_len X d
  · cases h
theorem bo_cx_le (n : Nat) : ∀ (d : Nat) (m : bo_M) (as : List Value) (G : bo_G) (v : Option Value) (G' : bo_G), bo_cx n d m as G = some (v, G') → bo_le G G' := by
  intro d
  induction d with
  | zero =>
    intro m as G v G' h
    unfold bo_cx at h
    split at h
    · cases hb : Nat.ble (lg_sl as).length (bo_ml m) <;> rw [hb] at h
      · cases h
      · exact bo_mono_ex (fun y as G v G' hk => by cases hk) n _ v G' h
    · exact bo_pm_le h
  | succ d ih =>
    intro m as G v G' h
    unfold bo_cx at h
    split at h
    · cases hb : Nat.ble (lg_sl as).length (bo_ml m) <;> rw [hb] at h
      · cases h
      · exact bo_mono_ex (fun y as G v G' hk => ih y as G v G' hk) n _ v G' h
    · exact bo_pm_le h
theorem bo_cx_ok (X : bo_X) (n : Nat) : ∀ (d : Nat) (m : bo_M) (as : List Value) (G : bo_G) (v : Option Value) (G' : bo_G), bo_Mo m → bo_cx n d m as G = some (v, G') → bo_Met X d m as G v G' := by
  intro d
  induction d with
  | zero =>
    intro m as G v G' hmo h
    unfold bo_cx at h
    split at h
    · cases hb : Nat.ble (lg_sl as).length (bo_ml m) <;> rw [hb] at h
      · cases h
      · exact bo_method hmo (fun y as G v G' hk => by cases hk) (fun d' hd => by cases hd) hb h
    · exact bo_pm_ok X hmo h
  | succ d ih =>
    intro m as G v G' hmo h
    unfold bo_cx at h
    split at h
    · cases hb : Nat.ble (lg_sl as).length (bo_ml m) <;> rw [hb] at h
      · cases h
      · exact bo_method hmo (fun y as G v G' hk => bo_cx_le n d y as G v G' hk) (fun d' hd y as G v G' hy hk => by cases hd; exact ih y as G v G' hy hk) hb h
    · exact bo_pm_ok X hmo h
