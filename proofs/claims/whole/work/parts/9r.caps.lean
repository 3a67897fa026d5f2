/-! A Row's room is never beyond its limit. -/
def CP (G : bo_G) : Prop := ∀ (i lim cap : Nat) (xs : List Int32), G[i]? = some (cR lim cap xs) → cap ≤ lim
theorem CP.app {G : bo_G} {c : bo_C} (h : CP G) (hc : ∀ lim cap xs, c = cR lim cap xs → cap ≤ lim) : CP (G ++ [c]) := by
  intro i lim cap xs hi
  by_cases q : i < G.length
  · rw [List.getElem?_append_left q] at hi
    exact h i lim cap xs hi
  · have hl := (List.getElem?_eq_some_iff.mp hi).1
    rw [List.length_append, List.length_singleton] at hl
    rw [show i = G.length by omega, List.getElem?_append_right (Nat.le_refl _), Nat.sub_self] at hi
    exact hc _ _ _ (Option.some.inj hi)
theorem CP.set {G : bo_G} {a : Nat} {c : bo_C} (h : CP G) (hc : ∀ lim cap xs, c = cR lim cap xs → cap ≤ lim) : CP (G.set a c) := by
  intro i lim cap xs hi
  by_cases q : a = i
  · subst q
    have hl := (List.getElem?_eq_some_iff.mp hi).1
    rw [List.length_set] at hl
    rw [List.getElem?_set_self hl] at hi
    exact hc _ _ _ (Option.some.inj hi)
  · rw [List.getElem?_set_ne q] at hi
    exact h i lim cap xs hi
theorem CP.setR {G : bo_G} {a : Nat} {w : Nat × Nat × List Int32} {xs : List Int32} (h : CP G) (hG : G[a]? = some (.inr (.inr (.inr (.inl w))))) : CP (G.set a (cR w.1 w.2.1 xs)) :=
  h.set fun lim cap ys e => by
    cases e
    exact h a w.1 w.2.1 w.2.2 hG
theorem bo_cap_le {lim cap n : Nat} (h : cap ≤ lim) : bo_cap lim cap n ≤ lim := by
  unfold bo_cap
  split
  · exact Nat.min_le_left _ _
  · exact h
theorem CP_pf {m : bo_M} {ck : Nat × Nat} {lv : bo_LV} {nx : Nat} {st : List Value} {G : bo_G} {s : bo_S} (h : bo_pf m ck lv nx st G = some s) (hc : CP G) : CP s.2.2.2 := by
  unfold bo_pf at h
  simp only [cond_eq_if] at h
  repeat' split at h
  all_goals first | (cases h; done) | skip
  · cases h
    exact hc.set fun _ _ _ e => by cases e
  · cases h
    exact hc.setR (by assumption)
theorem CP_new {c : Nat} {lv : bo_LV} {nx : Nat} {st : List Value} {G : bo_G} {s : bo_S} (h : bo_new c lv nx st G = some s) (hc : CP G) : CP s.2.2.2 := by
  cases h
  exact hc.app fun _ _ _ e => by cases e
theorem CP_na1 {lv : bo_LV} {nx : Nat} {st : List Value} {G : bo_G} {s : bo_S} (h : bo_na1 lv nx st G = some s) (hc : CP G) : CP s.2.2.2 := by
  unfold bo_na1 at h
  repeat' split at h
  all_goals first | (cases h; done) | skip
  cases h
  exact hc.app fun _ _ _ e => by cases e
theorem CP_na2 {c : Nat} {lv : bo_LV} {nx : Nat} {st : List Value} {G : bo_G} {s : bo_S} (h : bo_na2 c lv nx st G = some s) (hc : CP G) : CP s.2.2.2 := by
  unfold bo_na2 at h
  repeat' split at h
  all_goals first | (cases h; done) | skip
  cases h
  exact hc.app fun _ _ _ e => by cases e
theorem CP_ias {lv : bo_LV} {nx : Nat} {st : List Value} {G : bo_G} {s : bo_S} (h : bo_ias lv nx st G = some s) (hc : CP G) : CP s.2.2.2 := by
  unfold bo_ias at h
  repeat' split at h
  all_goals first | (cases h; done) | skip
  cases h
  exact hc.set fun _ _ _ e => by cases e
theorem CP_aas {lv : bo_LV} {nx : Nat} {st : List Value} {G : bo_G} {s : bo_S} (h : bo_aas lv nx st G = some s) (hc : CP G) : CP s.2.2.2 := by
  unfold bo_aas at h
  repeat' split at h
  all_goals first | (cases h; done) | skip
  cases h
  exact hc.set fun _ _ _ e => by cases e
section SA
variable {lv : bo_LV} {nx tg k ml : Nat} {st : List Value} {G : bo_G} {s : bo_S}
theorem SA_ldI (h : bo_ldI lv k nx st G = some s) : s.2.2.2 = G := by
  unfold bo_ldI at h
  repeat' split at h
  all_goals first | (cases h; done) | (cases h; rfl)
theorem SA_ldL (h : bo_ldL lv k nx st G = some s) : s.2.2.2 = G := by
  unfold bo_ldL at h
  repeat' split at h
  all_goals first | (cases h; done) | (cases h; rfl)
theorem SA_ldA (h : bo_ldA lv k nx st G = some s) : s.2.2.2 = G := by
  unfold bo_ldA at h
  repeat' split at h
  all_goals first | (cases h; done) | (cases h; rfl)
theorem SA_stI (h : bo_stI ml lv k nx st G = some s) : s.2.2.2 = G := by
  unfold bo_stI at h
  simp only [cond_eq_if] at h
  repeat' split at h
  all_goals first | (cases h; done) | (cases h; rfl)
theorem SA_stL (h : bo_stL ml lv k nx st G = some s) : s.2.2.2 = G := by
  unfold bo_stL at h
  simp only [cond_eq_if] at h
  repeat' split at h
  all_goals first | (cases h; done) | (cases h; rfl)
theorem SA_stA (h : bo_stA ml lv k nx st G = some s) : s.2.2.2 = G := by
  unfold bo_stA at h
  simp only [cond_eq_if] at h
  repeat' split at h
  all_goals first | (cases h; done) | (cases h; rfl)
theorem SA_inc {n : Int} (h : bo_inc ml lv k n nx st G = some s) : s.2.2.2 = G := by
  unfold bo_inc at h
  simp only [cond_eq_if] at h
  repeat' split at h
  all_goals first | (cases h; done) | (cases h; rfl)
theorem SA_i1 {f : Int32 → Value} (h : bo_i1 f lv nx st G = some s) : s.2.2.2 = G := by
  unfold bo_i1 at h
  repeat' split at h
  all_goals first | (cases h; done) | (cases h; rfl)
theorem SA_i2 {f : Int32 → Int32 → Value} (h : bo_i2 f lv nx st G = some s) : s.2.2.2 = G := by
  unfold bo_i2 at h
  repeat' split at h
  all_goals first | (cases h; done) | (cases h; rfl)
theorem SA_l1 {f : Int64 → Value} (h : bo_l1 f lv nx st G = some s) : s.2.2.2 = G := by
  unfold bo_l1 at h
  repeat' split at h
  all_goals first | (cases h; done) | (cases h; rfl)
theorem SA_l2 {f : Int64 → Int64 → Value} (h : bo_l2 f lv nx st G = some s) : s.2.2.2 = G := by
  unfold bo_l2 at h
  repeat' split at h
  all_goals first | (cases h; done) | (cases h; rfl)
theorem SA_d2 {f : Int32 → Int32 → Value} (h : bo_d2 f lv nx st G = some s) : s.2.2.2 = G := by
  unfold bo_d2 at h
  repeat' split at h
  all_goals first | (cases h; done) | (cases h; rfl)
theorem SA_dl {f : Int64 → Int64 → Value} (h : bo_dl f lv nx st G = some s) : s.2.2.2 = G := by
  unfold bo_dl at h
  repeat' split at h
  all_goals first | (cases h; done) | (cases h; rfl)
theorem SA_b1 {c : Int32 → Bool} (h : bo_b1 c lv nx tg st G = some s) : s.2.2.2 = G := by
  unfold bo_b1 at h
  repeat' split at h
  all_goals first | (cases h; done) | (cases h; rfl)
theorem SA_b2 {c : Int32 → Int32 → Bool} (h : bo_b2 c lv nx tg st G = some s) : s.2.2.2 = G := by
  unfold bo_b2 at h
  repeat' split at h
  all_goals first | (cases h; done) | (cases h; rfl)
theorem SA_nul {b : Bool} (h : bo_nul b lv nx tg st G = some s) : s.2.2.2 = G := by
  unfold bo_nul at h
  repeat' split at h
  all_goals first | (cases h; done) | (cases h; rfl)
theorem SA_gf {ck : Nat × Nat} (h : bo_gf ck lv nx st G = some s) : s.2.2.2 = G := by
  unfold bo_gf at h
  simp only [cond_eq_if] at h
  repeat' split at h
  all_goals first | (cases h; done) | (cases h; rfl)
theorem SA_al (h : bo_al lv nx st G = some s) : s.2.2.2 = G := by
  unfold bo_al at h
  repeat' split at h
  all_goals first | (cases h; done) | (cases h; rfl)
theorem SA_ial (h : bo_ial lv nx st G = some s) : s.2.2.2 = G := by
  unfold bo_ial at h
  repeat' split at h
  all_goals first | (cases h; done) | (cases h; rfl)
theorem SA_aal (h : bo_aal lv nx st G = some s) : s.2.2.2 = G := by
  unfold bo_aal at h
  repeat' split at h
  all_goals first | (cases h; done) | (cases h; rfl)
theorem SA_fm (h : bo_fm lv nx st G = some s) : s.2.2.2 = G := by
  unfold bo_fm at h
  repeat' split at h
  all_goals first | (cases h; done) | (cases h; rfl)
end SA
theorem CP_step {m : bo_M} {pc : Nat} {e : bo_E} {lv : bo_LV} {st : List Value} {G : bo_G} {s : bo_S} (h : bo_step m pc e lv st G = some s) (hc : CP G) : CP s.2.2.2 := by
  have sm : s.2.2.2 = G → CP s.2.2.2 := fun q => by rw [q]; exact hc
  unfold bo_step at h
  split at h
  all_goals first
    | exact sm (SA_ldI h) | exact sm (SA_ldL h) | exact sm (SA_ldA h) | exact sm (SA_stI h) | exact sm (SA_stL h) | exact sm (SA_stA h) | exact sm (SA_inc h)
    | exact sm (SA_i1 h) | exact sm (SA_i2 h) | exact sm (SA_l1 h) | exact sm (SA_l2 h) | exact sm (SA_d2 h) | exact sm (SA_dl h) | exact sm (SA_b1 h) | exact sm (SA_b2 h)
    | exact sm (SA_nul h) | exact sm (SA_al h) | exact sm (SA_ial h) | exact sm (SA_aal h) | exact sm (SA_fm h) | exact CP_ias h hc | exact CP_aas h hc
    | (cases h; done) | (cases h; exact hc)
    | ((try simp only [cond_eq_if] at h); (repeat' split at h) <;> first | (cases h; done) | (cases h; exact hc) | exact sm (SA_gf h) | exact CP_pf h hc | exact CP_new h hc | exact CP_na1 h hc | exact CP_na2 h hc)
theorem CP_pm {d p : Nat} {as : List Value} {G : bo_G} {s : bo_A} (h : bo_pm d p as G = some s) (hc : CP G) : CP s.2 := by
  unfold bo_pm at h
  repeat' split at h
  all_goals first | (cases h; done) | (cases h; exact hc) | (cases h; exact hc.setR (by assumption)) | skip
  · cases h
    exact hc.set fun _ _ _ e => by cases e; exact Nat.min_le_left _ _
  · rename_i w hG _
    cases h
    refine hc.set fun _ _ _ e => ?_
    cases e
    exact bo_cap_le (hc _ w.1 w.2.1 w.2.2 hG)
theorem CP_ex {d : Nat} {K : bo_K} (hK : ∀ m as G s, K m as G = some s → CP G → CP s.2) {m : bo_M} : ∀ (n : Nat) (S : bo_S) (s : bo_A), bo_ex d K m n S = some s → CP S.2.2.2 → CP s.2
  | 0, _, _, h, _ => by unfold bo_ex at h; cases h
  | n + 1, (pc, lv, st, G), s, h, hc => by
    have ih := CP_ex (d := d) hK (m := m) n
    unfold bo_ex at h
    simp only [cond_eq_if] at h
    split at h
    · cases h
    · split at h
      · rename_i q
        exact ih _ _ h (CP_step q hc)
      · split at h
        · cases h
          exact hc
        · split at h
          · split at h
            · exact ih _ _ h hc
            · cases h
          · split at h
            · split at h
              · split at h
                · rename_i q
                  exact ih _ _ h (hK _ _ _ _ q hc)
                · cases h
              · cases h
            · cases h
theorem CP_cx (n : Nat) : ∀ (d : Nat) (m : bo_M) (as : List Value) (G : bo_G) (s : bo_A), bo_cx n d m as G = some s → CP G → CP s.2
  | 0, m, as, G, s, h, hc => by
    unfold bo_cx at h
    simp only [cond_eq_if] at h
    split at h
    · split at h
      · exact CP_ex (fun _ _ _ _ z => by cases z) _ _ _ h hc
      · cases h
    · exact CP_pm h hc
  | d + 1, m, as, G, s, h, hc => by
    unfold bo_cx at h
    simp only [cond_eq_if] at h
    split at h
    · split at h
      · exact CP_ex (CP_cx n d) _ _ _ h hc
      · cases h
    · exact CP_pm h hc
theorem Ex.caps {d : Nat} {m : bo_M} {S : bo_S} {Q : Option Value → bo_G → Prop} (hc : CP S.2.2.2) (k : Ex d m S (fun v G => CP G → Q v G)) : Ex d m S Q := by
  obtain ⟨n, v, G', h, q⟩ := k
  refine ⟨n, v, G', h, q (CP_ex (fun m as G s z w => ?_) _ _ _ h hc)⟩
  cases d with
  | zero => cases z
  | succ d => exact CP_cx n d _ _ _ _ z w
