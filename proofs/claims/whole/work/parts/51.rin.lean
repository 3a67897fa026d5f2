/-! The reference's counters and places behind one entry more. -/
section LN
variable {lg : Nat → Int32} {E c VS VS' : Nat} {nn pt vl pp va pa wa pt' vl' pp' va' pa' wa' : Nat → Int32}
theorem RI_N (hI : RI lg E VS pt vl pp va pa wa) (hz : ∀ v, v = VS → psl lg E v = [] ∧ wsl lg E v = [] ∧ qsl lg E v = []) (hc : c < 12)
    (hV : VS' = VS + (if c = 1 then 1 else 0)) (ha : ∀ v, v < VS → va' v = va v) (ha1 : c = 1 → va' VS = nI E)
    (hp : ∀ v, v < VS → pt' v = if c = 2 ∧ nn 0 = nI v then pt v + 1 else pt v) (hp1 : c = 1 → pt' VS = 0) (hp2 : c = 2 → ∀ v, v < VS → nn 0 = nI v → (psl lg E v).length < 24)
    (hq : ∀ v p, v < VS → p < (psl lg E v).length → pa' (24 * v + p) = pa (24 * v + p)) (hq2 : c = 2 → ∀ v, v < VS → nn 0 = nI v → pa' (24 * v + (psl lg E v).length) = nI E)
    (hl : ∀ v, v < VS → vl' v = if c = 8 ∧ nn 0 = nI v then vl v + 1 else vl v) (hl1 : c = 1 → vl' VS = 0) (hl2 : c = 8 → ∀ v, v < VS → nn 0 = nI v → (wsl lg E v).length < 6)
    (hw : ∀ v p, v < VS → p < (wsl lg E v).length → wa' (6 * v + p) = wa (6 * v + p)) (hw2 : c = 8 → ∀ v, v < VS → nn 0 = nI v → wa' (6 * v + (wsl lg E v).length) = nI E)
    (ho : ∀ v, v < VS → pp' v = if c = 10 ∧ nn 0 = nI v then pp v + 1 else pp v) (ho1 : c = 1 → pp' VS = 0) :
    RI (lgN lg E c nn) (E + 1) VS' pt' vl' pp' va' pa' wa' := by
  have h1 : ∀ v, v < VS' → ¬ v < VS → c = 1 ∧ v = VS := by
    intro v h2 h3
    by_cases h : c = 1
    · rw [if_pos h] at hV; exact ⟨h, by omega⟩
    · rw [if_neg h] at hV; omega
  refine ⟨?_, ?_, ?_, ?_, ?_, ?_, ?_⟩
  · rw [vsl_N hc, List.length_append, hV, hI.hv]
    split <;> rfl
  · intro v hv
    show va' v = nI (((vsl (lgN lg E c nn) (E + 1))[v]?).getD 0)
    rw [vsl_N hc]
    by_cases h : v < VS
    · rw [List.getElem?_append_left (by rw [← hI.hv]; exact h), ha v h]
      exact hI.hva v h
    · obtain ⟨e1, e2⟩ := h1 v hv h
      rw [e2, List.getElem?_append_right (by rw [← hI.hv]; exact Nat.le_refl _), ← hI.hv, Nat.sub_self, if_pos e1, ha1 e1]
      rfl
  · intro v hv
    rw [psl_N hc, List.length_append]
    by_cases h : v < VS
    · have h2 := hI.hp v h
      rw [hp v h]
      by_cases h3 : c = 2 ∧ nn 0 = nI v
      · rw [if_pos h3, if_pos h3, h2.1]
        exact ⟨nI_1 _, by have := hp2 h3.1 v h h3.2; show _ + 1 ≤ 24; omega⟩
      · rw [if_neg h3, if_neg h3]
        exact h2
    · obtain ⟨e1, e2⟩ := h1 v hv h
      rw [(hz v e2).1, if_neg (by omega), e2, hp1 e1]
      exact ⟨rfl, by show 0 ≤ 24; omega⟩
  · intro v p hv hp
    show pa' (24 * v + p) = nI (((psl (lgN lg E c nn) (E + 1) v)[p]?).getD 0)
    rw [psl_N hc] at hp ⊢
    by_cases h : v < VS
    · by_cases h3 : p < (psl lg E v).length
      · rw [List.getElem?_append_left h3, hq v p h h3]
        exact hI.hpa v p h h3
      · by_cases h4 : c = 2 ∧ nn 0 = nI v
        · rw [if_pos h4] at hp ⊢
          rw [List.length_append] at hp
          have e : p = (psl lg E v).length := by simp at hp; omega
          rw [e, List.getElem?_append_right (Nat.le_refl _), Nat.sub_self, hq2 h4.1 v h h4.2]
          rfl
        · rw [if_neg h4, List.append_nil] at hp
          exact absurd hp h3
    · obtain ⟨e1, e2⟩ := h1 v hv h
      rw [(hz v e2).1, if_neg (by omega)] at hp
      exact absurd hp (Nat.not_lt_zero _)
  · intro v hv
    rw [wsl_N hc, List.length_append]
    by_cases h : v < VS
    · have h2 := hI.hw v h
      rw [hl v h]
      by_cases h3 : c = 8 ∧ nn 0 = nI v
      · rw [if_pos h3, if_pos h3, h2.1]
        exact ⟨nI_1 _, by have := hl2 h3.1 v h h3.2; show _ + 1 ≤ 6; omega⟩
      · rw [if_neg h3, if_neg h3]
        exact h2
    · obtain ⟨e1, e2⟩ := h1 v hv h
      rw [(hz v e2).2.1, if_neg (by omega), e2, hl1 e1]
      exact ⟨rfl, by show 0 ≤ 6; omega⟩
  · intro v p hv hp
    show wa' (6 * v + p) = nI (((wsl (lgN lg E c nn) (E + 1) v)[p]?).getD 0)
    rw [wsl_N hc] at hp ⊢
    by_cases h : v < VS
    · by_cases h3 : p < (wsl lg E v).length
      · rw [List.getElem?_append_left h3, hw v p h h3]
        exact hI.hwa v p h h3
      · by_cases h4 : c = 8 ∧ nn 0 = nI v
        · rw [if_pos h4] at hp ⊢
          rw [List.length_append] at hp
          have e : p = (wsl lg E v).length := by simp at hp; omega
          rw [e, List.getElem?_append_right (Nat.le_refl _), Nat.sub_self, hw2 h4.1 v h h4.2]
          rfl
        · rw [if_neg h4, List.append_nil] at hp
          exact absurd hp h3
    · obtain ⟨e1, e2⟩ := h1 v hv h
      rw [(hz v e2).2.1, if_neg (by omega)] at hp
      exact absurd hp (Nat.not_lt_zero _)
  · intro v hv
    rw [qsl_N hc, List.length_append]
    by_cases h : v < VS
    · have h2 := hI.hq v h
      rw [ho v h]
      by_cases h3 : c = 10 ∧ nn 0 = nI v
      · rw [if_pos h3, if_pos h3, h2]
        exact nI_1 _
      · rw [if_neg h3, if_neg h3]
        exact h2
    · obtain ⟨e1, e2⟩ := h1 v hv h
      rw [(hz v e2).2.2, if_neg (by omega), e2, ho1 e1]
      rfl
/-- what is not there yet has no parts, valves, papers -/
theorem none_there (h : ∀ j, j < E → wfE lg j) (hE : E ≤ 6000) {v : Nat} (hv : (vsl lg E).length ≤ v) (h2 : v < 2 ^ 31) : psl lg E v = [] ∧ wsl lg E v = [] ∧ qsl lg E v = [] := by
  have key : ∀ i, i < E → (cod lg i = 2 ∨ cod lg i = 8 ∨ cod lg i = 10) → num lg i 0 = nI v → False := by
    intro i hi hc hn
    have h3 : ∃ u, u < (vsl lg i).length ∧ num lg i 0 = nI u := by
      rcases hc with hc | hc | hc
      · obtain ⟨u, a, b, -⟩ := wf_c2 (h i hi) hc; exact ⟨u, a, b⟩
      · obtain ⟨u, a, b, -⟩ := wf_c8 (h i hi) hc; exact ⟨u, a, b⟩
      · obtain ⟨u, a, b, -⟩ := wf_c10 (h i hi) hc; exact ⟨u, a, b⟩
    obtain ⟨u, a, b⟩ := h3
    have h4 := (vat_pre (lg := lg) (E := E) (show i ≤ E by omega) a).2
    have h5 := sel_len i fun i => cod lg i == 1
    have h6 : u < 2 ^ 31 := by unfold vsl at a; omega
    have := (nI_eq h2 h6).mp (hn.symm.trans b)
    omega
  have emp : ∀ (P : Nat → Bool), (∀ i, i < E → P i = true → False) → sel E P = [] := fun P hP => by
    rw [List.eq_nil_iff_forall_not_mem]
    intro i hi
    obtain ⟨a, b⟩ := sel_mem.mp hi
    exact hP i a b
  refine ⟨emp _ fun i hi hp => ?_, emp _ fun i hi hp => ?_, emp _ fun i hi hp => ?_⟩
  · rw [Bool.and_eq_true, beq_iff_eq, beq_iff_eq] at hp
    exact key i hi (Or.inl hp.1) hp.2
  · rw [Bool.and_eq_true, beq_iff_eq, beq_iff_eq] at hp
    exact key i hi (Or.inr (Or.inl hp.1)) hp.2
  · rw [Bool.and_eq_true, beq_iff_eq, beq_iff_eq] at hp
    exact key i hi (Or.inr (Or.inr hp.1)) hp.2
end LN
