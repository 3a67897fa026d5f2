/-! What holds of every log: by code; its days. -/
section WFC
variable {lg : Nat → Int32} {E i v k : Nat}
theorem wf_c0 (h : wfE lg i) (hc : cod lg i = 0) : wf0 lg i := by
  obtain ⟨-, h2⟩ := h
  rcases h2 with h2 | h2 | h2 | ⟨v, hv, ev, h2⟩
  · first | exact h2 | (rw [h2.1] at hc; exact absurd hc (by decide))
  · first | exact h2 | (rw [h2.1] at hc; exact absurd hc (by decide))
  · first | exact h2 | (rw [h2.1] at hc; exact absurd hc (by decide))
  · rcases h2 with h2 | h2 | h2 | h2 | ⟨p, hp, ep, h2⟩
    · first | exact ⟨v, hv, ev, h2⟩ | (rw [h2.1] at hc; exact absurd hc (by decide))
    · first | exact ⟨v, hv, ev, h2⟩ | (rw [h2.1] at hc; exact absurd hc (by decide))
    · first | exact ⟨v, hv, ev, h2⟩ | (rw [h2.1] at hc; exact absurd hc (by decide))
    · first | exact ⟨v, hv, ev, h2⟩ | (rw [h2.1] at hc; exact absurd hc (by decide))
    · rcases h2 with h2 | h2 | h2 | h2 | h2 <;> first | exact ⟨v, hv, ev, p, hp, ep, h2⟩ | (rw [h2.1] at hc; exact absurd hc (by decide))
theorem wf_c1 (h : wfE lg i) (hc : cod lg i = 1) : wf1 lg i := by
  obtain ⟨-, h2⟩ := h
  rcases h2 with h2 | h2 | h2 | ⟨v, hv, ev, h2⟩
  · first | exact h2 | (rw [h2.1] at hc; exact absurd hc (by decide))
  · first | exact h2 | (rw [h2.1] at hc; exact absurd hc (by decide))
  · first | exact h2 | (rw [h2.1] at hc; exact absurd hc (by decide))
  · rcases h2 with h2 | h2 | h2 | h2 | ⟨p, hp, ep, h2⟩
    · first | exact ⟨v, hv, ev, h2⟩ | (rw [h2.1] at hc; exact absurd hc (by decide))
    · first | exact ⟨v, hv, ev, h2⟩ | (rw [h2.1] at hc; exact absurd hc (by decide))
    · first | exact ⟨v, hv, ev, h2⟩ | (rw [h2.1] at hc; exact absurd hc (by decide))
    · first | exact ⟨v, hv, ev, h2⟩ | (rw [h2.1] at hc; exact absurd hc (by decide))
    · rcases h2 with h2 | h2 | h2 | h2 | h2 <;> first | exact ⟨v, hv, ev, p, hp, ep, h2⟩ | (rw [h2.1] at hc; exact absurd hc (by decide))
theorem wf_c11 (h : wfE lg i) (hc : cod lg i = 11) : wf11 lg i := by
  obtain ⟨-, h2⟩ := h
  rcases h2 with h2 | h2 | h2 | ⟨v, hv, ev, h2⟩
  · first | exact h2 | (rw [h2.1] at hc; exact absurd hc (by decide))
  · first | exact h2 | (rw [h2.1] at hc; exact absurd hc (by decide))
  · first | exact h2 | (rw [h2.1] at hc; exact absurd hc (by decide))
  · rcases h2 with h2 | h2 | h2 | h2 | ⟨p, hp, ep, h2⟩
    · first | exact ⟨v, hv, ev, h2⟩ | (rw [h2.1] at hc; exact absurd hc (by decide))
    · first | exact ⟨v, hv, ev, h2⟩ | (rw [h2.1] at hc; exact absurd hc (by decide))
    · first | exact ⟨v, hv, ev, h2⟩ | (rw [h2.1] at hc; exact absurd hc (by decide))
    · first | exact ⟨v, hv, ev, h2⟩ | (rw [h2.1] at hc; exact absurd hc (by decide))
    · rcases h2 with h2 | h2 | h2 | h2 | h2 <;> first | exact ⟨v, hv, ev, p, hp, ep, h2⟩ | (rw [h2.1] at hc; exact absurd hc (by decide))
theorem wf_c2 (h : wfE lg i) (hc : cod lg i = 2) : ∃ v, v < (vsl lg i).length ∧ num lg i 0 = nI v ∧ wf2 lg i v := by
  obtain ⟨-, h2⟩ := h
  rcases h2 with h2 | h2 | h2 | ⟨v, hv, ev, h2⟩
  · first | exact h2 | (rw [h2.1] at hc; exact absurd hc (by decide))
  · first | exact h2 | (rw [h2.1] at hc; exact absurd hc (by decide))
  · first | exact h2 | (rw [h2.1] at hc; exact absurd hc (by decide))
  · rcases h2 with h2 | h2 | h2 | h2 | ⟨p, hp, ep, h2⟩
    · first | exact ⟨v, hv, ev, h2⟩ | (rw [h2.1] at hc; exact absurd hc (by decide))
    · first | exact ⟨v, hv, ev, h2⟩ | (rw [h2.1] at hc; exact absurd hc (by decide))
    · first | exact ⟨v, hv, ev, h2⟩ | (rw [h2.1] at hc; exact absurd hc (by decide))
    · first | exact ⟨v, hv, ev, h2⟩ | (rw [h2.1] at hc; exact absurd hc (by decide))
    · rcases h2 with h2 | h2 | h2 | h2 | h2 <;> first | exact ⟨v, hv, ev, p, hp, ep, h2⟩ | (rw [h2.1] at hc; exact absurd hc (by decide))
theorem wf_c8 (h : wfE lg i) (hc : cod lg i = 8) : ∃ v, v < (vsl lg i).length ∧ num lg i 0 = nI v ∧ wf8 lg i v := by
  obtain ⟨-, h2⟩ := h
  rcases h2 with h2 | h2 | h2 | ⟨v, hv, ev, h2⟩
  · first | exact h2 | (rw [h2.1] at hc; exact absurd hc (by decide))
  · first | exact h2 | (rw [h2.1] at hc; exact absurd hc (by decide))
  · first | exact h2 | (rw [h2.1] at hc; exact absurd hc (by decide))
  · rcases h2 with h2 | h2 | h2 | h2 | ⟨p, hp, ep, h2⟩
    · first | exact ⟨v, hv, ev, h2⟩ | (rw [h2.1] at hc; exact absurd hc (by decide))
    · first | exact ⟨v, hv, ev, h2⟩ | (rw [h2.1] at hc; exact absurd hc (by decide))
    · first | exact ⟨v, hv, ev, h2⟩ | (rw [h2.1] at hc; exact absurd hc (by decide))
    · first | exact ⟨v, hv, ev, h2⟩ | (rw [h2.1] at hc; exact absurd hc (by decide))
    · rcases h2 with h2 | h2 | h2 | h2 | h2 <;> first | exact ⟨v, hv, ev, p, hp, ep, h2⟩ | (rw [h2.1] at hc; exact absurd hc (by decide))
theorem wf_c9 (h : wfE lg i) (hc : cod lg i = 9) : ∃ v, v < (vsl lg i).length ∧ num lg i 0 = nI v ∧ wf9 lg i v := by
  obtain ⟨-, h2⟩ := h
  rcases h2 with h2 | h2 | h2 | ⟨v, hv, ev, h2⟩
  · first | exact h2 | (rw [h2.1] at hc; exact absurd hc (by decide))
  · first | exact h2 | (rw [h2.1] at hc; exact absurd hc (by decide))
  · first | exact h2 | (rw [h2.1] at hc; exact absurd hc (by decide))
  · rcases h2 with h2 | h2 | h2 | h2 | ⟨p, hp, ep, h2⟩
    · first | exact ⟨v, hv, ev, h2⟩ | (rw [h2.1] at hc; exact absurd hc (by decide))
    · first | exact ⟨v, hv, ev, h2⟩ | (rw [h2.1] at hc; exact absurd hc (by decide))
    · first | exact ⟨v, hv, ev, h2⟩ | (rw [h2.1] at hc; exact absurd hc (by decide))
    · first | exact ⟨v, hv, ev, h2⟩ | (rw [h2.1] at hc; exact absurd hc (by decide))
    · rcases h2 with h2 | h2 | h2 | h2 | h2 <;> first | exact ⟨v, hv, ev, p, hp, ep, h2⟩ | (rw [h2.1] at hc; exact absurd hc (by decide))
theorem wf_c10 (h : wfE lg i) (hc : cod lg i = 10) : ∃ v, v < (vsl lg i).length ∧ num lg i 0 = nI v ∧ wf10 lg i v := by
  obtain ⟨-, h2⟩ := h
  rcases h2 with h2 | h2 | h2 | ⟨v, hv, ev, h2⟩
  · first | exact h2 | (rw [h2.1] at hc; exact absurd hc (by decide))
  · first | exact h2 | (rw [h2.1] at hc; exact absurd hc (by decide))
  · first | exact h2 | (rw [h2.1] at hc; exact absurd hc (by decide))
  · rcases h2 with h2 | h2 | h2 | h2 | ⟨p, hp, ep, h2⟩
    · first | exact ⟨v, hv, ev, h2⟩ | (rw [h2.1] at hc; exact absurd hc (by decide))
    · first | exact ⟨v, hv, ev, h2⟩ | (rw [h2.1] at hc; exact absurd hc (by decide))
    · first | exact ⟨v, hv, ev, h2⟩ | (rw [h2.1] at hc; exact absurd hc (by decide))
    · first | exact ⟨v, hv, ev, h2⟩ | (rw [h2.1] at hc; exact absurd hc (by decide))
    · rcases h2 with h2 | h2 | h2 | h2 | h2 <;> first | exact ⟨v, hv, ev, p, hp, ep, h2⟩ | (rw [h2.1] at hc; exact absurd hc (by decide))
theorem wf_c3 (h : wfE lg i) (hc : cod lg i = 3) : ∃ v, v < (vsl lg i).length ∧ num lg i 0 = nI v ∧ ∃ p, p < (psl lg i v).length ∧ num lg i 1 = nI p ∧ wf3 lg i v p := by
  obtain ⟨-, h2⟩ := h
  rcases h2 with h2 | h2 | h2 | ⟨v, hv, ev, h2⟩
  · first | exact h2 | (rw [h2.1] at hc; exact absurd hc (by decide))
  · first | exact h2 | (rw [h2.1] at hc; exact absurd hc (by decide))
  · first | exact h2 | (rw [h2.1] at hc; exact absurd hc (by decide))
  · rcases h2 with h2 | h2 | h2 | h2 | ⟨p, hp, ep, h2⟩
    · first | exact ⟨v, hv, ev, h2⟩ | (rw [h2.1] at hc; exact absurd hc (by decide))
    · first | exact ⟨v, hv, ev, h2⟩ | (rw [h2.1] at hc; exact absurd hc (by decide))
    · first | exact ⟨v, hv, ev, h2⟩ | (rw [h2.1] at hc; exact absurd hc (by decide))
    · first | exact ⟨v, hv, ev, h2⟩ | (rw [h2.1] at hc; exact absurd hc (by decide))
    · rcases h2 with h2 | h2 | h2 | h2 | h2 <;> first | exact ⟨v, hv, ev, p, hp, ep, h2⟩ | (rw [h2.1] at hc; exact absurd hc (by decide))
theorem wf_c4 (h : wfE lg i) (hc : cod lg i = 4) : ∃ v, v < (vsl lg i).length ∧ num lg i 0 = nI v ∧ ∃ p, p < (psl lg i v).length ∧ num lg i 1 = nI p ∧ wf4 lg i v p := by
  obtain ⟨-, h2⟩ := h
  rcases h2 with h2 | h2 | h2 | ⟨v, hv, ev, h2⟩
  · first | exact h2 | (rw [h2.1] at hc; exact absurd hc (by decide))
  · first | exact h2 | (rw [h2.1] at hc; exact absurd hc (by decide))
  · first | exact h2 | (rw [h2.1] at hc; exact absurd hc (by decide))
  · rcases h2 with h2 | h2 | h2 | h2 | ⟨p, hp, ep, h2⟩
    · first | exact ⟨v, hv, ev, h2⟩ | (rw [h2.1] at hc; exact absurd hc (by decide))
    · first | exact ⟨v, hv, ev, h2⟩ | (rw [h2.1] at hc; exact absurd hc (by decide))
    · first | exact ⟨v, hv, ev, h2⟩ | (rw [h2.1] at hc; exact absurd hc (by decide))
    · first | exact ⟨v, hv, ev, h2⟩ | (rw [h2.1] at hc; exact absurd hc (by decide))
    · rcases h2 with h2 | h2 | h2 | h2 | h2 <;> first | exact ⟨v, hv, ev, p, hp, ep, h2⟩ | (rw [h2.1] at hc; exact absurd hc (by decide))
theorem wf_c7 (h : wfE lg i) (hc : cod lg i = 7) : ∃ v, v < (vsl lg i).length ∧ num lg i 0 = nI v ∧ ∃ p, p < (psl lg i v).length ∧ num lg i 1 = nI p ∧ wf7 lg i v p := by
  obtain ⟨-, h2⟩ := h
  rcases h2 with h2 | h2 | h2 | ⟨v, hv, ev, h2⟩
  · first | exact h2 | (rw [h2.1] at hc; exact absurd hc (by decide))
  · first | exact h2 | (rw [h2.1] at hc; exact absurd hc (by decide))
  · first | exact h2 | (rw [h2.1] at hc; exact absurd hc (by decide))
  · rcases h2 with h2 | h2 | h2 | h2 | ⟨p, hp, ep, h2⟩
    · first | exact ⟨v, hv, ev, h2⟩ | (rw [h2.1] at hc; exact absurd hc (by decide))
    · first | exact ⟨v, hv, ev, h2⟩ | (rw [h2.1] at hc; exact absurd hc (by decide))
    · first | exact ⟨v, hv, ev, h2⟩ | (rw [h2.1] at hc; exact absurd hc (by decide))
    · first | exact ⟨v, hv, ev, h2⟩ | (rw [h2.1] at hc; exact absurd hc (by decide))
    · rcases h2 with h2 | h2 | h2 | h2 | h2 <;> first | exact ⟨v, hv, ev, p, hp, ep, h2⟩ | (rw [h2.1] at hc; exact absurd hc (by decide))
theorem wf_c5 (h : wfE lg i) (hc : cod lg i = 5) : ∃ v, v < (vsl lg i).length ∧ num lg i 0 = nI v ∧ ∃ p, p < (psl lg i v).length ∧ num lg i 1 = nI p ∧ wf5 lg i v := by
  obtain ⟨-, h2⟩ := h
  rcases h2 with h2 | h2 | h2 | ⟨v, hv, ev, h2⟩
  · first | exact h2 | (rw [h2.1] at hc; exact absurd hc (by decide))
  · first | exact h2 | (rw [h2.1] at hc; exact absurd hc (by decide))
  · first | exact h2 | (rw [h2.1] at hc; exact absurd hc (by decide))
  · rcases h2 with h2 | h2 | h2 | h2 | ⟨p, hp, ep, h2⟩
    · first | exact ⟨v, hv, ev, h2⟩ | (rw [h2.1] at hc; exact absurd hc (by decide))
    · first | exact ⟨v, hv, ev, h2⟩ | (rw [h2.1] at hc; exact absurd hc (by decide))
    · first | exact ⟨v, hv, ev, h2⟩ | (rw [h2.1] at hc; exact absurd hc (by decide))
    · first | exact ⟨v, hv, ev, h2⟩ | (rw [h2.1] at hc; exact absurd hc (by decide))
    · rcases h2 with h2 | h2 | h2 | h2 | h2 <;> first | exact ⟨v, hv, ev, p, hp, ep, h2⟩ | (rw [h2.1] at hc; exact absurd hc (by decide))
theorem wf_c6 (h : wfE lg i) (hc : cod lg i = 6) : ∃ v, v < (vsl lg i).length ∧ num lg i 0 = nI v ∧ ∃ p, p < (psl lg i v).length ∧ num lg i 1 = nI p ∧ wf6 lg i v := by
  obtain ⟨-, h2⟩ := h
  rcases h2 with h2 | h2 | h2 | ⟨v, hv, ev, h2⟩
  · first | exact h2 | (rw [h2.1] at hc; exact absurd hc (by decide))
  · first | exact h2 | (rw [h2.1] at hc; exact absurd hc (by decide))
  · first | exact h2 | (rw [h2.1] at hc; exact absurd hc (by decide))
  · rcases h2 with h2 | h2 | h2 | h2 | ⟨p, hp, ep, h2⟩
    · first | exact ⟨v, hv, ev, h2⟩ | (rw [h2.1] at hc; exact absurd hc (by decide))
    · first | exact ⟨v, hv, ev, h2⟩ | (rw [h2.1] at hc; exact absurd hc (by decide))
    · first | exact ⟨v, hv, ev, h2⟩ | (rw [h2.1] at hc; exact absurd hc (by decide))
    · first | exact ⟨v, hv, ev, h2⟩ | (rw [h2.1] at hc; exact absurd hc (by decide))
    · rcases h2 with h2 | h2 | h2 | h2 | h2 <;> first | exact ⟨v, hv, ev, p, hp, ep, h2⟩ | (rw [h2.1] at hc; exact absurd hc (by decide))
theorem tdy_mono (h : ∀ j, j < E → wfE lg j) : ∀ {b : Nat}, i ≤ b → b ≤ E → (tdy lg i).toInt ≤ (tdy lg b).toInt := by
  intro b
  induction b with
  | zero => intro hi _; rw [show i = 0 by omega]; exact Int.le_refl _
  | succ b ih =>
    intro hi hb
    by_cases h1 : i = b + 1
    · rw [h1]; exact Int.le_refl _
    · have h2 := ih (by omega) (by omega)
      rw [show tdy lg (b + 1) = if cod lg b = 0 then num lg b 0 else tdy lg b from rfl]
      split
      · rename_i hc
        have h3 := (wf_c0 (h b (by omega)) hc).2.1.1
        exact Int.le_trans h2 h3
      · exact h2
theorem wf_v (h : ∀ j, j < E → wfE lg j) (hv : v < (vsl lg E).length) : wf1 lg (vat lg E v) := wf_c1 (h _ (vat_lt hv)) (vat_cod hv)
theorem vat_day (h : ∀ j, j < E → wfE lg j) (hv : v < (vsl lg E).length) : rng (dyy lg (vat lg E v)) 0 (tdy lg (vat lg E v)).toInt := by
  obtain ⟨-, -, -, -, h2, h3⟩ := wf_v h hv
  rw [h3]; exact h2
theorem vat_day2 (h : ∀ j, j < E → wfE lg j) (hv : v < (vsl lg E).length) : rng (dyy lg (vat lg E v)) 0 (tdy lg E).toInt := by
  have h1 := vat_day h hv
  have h2 := tdy_mono h (Nat.le_of_lt (vat_lt hv)) (Nat.le_refl E)
  exact ⟨h1.1, by have := h1.2; omega⟩
theorem wf_day (h : ∀ j, j < E → wfE lg j) (hi : i < E) : rng (dyy lg i) 0 (tdy lg i).toInt := by
  have hp : ∀ j, j < i → wfE lg j := fun j hj => h j (by omega)
  have ht := tdy_rng hp
  have dk : ∀ {v : Nat} {x : Int32}, v < (vsl lg i).length → dok lg i v x → dyy lg i = x → rng (dyy lg i) 0 (tdy lg i).toInt := fun hv hd he => by
    have h1 := (vat_day2 hp hv).1
    rw [he]
    exact ⟨by have := hd.1; omega, hd.2⟩
  have dz : dyy lg i = 0 → rng (dyy lg i) 0 (tdy lg i).toInt := fun he => by
    rw [he]
    exact ⟨by decide, ht.1⟩
  obtain ⟨-, h2⟩ := h i hi
  rcases h2 with ⟨-, -, h2⟩ | ⟨-, -, -, -, h2, h3⟩ | ⟨-, -, -, -, h2⟩ | ⟨v, hv, ev, h2⟩
  · exact dz h2
  · rw [h3]; exact h2
  · exact dz h2
  · rcases h2 with ⟨-, -, -, -, -, -, h2, -⟩ | ⟨-, -, -, h2, h3, -⟩ | ⟨-, w, -, -, -, h2, -, h3⟩ | ⟨-, -, -, -, h2, h3⟩ | ⟨p, hp', ep, h2⟩
    · rw [h2]; exact vat_day2 hp hv
    · exact dk hv h2 h3
    · exact dk hv h2 h3
    · exact dk hv h2 h3
    · rcases h2 with ⟨-, -, -, -, -, h2, -⟩ | ⟨-, h2, h3, -⟩ | ⟨-, -, -, -, h2, h3⟩ | ⟨-, -, h2, h3⟩ | ⟨-, -, -, h2, h3⟩
      · rw [h2]; exact vat_day2 hp hv
      · exact dk hv h2 h3
      · exact dk hv h2 h3
      · exact dk hv h2 h3
      · exact dk hv h2 h3
theorem wf_day4 (h : ∀ j, j < E → wfE lg j) (hi : i < E) : rng (dyy lg i) 0 40000 := by
  have h1 := wf_day h hi
  have h2 := tdy_rng (E := i) fun j hj => h j (by omega)
  exact ⟨h1.1, by have := h1.2; have := h2.2; omega⟩
theorem wf_p (h : ∀ j, j < E → wfE lg j) (hE : E < 2 ^ 31) (hv : v < 2 ^ 31) (hk : k < (psl lg E v).length) : v < (vsl lg (pat lg E v k)).length ∧ wf2 lg (pat lg E v k) v := by
  obtain ⟨h1, h2⟩ := pat_cod hk
  obtain ⟨w, hw, ew, h3⟩ := wf_c2 (h _ (pat_lt hk)) h1
  have hl := sel_len (pat lg E v k) fun i => cod lg i == 1
  have hq := pat_lt hk
  have hw' : w < 2 ^ 31 := by unfold vsl at hw; omega
  have e : v = w := by
    have := congrArg Int32.toInt (h2.symm.trans ew)
    rw [nI_toInt hv, nI_toInt hw'] at this
    omega
  subst e
  exact ⟨hw, h3⟩
end WFC
