/-! What holds of every log: the ranges of its numbers. -/
theorem sel_pre {P : Nat → Bool} {i : Nat} : ∀ {E : Nat}, i ≤ E → ∃ r, sel E P = sel i P ++ r := by
  intro E h
  induction E with
  | zero => exact ⟨[], by rw [show i = 0 by omega]; simp⟩
  | succ E ih =>
    by_cases hi : i = E + 1
    · exact ⟨[], by rw [hi]; simp⟩
    · obtain ⟨r, hr⟩ := ih (by omega)
      exact ⟨r ++ (if P E then [E] else []), by rw [sel_s, hr, List.append_assoc]⟩
theorem sel_pre_get {P : Nat → Bool} {i E k : Nat} (h : i ≤ E) (hk : k < (sel i P).length) : (sel E P)[k]? = (sel i P)[k]? ∧ k < (sel E P).length := by
  obtain ⟨r, hr⟩ := sel_pre (P := P) h
  rw [hr, List.getElem?_append_left hk, List.length_append]
  exact ⟨rfl, by omega⟩
section PRE
variable {lg : Nat → Int32} {i E v k : Nat}
theorem vat_pre (h : i ≤ E) (hk : v < (vsl lg i).length) : vat lg E v = vat lg i v ∧ v < (vsl lg E).length := by
  obtain ⟨a, b⟩ := sel_pre_get h hk
  exact ⟨congrArg (fun o => o.getD 0) a, b⟩
theorem pat_pre (h : i ≤ E) (hk : k < (psl lg i v).length) : pat lg E v k = pat lg i v k ∧ k < (psl lg E v).length := by
  obtain ⟨a, b⟩ := sel_pre_get h hk
  exact ⟨congrArg (fun o => o.getD 0) a, b⟩
theorem wat_pre (h : i ≤ E) (hk : k < (wsl lg i v).length) : wat lg E v k = wat lg i v k ∧ k < (wsl lg E v).length := by
  obtain ⟨a, b⟩ := sel_pre_get h hk
  exact ⟨congrArg (fun o => o.getD 0) a, b⟩
theorem vat_cod (h : v < (vsl lg E).length) : cod lg (vat lg E v) = 1 := by
  have := (sel_get (vat_get h)).2
  exact eq_of_beq this
theorem pat_cod (h : k < (psl lg E v).length) : cod lg (pat lg E v k) = 2 ∧ num lg (pat lg E v k) 0 = nI v := by
  have := (sel_get (pat_get h)).2
  rw [Bool.and_eq_true] at this
  exact ⟨eq_of_beq this.1, eq_of_beq this.2⟩
theorem wat_cod (h : k < (wsl lg E v).length) : cod lg (wat lg E v k) = 8 ∧ num lg (wat lg E v k) 0 = nI v := by
  have := (sel_get (wat_get h)).2
  rw [Bool.and_eq_true] at this
  exact ⟨eq_of_beq this.1, eq_of_beq this.2⟩
end PRE
/-- the day that it is, after i entries -/
def tdy (lg : Nat → Int32) : Nat → Int32
  | 0 => 0
  | i + 1 => if cod lg i = 0 then num lg i 0 else tdy lg i
abbrev rng (x : Int32) (lo hi : Int) : Prop := lo ≤ x.toInt ∧ x.toInt ≤ hi
abbrev dok (lg : Nat → Int32) (i v : Nat) (x : Int32) : Prop := rng x (dyy lg (vat lg i v)).toInt (tdy lg i).toInt
def tbk (lg : Nat → Int32) (i v p : Nat) : Prop := num lg (pat lg i v p) 1 = 2
def wf0 (lg : Nat → Int32) (i : Nat) : Prop := cod lg i = 0 ∧ rng (num lg i 0) (tdy lg i).toInt 40000 ∧ dyy lg i = 0
def wf1 (lg : Nat → Int32) (i : Nat) : Prop := cod lg i = 1 ∧ rng (num lg i 0) 0 999 ∧ rng (num lg i 1) 1 20 ∧ rng (num lg i 2) 0 100000 ∧ rng (num lg i 3) 0 (tdy lg i).toInt ∧ dyy lg i = num lg i 3
def wf11 (lg : Nat → Int32) (i : Nat) : Prop := cod lg i = 11 ∧ rng (num lg i 0) 0 2 ∧ rng (num lg i 1) 1 4000 ∧ rng (num lg i 2) 1 4000 ∧ dyy lg i = 0
def wf2 (lg : Nat → Int32) (i v : Nat) : Prop := cod lg i = 2 ∧ rng (num lg i 1) 0 4 ∧ rng (num lg i 2) 1 100000 ∧ rng (num lg i 3) 1 100000 ∧ rng (num lg i 4) 1 10000 ∧ rng (num lg i 5) 1 1000 ∧ dyy lg i = dyy lg (vat lg i v) ∧ (psl lg i v).length < 24
def wf8 (lg : Nat → Int32) (i v : Nat) : Prop := cod lg i = 8 ∧ rng (num lg i 1) 1 10000 ∧ rng (num lg i 2) 1 100000 ∧ dok lg i v (num lg i 3) ∧ dyy lg i = num lg i 3 ∧ (wsl lg i v).length < 6
def wf9 (lg : Nat → Int32) (i v : Nat) : Prop := cod lg i = 9 ∧ ∃ w, w < (wsl lg i v).length ∧ num lg i 1 = nI w ∧ rng (num lg i 2) 1 10000 ∧ dok lg i v (num lg i 3) ∧ dyy lg (wat lg i v w) ≤ num lg i 3 ∧ dyy lg i = num lg i 3
def wf10 (lg : Nat → Int32) (i v : Nat) : Prop := cod lg i = 10 ∧ rng (num lg i 1) 0 5 ∧ rng (num lg i 2) 0 999 ∧ rng (num lg i 3) 0 9999 ∧ dok lg i v (num lg i 4) ∧ dyy lg i = num lg i 4
def wf3 (lg : Nat → Int32) (i v p : Nat) : Prop := cod lg i = 3 ∧ rng (num lg i 2) 1 12 ∧ rng (num lg i 3) 0 1000 ∧ 1 ≤ (num lg i 4).toInt ∧ ((num lg i 4).toInt ≤ 1 ∨ (tbk lg i v p ∧ (num lg i 4).toInt ≤ 500)) ∧ dyy lg i = dyy lg (vat lg i v) ∧ ¬ exi (shdP lg (nI v) (nI p)) i = true
def wf5 (lg : Nat → Int32) (i v : Nat) : Prop := cod lg i = 5 ∧ rng (num lg i 2) 1 100000 ∧ rng (num lg i 3) 1 10000 ∧ rng (num lg i 4) 1 1000 ∧ dok lg i v (num lg i 5) ∧ dyy lg i = num lg i 5
def wf6 (lg : Nat → Int32) (i v : Nat) : Prop := cod lg i = 6 ∧ rng (num lg i 2) 1 10000 ∧ dok lg i v (num lg i 3) ∧ dyy lg i = num lg i 3
def wf7 (lg : Nat → Int32) (i v p : Nat) : Prop := cod lg i = 7 ∧ tbk lg i v p ∧ rng (num lg i 2) 0 (sho lg i (nI v) (nI p) 40000 4 1).toInt ∧ dok lg i v (num lg i 3) ∧ dyy lg i = num lg i 3
def wf4 (lg : Nat → Int32) (i v p : Nat) : Prop := cod lg i = 4 ∧ dok lg i v (num lg i 2) ∧ dyy lg i = num lg i 2 ∧ ∀ k, k < 12 → rng (num lg i (3 + k)) (-1) (if (k : Int) < (sho lg i (nI v) (nI p) 40000 2 1).toInt then 10000 else -1)
def wfP (lg : Nat → Int32) (i v : Nat) : Prop := ∃ p, p < (psl lg i v).length ∧ num lg i 1 = nI p ∧ (wf3 lg i v p ∨ wf4 lg i v p ∨ wf5 lg i v ∨ wf6 lg i v ∨ wf7 lg i v p)
def wfV (lg : Nat → Int32) (i : Nat) : Prop := ∃ v, v < (vsl lg i).length ∧ num lg i 0 = nI v ∧ (wf2 lg i v ∨ wf8 lg i v ∨ wf9 lg i v ∨ wf10 lg i v ∨ wfP lg i v)
def wfE (lg : Nat → Int32) (i : Nat) : Prop := ent lg i = tdy lg i ∧ (wf0 lg i ∨ wf1 lg i ∨ wf11 lg i ∨ wfV lg i)
def WF (lg : Nat → Int32) (E : Nat) : Prop := (∀ i, i < E → wfE lg i) ∧ (vsl lg E).length ≤ 30 ∧ (acl lg E).length ≤ 2000 ∧ (osl lg E).length ≤ 4000
theorem tdy_rng {lg : Nat → Int32} : ∀ {E : Nat}, (∀ i, i < E → wfE lg i) → rng (tdy lg E) 0 40000 := by
  intro E
  induction E with
  | zero => intro _; exact show rng 0 0 40000 from ⟨by decide, by decide⟩
  | succ E ih =>
    intro h
    have h1 := ih fun i hi => h i (by omega)
    unfold tdy
    split
    · rename_i hc
      obtain ⟨-, h2⟩ := h E (by omega)
      rcases h2 with h2 | h2 | h2 | ⟨v, -, -, h2⟩
      · exact ⟨by have := h2.2.1.1; omega, h2.2.1.2⟩
      · rw [h2.1] at hc; exact absurd hc (by decide)
      · rw [h2.1] at hc; exact absurd hc (by decide)
      · rcases h2 with h2 | h2 | h2 | h2 | ⟨p, -, -, h2⟩
        · rw [h2.1] at hc; exact absurd hc (by decide)
        · rw [h2.1] at hc; exact absurd hc (by decide)
        · rw [h2.1] at hc; exact absurd hc (by decide)
        · rw [h2.1] at hc; exact absurd hc (by decide)
        · rcases h2 with h2 | h2 | h2 | h2 | h2 <;> (rw [h2.1] at hc; exact absurd hc (by decide))
    · exact h1
