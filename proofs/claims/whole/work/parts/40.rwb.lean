/-! What a row of a spot may hold, in a log. -/
theorem lat_P {dy : Nat → Int32} {P : Nat → Prop} [DecidablePred P] {s0 : Option Nat} {f : Nat} : ∀ {n k : Nat}, lat dy P s0 f n = some k → s0 = some k ∨ P k := by
  intro n
  induction n with
  | zero => intro k h; exact Or.inl h
  | succ n ih =>
    intro k h
    unfold lat at h
    split at h
    · rename_i hp
      cases h
      exact Or.inr hp.1
    · exact ih h
theorem mdn_P {dy : Nat → Int32} {P : Nat → Prop} [DecidablePred P] : ∀ {n k : Nat} {o : Option Nat}, mdn dy P n o = some k → o = some k ∨ P k := by
  intro n
  induction n with
  | zero => intro k o h; exact Or.inl h
  | succ n ih =>
    intro k o h
    rcases ih h with h1 | h1
    · split at h1
      · rename_i hp
        cases h1
        exact Or.inr hp.1
      · exact Or.inl h1
    · exact Or.inr h1
theorem mea_P {lg : Nat → Int32} {E : Nat} {v p : Int32} {s : Nat} {x y : Int32} {a0 : Nat} {bf : Int32} {k : Nat} (h : mea lg E v p s x y a0 bf = some k) : msP lg v p s x y k ∧ dyy lg a0 ≤ dyy lg k ∧ dyy lg k < bf := by
  rcases mdn_P h with h1 | h1
  · rcases lat_P h1 with h2 | h2
    · cases h2
    · exact h2
  · exact ⟨h1.1, Int32.le_of_lt h1.2.1, h1.2.2⟩
section WB
variable {lg : Nat → Int32} {E v p s : Nat} {x y : Int32}
theorem ms_rng (h : ∀ j, j < E → wfE lg j) (hs : s < 12) {v p : Int32} {k : Nat} (hk : k < E) (hm : msP lg v p s x y k) : rng (num lg k (3 + s)) 0 10000 := by
  obtain ⟨_, -, -, _, -, -, -, -, -, h2⟩ := wf_c4 (h k hk) hm.1.1
  have h3 := h2 s hs
  refine ⟨Int32.le_iff_toInt_le.mp hm.2.1, ?_⟩
  have h4 := h3.2
  split at h4
  · exact h4
  · omega
theorem pthk_rng (h : ∀ j, j < E → wfE lg j) {i : Nat} (hi : i < E) (hc : cod lg i = 2 ∨ cod lg i = 6) : rng (pthk lg i) 1 10000 := by
  unfold pthk
  rcases hc with hc | hc
  · rw [if_pos hc]
    obtain ⟨_, -, -, -, -, -, -, h2, -⟩ := wf_c2 (h i hi) hc
    exact h2
  · rw [if_neg (by rw [hc]; decide)]
    obtain ⟨_, -, -, _, -, -, -, h2, -⟩ := wf_c6 (h i hi) hc
    exact h2
theorem plt_cod (hp : p < (psl lg E v).length) : cod lg (plt lg E v p x y) = 2 ∨ cod lg (plt lg E v p x y) = 6 := by
  rcases lat_P (plt_eq (lg := lg) (E := E) (v := v) (p := p) (x := x) (y := y)) with h1 | h1
  · have := Option.some.inj h1
    rw [← this]
    exact Or.inl (pat_cod hp).1
  · exact Or.inr h1.1.1
theorem wear_rng (h : ∀ j, j < E → wfE lg j) {v p : Int32} : rng (sho lg E v p y 3 0) 0 1000 := by
  unfold sho
  cases hs : shp lg E v p y with
  | none => exact show rng 0 0 1000 from ⟨by decide, by decide⟩
  | some i =>
    obtain ⟨h1, h2⟩ := lst_lt hs
    obtain ⟨_, -, -, _, -, -, -, -, h3, -⟩ := wf_c3 (h i h1) h2.1
    exact h3
theorem spots_rng (h : ∀ j, j < E → wfE lg j) {v p : Int32} : rng (sho lg E v p y 2 1) 1 12 := by
  unfold sho
  cases hs : shp lg E v p y with
  | none => exact show rng 1 1 12 from ⟨by decide, by decide⟩
  | some i =>
    obtain ⟨h1, h2⟩ := lst_lt hs
    obtain ⟨_, -, -, _, -, -, -, h3, -⟩ := wf_c3 (h i h1) h2.1
    exact h3
theorem many_rng (h : ∀ j, j < E → wfE lg j) {v p : Int32} : rng (sho lg E v p y 4 1) 1 500 := by
  unfold sho
  cases hs : shp lg E v p y with
  | none => exact show rng 1 1 500 from ⟨by decide, by decide⟩
  | some i =>
    obtain ⟨h1, h2⟩ := lst_lt hs
    obtain ⟨_, -, -, _, -, -, -, -, -, h3, h4, -⟩ := wf_c3 (h i h1) h2.1
    exact ⟨h3, h4.elim (fun z => Int.le_trans z (by decide)) (fun z => z.2)⟩
theorem rwB_of (h : ∀ j, j < E → wfE lg j) (hp : p < (psl lg E v).length) (hs : s < 12) : rwB lg E v p s x y := by
  have hpl := plt_lt (x := x) (y := y) (pat_lt hp)
  have hpt := pthk_rng h hpl (plt_cod hp)
  have hpd := wf_day4 h hpl
  unfold rwB rwE rwT rwA
  cases hl : rwL lg E v p s x y with
  | none => exact ⟨hpd, ⟨Int.le_trans (show (0 : Int) ≤ 1 by decide) hpt.1, hpt.2⟩, wear_rng h, fun a t z => by cases z⟩
  | some l =>
    have h1 := mea_lt hpl hl
    have h2 := mea_P hl
    refine ⟨wf_day4 h h1, ms_rng h hs h1 h2.1, wear_rng h, ?_⟩
    intro a t z
    replace z : (match rwW lg E v p s x y l with | some w => some (dyy lg w, num lg w (3 + s)) | none => if dyy lg (plt lg E v p x y) < dyy lg l then some (dyy lg (plt lg E v p x y), pthk lg (plt lg E v p x y)) else none) = some (a, t) := z
    cases hw : rwW lg E v p s x y l with
    | some w =>
      rw [hw] at z
      cases z
      have h3 := mea_lt hpl hw
      have h4 := mea_P hw
      exact ⟨wf_day4 h h3, ms_rng h hs h3 h4.1, Int32.lt_iff_toInt_lt.mp h4.2.2⟩
    | none =>
      rw [hw] at z
      replace z : (if dyy lg (plt lg E v p x y) < dyy lg l then some (dyy lg (plt lg E v p x y), pthk lg (plt lg E v p x y)) else none) = some (a, t) := z
      split at z
      · rename_i hc
        cases z
        exact ⟨hpd, ⟨by have := hpt.1; omega, hpt.2⟩, Int32.lt_iff_toInt_lt.mp hc⟩
      · cases z
end WB
