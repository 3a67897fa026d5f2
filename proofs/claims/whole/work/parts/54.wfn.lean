/-! What is not refused keeps the log well formed. -/
theorem if_0 {A : Prop} [Decidable A] {X y : Int32} (h : (if ¬ A then y else X) = 0) (hy : ¬ y = 0) : A ∧ X = 0 := by
  by_cases a : A
  · rw [if_neg (fun z => z a)] at h; exact ⟨a, h⟩
  · rw [if_pos a] at h; exact absurd h hy
theorem if_1 {A : Prop} [Decidable A] {X y : Int32} (h : (if A then y else X) = 0) (hy : ¬ y = 0) : ¬ A ∧ X = 0 := by
  by_cases a : A
  · rw [if_pos a] at h; exact absurd h hy
  · rw [if_neg a] at h; exact ⟨a, h⟩
theorem ne1 : ¬ (-1 : Int32) = 0 := by decide
theorem ne2 : ¬ (-2 : Int32) = 0 := by decide
theorem ne3 : ¬ (-3 : Int32) = 0 := by decide
theorem ne4 : ¬ (-4 : Int32) = 0 := by decide
/-- 0, or below -/
def le0 (x : Int32) : Prop := x = 0 ∨ x < 0
theorem le0_if {A : Prop} [Decidable A] {x y : Int32} (hx : le0 x) (hy : le0 y) : le0 (if A then x else y) := by split <;> assumption
theorem le0_1 : le0 (-1) := Or.inr (by decide)
theorem le0_2 : le0 (-2) := Or.inr (by decide)
theorem le0_3 : le0 (-3) := Or.inr (by decide)
theorem le0_4 : le0 (-4) := Or.inr (by decide)
theorem le0_0 : le0 0 := Or.inl rfl
section LN
variable {lg : Nat → Int32} {E c : Nat} {nn nn' : Nat → Int32}
theorem ful_le : le0 (fulI lg E) := le0_if le0_4 le0_0
theorem rfs_le : ∀ c, c < 12 → le0 (rfs lg E c nn) := by
  intro c hc
  match c, hc with
  | 0, _ => exact le0_if le0_2 (le0_if le0_4 le0_0)
  | 1, _ => exact le0_if le0_2 (le0_if le0_4 ful_le)
  | 2, _ => exact le0_if le0_1 (le0_if le0_2 (le0_if le0_4 ful_le))
  | 3, _ => exact le0_if le0_1 (le0_if le0_1 (le0_if le0_2 (le0_if le0_3 ful_le)))
  | 4, _ => exact le0_if le0_1 (le0_if le0_1 (le0_if le0_2 (le0_if le0_2 ful_le)))
  | 5, _ => exact le0_if le0_1 (le0_if le0_1 (le0_if le0_2 ful_le))
  | 6, _ => exact le0_if le0_1 (le0_if le0_1 (le0_if le0_2 ful_le))
  | 7, _ => exact le0_if le0_1 (le0_if le0_1 (le0_if le0_1 (le0_if le0_2 ful_le)))
  | 8, _ => exact le0_if le0_1 (le0_if le0_2 (le0_if le0_4 ful_le))
  | 9, _ => exact le0_if le0_1 (le0_if le0_1 (le0_if le0_2 ful_le))
  | 10, _ => exact le0_if le0_1 (le0_if le0_2 ful_le)
  | 11, _ => exact le0_if le0_2 ful_le
  | c + 12, h => exact absurd h (by omega)
theorem acl_osl : (acl lg E).length + (osl lg E).length = E := by
  induction E with
  | zero => rfl
  | succ E ih =>
    have e1 : acl lg (E + 1) = acl lg E ++ (if (!(cod lg E == 0)) = true then [E] else []) := sel_s E _
    have e2 : osl lg (E + 1) = osl lg E ++ (if (cod lg E == 0) = true then [E] else []) := sel_s E _
    rw [e1, e2, List.length_append, List.length_append]
    cases h : (cod lg E == 0) <;> simp <;> omega
theorem img_len : (img lg E).length ≤ 16 * (acl lg E).length + 2 * (osl lg E).length := by
  induction E with
  | zero => exact Nat.le_refl 0
  | succ E ih =>
    have e1 : acl lg (E + 1) = acl lg E ++ (if (!(cod lg E == 0)) = true then [E] else []) := sel_s E _
    have e2 : osl lg (E + 1) = osl lg E ++ (if (cod lg E == 0) = true then [E] else []) := sel_s E _
    have e3 := posn_s lg E
    unfold posn at e3
    rw [e1, e2, List.length_append, List.length_append, e3]
    have h15 := nums_le (cod lg E)
    cases h : (cod lg E == 0)
    · simp; omega
    · have h0 : cod lg E = 0 := eq_of_beq h
      rw [h0]
      have : nums 0 = 1 := by decide
      rw [this]
      simp; omega
theorem psl_le (hW : ∀ j, j < E → wfE lg j) (hE : E ≤ 6000) {v : Nat} (hv : v < 2 ^ 31) : (psl lg E v).length ≤ 24 := by
  induction E with
  | zero => exact Nat.zero_le _
  | succ E ih =>
    have e : psl lg (E + 1) v = psl lg E v ++ (if (cod lg E == 2 && num lg E 0 == nI v) = true then [E] else []) := sel_s E _
    rw [e, List.length_append]
    have h1 := ih (fun j hj => hW j (by omega)) (by omega)
    by_cases h : (cod lg E == 2 && num lg E 0 == nI v) = true
    · rw [if_pos h]
      rw [Bool.and_eq_true, beq_iff_eq, beq_iff_eq] at h
      obtain ⟨u, a, b, -, -, -, -, -, -, -, w⟩ := wf_c2 (hW E (by omega)) h.1
      have hl := sel_len E fun i => cod lg i == 1
      have hu : u = v := (nI_eq (by unfold vsl at a; omega) hv).mp (b.symm.trans h.2)
      rw [hu] at w
      exact w
    · rw [if_neg h]; exact h1
theorem wsl_le (hW : ∀ j, j < E → wfE lg j) (hE : E ≤ 6000) {v : Nat} (hv : v < 2 ^ 31) : (wsl lg E v).length ≤ 6 := by
  induction E with
  | zero => exact Nat.zero_le _
  | succ E ih =>
    have e : wsl lg (E + 1) v = wsl lg E v ++ (if (cod lg E == 8 && num lg E 0 == nI v) = true then [E] else []) := sel_s E _
    rw [e, List.length_append]
    have h1 := ih (fun j hj => hW j (by omega)) (by omega)
    by_cases h : (cod lg E == 8 && num lg E 0 == nI v) = true
    · rw [if_pos h]
      rw [Bool.and_eq_true, beq_iff_eq, beq_iff_eq] at h
      obtain ⟨u, a, b, -, -, -, -, -, w⟩ := wf_c8 (hW E (by omega)) h.1
      have hl := sel_len E fun i => cod lg i == 1
      have hu : u = v := (nI_eq (by unfold vsl at a; omega) hv).mp (b.symm.trans h.2)
      rw [hu] at w
      exact w
    · rw [if_neg h]; exact h1
theorem wfE_N (hW : ∀ j, j < E → wfE lg j) (hE : E ≤ 6000) (h30 : (vsl lg E).length ≤ 30) (hc : c < 12) (h : rfs lg E c nn = 0) : enOK lg E c nn ∧ wfE (lgN lg E c nn) E ∧ (c = 0 → ¬ (osl lg E).length = 4000) ∧ (c = 1 → ¬ (vsl lg E).length = 30) ∧ (¬ c = 0 → ¬ (acl lg E).length = 2000) := by
  have e1 : ent (lgN lg E c nn) E = tdy (lgN lg E c nn) E := lgN_ent.trans (tdy_E lgN_E (Nat.le_refl E)).symm
  have et : tdy (lgN lg E c nn) E = tdy lg E := tdy_E lgN_E (Nat.le_refl E)
  have ful : fulI lg E = 0 → ¬ (acl lg E).length = 2000 := fun z => (if_1 z ne4).1
  -- of a vessel
  have vess : ∀ c, 2 ≤ c → c ≤ 10 → rfs lg E c nn = 0 → ∃ v, v < (vsl lg E).length ∧ nn 0 = nI v ∧ rfV lg E v c nn = 0 ∧ (nn 0).toNatClampNeg = v := by
    intro c h2 h10 h
    have h' : (if ¬ (0 ≤ (nn 0).toInt ∧ (nn 0).toInt < (vsl lg E).length) then -1 else rfV lg E (nn 0).toNatClampNeg c nn) = 0 := by
      match c, h2, h10 with
      | 2, _, _ => exact h
      | 3, _, _ => exact h
      | 4, _, _ => exact h
      | 5, _, _ => exact h
      | 6, _, _ => exact h
      | 7, _, _ => exact h
      | 8, _, _ => exact h
      | 9, _, _ => exact h
      | 10, _, _ => exact h
      | c + 11, _, z => exact absurd z (by omega)
    obtain ⟨a, b⟩ := if_0 h' ne1
    obtain ⟨i1, i2, i3⟩ := nI_iof a.1
    exact ⟨_, by omega, i1, b, rfl⟩
  have part : ∀ c v, 3 ≤ c → c ≤ 7 → rfV lg E v c nn = 0 → ∃ p, p < (psl lg E v).length ∧ nn 1 = nI p ∧ rfP lg E v p c nn = 0 := by
    intro c v h2 h10 h
    have h' : (if ¬ (0 ≤ (nn 1).toInt ∧ (nn 1).toInt < (psl lg E v).length) then -1 else rfP lg E v (nn 1).toNatClampNeg c nn) = 0 := by
      match c, h2, h10 with
      | 3, _, _ => exact h
      | 4, _, _ => exact h
      | 5, _, _ => exact h
      | 6, _, _ => exact h
      | 7, _, _ => exact h
      | c + 8, _, z => exact absurd z (by omega)
    obtain ⟨a, b⟩ := if_0 h' ne1
    obtain ⟨i1, i2, i3⟩ := nI_iof a.1
    exact ⟨_, by omega, i1, b⟩
  have N : ∀ c k, k < numc c → num (lgN lg E c nn) E k = nn k := fun c k hk => lgN_num hk
  have P24 : ∀ v, v < (vsl lg E).length → (psl lg E v).length ≤ 24 := fun v hv => psl_le hW hE (by omega)
  have W6 : ∀ v, v < (vsl lg E).length → (wsl lg E v).length ≤ 6 := fun v hv => wsl_le hW hE (by omega)
  have VL : ∀ c v, v < (vsl lg E).length → v < (vsl (lgN lg E c nn) E).length := fun c v hv => by rw [vsl_E lgN_E (Nat.le_refl E)]; exact hv
  have PL : ∀ c v p, p < (psl lg E v).length → p < (psl (lgN lg E c nn) E v).length := fun c v p hv => by rw [psl_E lgN_E (Nat.le_refl E)]; exact hv
  have VD : ∀ c v, v < (vsl lg E).length → dyy (lgN lg E c nn) (vat (lgN lg E c nn) E v) = dyy lg (vat lg E v) := fun c v hv => by rw [vat_E lgN_E (Nat.le_refl E), lgE_dyy lgN_E (vat_lt hv)]
  have T : ∀ c v p, p < (psl lg E v).length → (tbk (lgN lg E c nn) E v p ↔ num lg (pat lg E v p) 1 = 2) := fun c v p hp => tbk_E lgN_E (Nat.le_refl E) hp
  have D : ∀ c v x, v < (vsl lg E).length → dok lg E v x → dok (lgN lg E c nn) E v x := fun c v x hv hd => (dok_E lgN_E (Nat.le_refl E) hv).mpr hd
  match c, hc with
  | 0, _ =>
    obtain ⟨a, b⟩ := if_0 h ne2
    obtain ⟨b, -⟩ := if_1 b ne4
    refine ⟨⟨fun z => absurd z (by omega), fun z => absurd z (by omega)⟩, ⟨e1, Or.inl ⟨lgN_cod, ?_, lgN_dyy⟩⟩, fun _ => b, fun z => absurd z (by omega), fun z => absurd rfl z⟩
    rw [N 0 0 (by decide), et]
    exact a
  | 1, _ =>
    obtain ⟨a, b⟩ := if_0 h ne2
    obtain ⟨b, b2⟩ := if_1 b ne4
    refine ⟨⟨fun z => ?_, fun z => absurd z (by omega)⟩, ⟨e1, Or.inr (Or.inl ⟨lgN_cod, ?_, ?_, ?_, ?_, ?_⟩)⟩, fun z => absurd z (by omega), fun _ => b, fun _ => ful b2⟩
    · omega
    · rw [N 1 0 (by decide)]; exact a.1
    · rw [N 1 1 (by decide)]; exact a.2.1
    · rw [N 1 2 (by decide)]; exact a.2.2.1
    · rw [N 1 3 (by decide), et]; exact a.2.2.2
    · rw [N 1 3 (by decide)]; exact lgN_dyy
  | 11, _ =>
    obtain ⟨a, b⟩ := if_0 h ne2
    refine ⟨⟨fun z => absurd z (by omega), fun _ z => absurd z (by omega)⟩, ⟨e1, Or.inr (Or.inr (Or.inl ⟨lgN_cod, ?_, ?_, ?_, lgN_dyy⟩))⟩, fun z => absurd z (by omega), fun z => absurd z (by omega), fun _ => ful b⟩
    · rw [N 11 0 (by decide)]; exact a.1
    · rw [N 11 1 (by decide)]; exact a.2.1
    · rw [N 11 2 (by decide)]; exact a.2.2
  | c + 12, h => exact absurd h (by omega)
  | 2, _ =>
    obtain ⟨v, hv, e0, h, ev⟩ := vess 2 (by omega) (by omega) h
    obtain ⟨a, b⟩ := if_0 h ne2
    obtain ⟨b, b2⟩ := if_1 b ne4
    refine ⟨⟨fun z => absurd z (by omega), fun _ _ => ⟨v, hv, e0, fun _ => by have := P24 v hv; omega, fun z => absurd z (by omega)⟩⟩, ⟨e1, Or.inr (Or.inr (Or.inr ⟨v, VL 2 v hv, by rw [N 2 0 (by decide)]; exact e0, Or.inl ⟨lgN_cod, ?_, ?_, ?_, ?_, ?_, ?_, ?_⟩⟩))⟩, fun z => absurd z (by omega), fun z => absurd z (by omega), fun _ => ful b2⟩
    · rw [N 2 1 (by decide)]; exact a.1
    · rw [N 2 2 (by decide)]; exact a.2.1
    · rw [N 2 3 (by decide)]; exact a.2.2.1
    · rw [N 2 4 (by decide)]; exact a.2.2.2.1
    · rw [N 2 5 (by decide)]; exact a.2.2.2.2
    · rw [VD 2 v hv, lgN_dyy]; show dyy lg (vat lg E (nn 0).toNatClampNeg) = _; rw [ev]
    · rw [psl_E lgN_E (Nat.le_refl E)]; have := P24 v hv; omega
  | 8, _ =>
    obtain ⟨v, hv, e0, h, ev⟩ := vess 8 (by omega) (by omega) h
    obtain ⟨a, b⟩ := if_0 h ne2
    obtain ⟨b, b2⟩ := if_1 b ne4
    refine ⟨⟨fun z => absurd z (by omega), fun _ _ => ⟨v, hv, e0, fun z => absurd z (by omega), fun _ => by have := W6 v hv; omega⟩⟩, ⟨e1, Or.inr (Or.inr (Or.inr ⟨v, VL 8 v hv, by rw [N 8 0 (by decide)]; exact e0, Or.inr (Or.inl ⟨lgN_cod, ?_, ?_, ?_, ?_, ?_⟩)⟩))⟩, fun z => absurd z (by omega), fun z => absurd z (by omega), fun _ => ful b2⟩
    · rw [N 8 1 (by decide)]; exact a.1
    · rw [N 8 2 (by decide)]; exact a.2.1
    · rw [N 8 3 (by decide)]; exact D 8 v _ hv a.2.2
    · rw [N 8 3 (by decide)]; exact lgN_dyy
    · rw [wsl_E lgN_E (Nat.le_refl E)]; have := W6 v hv; omega
  | 9, _ =>
    obtain ⟨v, hv, e0, h, ev⟩ := vess 9 (by omega) (by omega) h
    obtain ⟨a1, b⟩ := if_0 h ne1
    obtain ⟨a, b2⟩ := if_0 b ne2
    obtain ⟨i1, i2, i3⟩ := nI_iof a1.1
    have hw : (nn 1).toNatClampNeg < (wsl lg E v).length := by omega
    refine ⟨⟨fun z => absurd z (by omega), fun _ _ => ⟨v, hv, e0, fun z => absurd z (by omega), fun z => absurd z (by omega)⟩⟩, ⟨e1, Or.inr (Or.inr (Or.inr ⟨v, VL 9 v hv, by rw [N 9 0 (by decide)]; exact e0, Or.inr (Or.inr (Or.inl ⟨lgN_cod, (nn 1).toNatClampNeg, ?_, ?_, ?_, ?_, ?_, ?_⟩))⟩))⟩, fun z => absurd z (by omega), fun z => absurd z (by omega), fun _ => ful b2⟩
    · rw [wsl_E lgN_E (Nat.le_refl E)]; exact hw
    · rw [N 9 1 (by decide)]; exact i1
    · rw [N 9 2 (by decide)]; exact a.1
    · rw [N 9 3 (by decide)]; exact D 9 v _ hv a.2.1
    · rw [N 9 3 (by decide), wat_E lgN_E (Nat.le_refl E), lgE_dyy lgN_E (wat_lt hw)]; exact a.2.2
    · rw [N 9 3 (by decide)]; exact lgN_dyy
  | 10, _ =>
    obtain ⟨v, hv, e0, h, ev⟩ := vess 10 (by omega) (by omega) h
    obtain ⟨a, b2⟩ := if_0 h ne2
    refine ⟨⟨fun z => absurd z (by omega), fun _ _ => ⟨v, hv, e0, fun z => absurd z (by omega), fun z => absurd z (by omega)⟩⟩, ⟨e1, Or.inr (Or.inr (Or.inr ⟨v, VL 10 v hv, by rw [N 10 0 (by decide)]; exact e0, Or.inr (Or.inr (Or.inr (Or.inl ⟨lgN_cod, ?_, ?_, ?_, ?_, ?_⟩)))⟩))⟩, fun z => absurd z (by omega), fun z => absurd z (by omega), fun _ => ful b2⟩
    · rw [N 10 1 (by decide)]; exact a.1
    · rw [N 10 2 (by decide)]; exact a.2.1
    · rw [N 10 3 (by decide)]; exact a.2.2.1
    · rw [N 10 4 (by decide)]; exact D 10 v _ hv a.2.2.2
    · rw [N 10 4 (by decide)]; exact lgN_dyy
  | 3, _ =>
    obtain ⟨v, hv, e0, h, ev⟩ := vess 3 (by omega) (by omega) h
    obtain ⟨p, hp, e2, h⟩ := part 3 v (by omega) (by omega) h
    obtain ⟨a, b⟩ := if_0 h ne2
    obtain ⟨b, b2⟩ := if_1 b ne3
    refine ⟨⟨fun z => absurd z (by omega), fun _ _ => ⟨v, hv, e0, fun z => absurd z (by omega), fun z => absurd z (by omega)⟩⟩, ⟨e1, Or.inr (Or.inr (Or.inr ⟨v, VL 3 v hv, by rw [N 3 0 (by decide)]; exact e0, Or.inr (Or.inr (Or.inr (Or.inr ⟨p, PL 3 v p hp, by rw [N 3 1 (by decide)]; exact e2, Or.inl ⟨lgN_cod, ?_, ?_, ?_, ?_, ?_, ?_⟩⟩)))⟩))⟩, fun z => absurd z (by omega), fun z => absurd z (by omega), fun _ => ful b2⟩
    · rw [N 3 2 (by decide)]; exact a.1
    · rw [N 3 3 (by decide)]; exact a.2.1
    · rw [N 3 4 (by decide)]; exact a.2.2.1
    · rw [N 3 4 (by decide), T 3 v p hp]
      have := a.2.2.2
      by_cases hk : num lg (pat lg E v p) 1 = 2
      · rw [if_pos hk] at this; exact Or.inr ⟨hk, this⟩
      · rw [if_neg hk] at this; exact Or.inl this
    · rw [VD 3 v hv, lgN_dyy]; show dyy lg (vat lg E (nn 0).toNatClampNeg) = _; rw [ev]
    · exact fun z => b ((shd_E lgN_E (Nat.le_refl E)).mp z)
  | 4, _ =>
    obtain ⟨v, hv, e0, h, ev⟩ := vess 4 (by omega) (by omega) h
    obtain ⟨p, hp, e2, h⟩ := part 4 v (by omega) (by omega) h
    obtain ⟨a, b⟩ := if_0 h ne2
    obtain ⟨a2, b2⟩ := if_0 b ne2
    refine ⟨⟨fun z => absurd z (by omega), fun _ _ => ⟨v, hv, e0, fun z => absurd z (by omega), fun z => absurd z (by omega)⟩⟩, ⟨e1, Or.inr (Or.inr (Or.inr ⟨v, VL 4 v hv, by rw [N 4 0 (by decide)]; exact e0, Or.inr (Or.inr (Or.inr (Or.inr ⟨p, PL 4 v p hp, by rw [N 4 1 (by decide)]; exact e2, Or.inr (Or.inl ⟨lgN_cod, ?_, ?_, ?_⟩)⟩)))⟩))⟩, fun z => absurd z (by omega), fun z => absurd z (by omega), fun _ => ful b2⟩
    · rw [N 4 2 (by decide)]; exact D 4 v _ hv a
    · rw [N 4 2 (by decide)]; exact lgN_dyy
    · intro k hk
      have e15 : numc 4 = 15 := by decide
      rw [N 4 (3 + k) (by omega), sho_E lgN_E (Nat.le_refl E) (by omega)]
      exact a2 k hk
  | 5, _ =>
    obtain ⟨v, hv, e0, h, ev⟩ := vess 5 (by omega) (by omega) h
    obtain ⟨p, hp, e2, h⟩ := part 5 v (by omega) (by omega) h
    obtain ⟨a, b2⟩ := if_0 h ne2
    refine ⟨⟨fun z => absurd z (by omega), fun _ _ => ⟨v, hv, e0, fun z => absurd z (by omega), fun z => absurd z (by omega)⟩⟩, ⟨e1, Or.inr (Or.inr (Or.inr ⟨v, VL 5 v hv, by rw [N 5 0 (by decide)]; exact e0, Or.inr (Or.inr (Or.inr (Or.inr ⟨p, PL 5 v p hp, by rw [N 5 1 (by decide)]; exact e2, Or.inr (Or.inr (Or.inl ⟨lgN_cod, ?_, ?_, ?_, ?_, ?_⟩))⟩)))⟩))⟩, fun z => absurd z (by omega), fun z => absurd z (by omega), fun _ => ful b2⟩
    · rw [N 5 2 (by decide)]; exact a.1
    · rw [N 5 3 (by decide)]; exact a.2.1
    · rw [N 5 4 (by decide)]; exact a.2.2.1
    · rw [N 5 5 (by decide)]; exact D 5 v _ hv a.2.2.2
    · rw [N 5 5 (by decide)]; exact lgN_dyy
  | 6, _ =>
    obtain ⟨v, hv, e0, h, ev⟩ := vess 6 (by omega) (by omega) h
    obtain ⟨p, hp, e2, h⟩ := part 6 v (by omega) (by omega) h
    obtain ⟨a, b2⟩ := if_0 h ne2
    refine ⟨⟨fun z => absurd z (by omega), fun _ _ => ⟨v, hv, e0, fun z => absurd z (by omega), fun z => absurd z (by omega)⟩⟩, ⟨e1, Or.inr (Or.inr (Or.inr ⟨v, VL 6 v hv, by rw [N 6 0 (by decide)]; exact e0, Or.inr (Or.inr (Or.inr (Or.inr ⟨p, PL 6 v p hp, by rw [N 6 1 (by decide)]; exact e2, Or.inr (Or.inr (Or.inr (Or.inl ⟨lgN_cod, ?_, ?_, ?_⟩)))⟩)))⟩))⟩, fun z => absurd z (by omega), fun z => absurd z (by omega), fun _ => ful b2⟩
    · rw [N 6 2 (by decide)]; exact a.1
    · rw [N 6 3 (by decide)]; exact D 6 v _ hv a.2
    · rw [N 6 3 (by decide)]; exact lgN_dyy
  | 7, _ =>
    obtain ⟨v, hv, e0, h, ev⟩ := vess 7 (by omega) (by omega) h
    obtain ⟨p, hp, e2, h⟩ := part 7 v (by omega) (by omega) h
    obtain ⟨a1, b⟩ := if_0 h ne1
    obtain ⟨a, b2⟩ := if_0 b ne2
    refine ⟨⟨fun z => absurd z (by omega), fun _ _ => ⟨v, hv, e0, fun z => absurd z (by omega), fun z => absurd z (by omega)⟩⟩, ⟨e1, Or.inr (Or.inr (Or.inr ⟨v, VL 7 v hv, by rw [N 7 0 (by decide)]; exact e0, Or.inr (Or.inr (Or.inr (Or.inr ⟨p, PL 7 v p hp, by rw [N 7 1 (by decide)]; exact e2, Or.inr (Or.inr (Or.inr (Or.inr ⟨lgN_cod, ?_, ?_, ?_, ?_⟩)))⟩)))⟩))⟩, fun z => absurd z (by omega), fun z => absurd z (by omega), fun _ => ful b2⟩
    · exact (T 7 v p hp).mpr a1
    · rw [N 7 2 (by decide), sho_E lgN_E (Nat.le_refl E) (by omega)]; exact a.1
    · rw [N 7 3 (by decide)]; exact D 7 v _ hv a.2
    · rw [N 7 3 (by decide)]; exact lgN_dyy
theorem WF_N (h : WF lg E) (hc : c < 12) (h0 : rfs lg E c nn = 0) : enOK lg E c nn ∧ E < 6000 ∧ WF (lgN lg E c nn) (E + 1) := by
  obtain ⟨h1, h2, h3, h4⟩ := h
  have hE := acl_osl (lg := lg) (E := E)
  obtain ⟨a, b, d, e, f⟩ := wfE_N h1 (by omega) h2 hc h0
  refine ⟨a, ?_, fun i hi => ?_, ?_, ?_, ?_⟩
  · by_cases h : c = 0
    · have := d h; omega
    · have := f h; omega
  · by_cases h : i = E
    · rw [h]; exact b
    · exact wfE_E lgN_E (show i < E by omega) (h1 i (by omega))
  · rw [vsl_N hc, List.length_append]
    by_cases h : c = 1
    · rw [if_pos h]; have := e h; simp; omega
    · rw [if_neg h]; simp; omega
  · rw [acl_N hc, List.length_append]
    by_cases h : c = 0
    · rw [if_pos h]; simp; omega
    · rw [if_neg h]; have := f h; simp; omega
  · rw [osl_N hc, List.length_append]
    by_cases h : c = 0
    · rw [if_pos h]; have := d h; simp; omega
    · rw [if_neg h]; simp; omega
-- numbers alike as far as a code has any
theorem rfs_congr (hc : c < 12) (h : ∀ k, k < numc c → nn' k = nn k) : rfs lg E c nn' = rfs lg E c nn := by
  match c, hc with
  | 0, _ => show rf0 lg E nn' = rf0 lg E nn; unfold rf0; rw [h 0 (by decide)]
  | 1, _ => show rf1 lg E nn' = rf1 lg E nn; unfold rf1; rw [h 0 (by decide), h 1 (by decide), h 2 (by decide), h 3 (by decide)]
  | 11, _ => show rf11 lg E nn' = rf11 lg E nn; unfold rf11; rw [h 0 (by decide), h 1 (by decide), h 2 (by decide)]
  | 2, _ =>
    show (if ¬ (0 ≤ (nn' 0).toInt ∧ (nn' 0).toInt < (vsl lg E).length) then -1 else rf2 lg E (nn' 0).toNatClampNeg nn') = if ¬ (0 ≤ (nn 0).toInt ∧ (nn 0).toInt < (vsl lg E).length) then -1 else rf2 lg E (nn 0).toNatClampNeg nn
    unfold rf2; rw [h 0 (by decide), h 1 (by decide), h 2 (by decide), h 3 (by decide), h 4 (by decide), h 5 (by decide)]
  | 8, _ =>
    show (if ¬ (0 ≤ (nn' 0).toInt ∧ (nn' 0).toInt < (vsl lg E).length) then -1 else rf8 lg E (nn' 0).toNatClampNeg nn') = if ¬ (0 ≤ (nn 0).toInt ∧ (nn 0).toInt < (vsl lg E).length) then -1 else rf8 lg E (nn 0).toNatClampNeg nn
    unfold rf8; rw [h 0 (by decide), h 1 (by decide), h 2 (by decide), h 3 (by decide)]
  | 9, _ =>
    show (if ¬ (0 ≤ (nn' 0).toInt ∧ (nn' 0).toInt < (vsl lg E).length) then -1 else rf9 lg E (nn' 0).toNatClampNeg nn') = if ¬ (0 ≤ (nn 0).toInt ∧ (nn 0).toInt < (vsl lg E).length) then -1 else rf9 lg E (nn 0).toNatClampNeg nn
    unfold rf9; rw [h 0 (by decide), h 1 (by decide), h 2 (by decide), h 3 (by decide)]
  | 10, _ =>
    show (if ¬ (0 ≤ (nn' 0).toInt ∧ (nn' 0).toInt < (vsl lg E).length) then -1 else rf10 lg E (nn' 0).toNatClampNeg nn') = if ¬ (0 ≤ (nn 0).toInt ∧ (nn 0).toInt < (vsl lg E).length) then -1 else rf10 lg E (nn 0).toNatClampNeg nn
    unfold rf10; rw [h 0 (by decide), h 1 (by decide), h 2 (by decide), h 3 (by decide), h 4 (by decide)]
  | 3, _ =>
    show (if ¬ (0 ≤ (nn' 0).toInt ∧ (nn' 0).toInt < (vsl lg E).length) then -1 else if ¬ (0 ≤ (nn' 1).toInt ∧ (nn' 1).toInt < (psl lg E (nn' 0).toNatClampNeg).length) then -1 else rf3 lg E (nn' 0).toNatClampNeg (nn' 1).toNatClampNeg nn') = if ¬ (0 ≤ (nn 0).toInt ∧ (nn 0).toInt < (vsl lg E).length) then -1 else if ¬ (0 ≤ (nn 1).toInt ∧ (nn 1).toInt < (psl lg E (nn 0).toNatClampNeg).length) then -1 else rf3 lg E (nn 0).toNatClampNeg (nn 1).toNatClampNeg nn
    unfold rf3; rw [h 0 (by decide), h 1 (by decide), h 2 (by decide), h 3 (by decide), h 4 (by decide)]
  | 4, _ =>
    show (if ¬ (0 ≤ (nn' 0).toInt ∧ (nn' 0).toInt < (vsl lg E).length) then -1 else if ¬ (0 ≤ (nn' 1).toInt ∧ (nn' 1).toInt < (psl lg E (nn' 0).toNatClampNeg).length) then -1 else rf4 lg E (nn' 0).toNatClampNeg (nn' 1).toNatClampNeg nn') = if ¬ (0 ≤ (nn 0).toInt ∧ (nn 0).toInt < (vsl lg E).length) then -1 else if ¬ (0 ≤ (nn 1).toInt ∧ (nn 1).toInt < (psl lg E (nn 0).toNatClampNeg).length) then -1 else rf4 lg E (nn 0).toNatClampNeg (nn 1).toNatClampNeg nn
    unfold rf4; rw [h 0 (by decide), h 1 (by decide), h 2 (by decide)]
    have e15 : numc 4 = 15 := by decide
    have e : (∀ k, k < 12 → rng (nn' (3 + k)) (-1) (if (k : Int) < (sho lg E (nI (nn 0).toNatClampNeg) (nI (nn 1).toNatClampNeg) 40000 2 1).toInt then 10000 else -1)) ↔ ∀ k, k < 12 → rng (nn (3 + k)) (-1) (if (k : Int) < (sho lg E (nI (nn 0).toNatClampNeg) (nI (nn 1).toNatClampNeg) 40000 2 1).toInt then 10000 else -1) := ⟨fun z k hk => by rw [← h (3 + k) (by omega)]; exact z k hk, fun z k hk => by rw [h (3 + k) (by omega)]; exact z k hk⟩
    simp only [e]
  | 5, _ =>
    show (if ¬ (0 ≤ (nn' 0).toInt ∧ (nn' 0).toInt < (vsl lg E).length) then -1 else if ¬ (0 ≤ (nn' 1).toInt ∧ (nn' 1).toInt < (psl lg E (nn' 0).toNatClampNeg).length) then -1 else rf5 lg E (nn' 0).toNatClampNeg nn') = if ¬ (0 ≤ (nn 0).toInt ∧ (nn 0).toInt < (vsl lg E).length) then -1 else if ¬ (0 ≤ (nn 1).toInt ∧ (nn 1).toInt < (psl lg E (nn 0).toNatClampNeg).length) then -1 else rf5 lg E (nn 0).toNatClampNeg nn
    unfold rf5; rw [h 0 (by decide), h 1 (by decide), h 2 (by decide), h 3 (by decide), h 4 (by decide), h 5 (by decide)]
  | 6, _ =>
    show (if ¬ (0 ≤ (nn' 0).toInt ∧ (nn' 0).toInt < (vsl lg E).length) then -1 else if ¬ (0 ≤ (nn' 1).toInt ∧ (nn' 1).toInt < (psl lg E (nn' 0).toNatClampNeg).length) then -1 else rf6 lg E (nn' 0).toNatClampNeg nn') = if ¬ (0 ≤ (nn 0).toInt ∧ (nn 0).toInt < (vsl lg E).length) then -1 else if ¬ (0 ≤ (nn 1).toInt ∧ (nn 1).toInt < (psl lg E (nn 0).toNatClampNeg).length) then -1 else rf6 lg E (nn 0).toNatClampNeg nn
    unfold rf6; rw [h 0 (by decide), h 1 (by decide), h 2 (by decide), h 3 (by decide)]
  | 7, _ =>
    show (if ¬ (0 ≤ (nn' 0).toInt ∧ (nn' 0).toInt < (vsl lg E).length) then -1 else if ¬ (0 ≤ (nn' 1).toInt ∧ (nn' 1).toInt < (psl lg E (nn' 0).toNatClampNeg).length) then -1 else rf7 lg E (nn' 0).toNatClampNeg (nn' 1).toNatClampNeg nn') = if ¬ (0 ≤ (nn 0).toInt ∧ (nn 0).toInt < (vsl lg E).length) then -1 else if ¬ (0 ≤ (nn 1).toInt ∧ (nn 1).toInt < (psl lg E (nn 0).toNatClampNeg).length) then -1 else rf7 lg E (nn 0).toNatClampNeg (nn 1).toNatClampNeg nn
    unfold rf7; rw [h 0 (by decide), h 1 (by decide), h 2 (by decide), h 3 (by decide)]
  | c + 12, h => exact absurd h (by omega)
theorem dofI_congr (hc : c < 12) (h : ∀ k, k < numc c → nn' k = nn k) : dofI lg E c nn' = dofI lg E c nn := by
  match c, hc with
  | 0, _ => simp only [dofI]
  | 1, _ => simp only [dofI]; exact h 3 (by decide)
  | 2, _ => simp only [dofI]; rw [h 0 (by decide)]
  | 3, _ => simp only [dofI]; rw [h 0 (by decide)]
  | 4, _ => simp only [dofI]; exact h 2 (by decide)
  | 5, _ => simp only [dofI]; exact h 5 (by decide)
  | 6, _ => simp only [dofI]; exact h 3 (by decide)
  | 7, _ => simp only [dofI]; exact h 3 (by decide)
  | 8, _ => simp only [dofI]; exact h 3 (by decide)
  | 9, _ => simp only [dofI]; exact h 3 (by decide)
  | 10, _ => simp only [dofI]; exact h 4 (by decide)
  | 11, _ => simp only [dofI]
  | c + 12, h => exact absurd h (by omega)
theorem msd_congr (h : ∀ k, k < 15 → nn' k = nn k) : ∀ k, k ≤ 12 → msdN nn' k = msdN nn k := by
  intro k
  induction k with
  | zero => intro _; rfl
  | succ k ih =>
    intro hk
    show msdN nn' k + (if 0 ≤ nn' (3 + k) then 1 else 0) = msdN nn k + (if 0 ≤ nn (3 + k) then 1 else 0)
    rw [ih (by omega), h (3 + k) (by omega)]
theorem ansI_congr (hc : c < 12) (h : ∀ k, k < numc c → nn' k = nn k) : ansI lg E c nn' = ansI lg E c nn := by
  match c, hc with
  | 0, _ => simp only [ansI]; exact h 0 (by decide)
  | 1, _ => simp only [ansI]
  | 2, _ => simp only [ansI]; rw [h 0 (by decide)]
  | 3, _ => simp only [ansI]; exact h 2 (by decide)
  | 4, _ =>
    have e15 : numc 4 = 15 := by decide
    have e := msd_congr (nn := nn) (nn' := nn') (fun k hk => h k (by omega)) 12 (Nat.le_refl _)
    simp only [ansI]
    rw [e]
  | 5, _ => simp only [ansI]
  | 6, _ => simp only [ansI]
  | 7, _ => simp only [ansI]; exact h 2 (by decide)
  | 8, _ => simp only [ansI]; rw [h 0 (by decide)]
  | 9, _ => simp only [ansI]; exact h 2 (by decide)
  | 10, _ => simp only [ansI]; rw [h 0 (by decide)]
  | 11, _ => simp only [ansI]
  | c + 12, h => exact absurd h (by omega)
theorem lgN_congr (hc : c < 12) (h : ∀ k, k < numc c → nn' k = nn k) : lgN lg E c nn' = lgN lg E c nn := by
  unfold lgN
  rw [dofI_congr hc h]
  funext j
  unfold lgw
  by_cases h1 : j - (18 * E + 3) < nums (nI c)
  · rw [if_pos h1, if_pos h1, h _ h1]
  · rw [if_neg h1, if_neg h1]
end LN
