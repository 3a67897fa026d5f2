/-! The reference's readers: parts, days, kinds, valves, marks. -/
/-- whether some one below n has P -/
def exi (P : Nat → Prop) [DecidablePred P] : Nat → Bool
  | 0 => false
  | n + 1 => exi P n || decide (P n)
theorem exi_iff {P : Nat → Prop} [DecidablePred P] : ∀ {n : Nat}, exi P n = true ↔ ∃ i, i < n ∧ P i := by
  intro n
  induction n with
  | zero => exact ⟨fun h => Bool.noConfusion h, fun ⟨i, h, _⟩ => absurd h (Nat.not_lt_zero _)⟩
  | succ n ih =>
    unfold exi
    rw [Bool.or_eq_true, ih, decide_eq_true_iff]
    constructor
    · rintro (⟨i, h1, h2⟩ | h)
      · exact ⟨i, by omega, h2⟩
      · exact ⟨n, by omega, h⟩
    · rintro ⟨i, h1, h2⟩
      by_cases h : i = n
      · subst h; exact Or.inr h2
      · exact Or.inl ⟨i, by omega, h2⟩
theorem exi_not {P : Nat → Prop} [DecidablePred P] {n : Nat} (h : ∀ i, i < n → ¬ P i) : ¬ exi P n = true := fun z => by
  obtain ⟨i, h1, h2⟩ := exi_iff.mp z
  exact h i h1 h2
/-- where the vessel, a part, a valve was entered -/
def vat (lg : Nat → Int32) (E v : Nat) : Nat := ((vsl lg E)[v]?).getD 0
def pat (lg : Nat → Int32) (E v p : Nat) : Nat := ((psl lg E v)[p]?).getD 0
def wat (lg : Nat → Int32) (E v w : Nat) : Nat := ((wsl lg E v)[w]?).getD 0
theorem vat_get {lg : Nat → Int32} {E v : Nat} (h : v < (vsl lg E).length) : (vsl lg E)[v]? = some (vat lg E v) := by
  unfold vat
  rw [List.getElem?_eq_getElem h]; rfl
theorem pat_get {lg : Nat → Int32} {E v p : Nat} (h : p < (psl lg E v).length) : (psl lg E v)[p]? = some (pat lg E v p) := by
  unfold pat
  rw [List.getElem?_eq_getElem h]; rfl
theorem wat_get {lg : Nat → Int32} {E v p : Nat} (h : p < (wsl lg E v).length) : (wsl lg E v)[p]? = some (wat lg E v p) := by
  unfold wat
  rw [List.getElem?_eq_getElem h]; rfl
theorem vat_lt {lg : Nat → Int32} {E v : Nat} (h : v < (vsl lg E).length) : vat lg E v < E := (sel_get (vat_get h)).1
theorem pat_lt {lg : Nat → Int32} {E v p : Nat} (h : p < (psl lg E v).length) : pat lg E v p < E := (sel_get (pat_get h)).1
theorem wat_lt {lg : Nat → Int32} {E v p : Nat} (h : p < (wsl lg E v).length) : wat lg E v p < E := (sel_get (wat_get h)).1
/-- the reference's counters and places are the log's -/
def RI (lg : Nat → Int32) (E VS : Nat) (pt vl pp va pa wa : Nat → Int32) : Prop :=
  VS = (vsl lg E).length ∧ (∀ v, v < VS → va v = nI (vat lg E v)) ∧ (∀ v, v < VS → pt v = nI (psl lg E v).length ∧ (psl lg E v).length ≤ 24) ∧ (∀ v p, v < VS → p < (psl lg E v).length → pa (24 * v + p) = nI (pat lg E v p)) ∧ (∀ v, v < VS → vl v = nI (wsl lg E v).length ∧ (wsl lg E v).length ≤ 6) ∧ (∀ v w, v < VS → w < (wsl lg E v).length → wa (6 * v + w) = nI (wat lg E v w)) ∧ (∀ v, v < VS → pp v = nI (qsl lg E v).length)
section RIs
variable {lg : Nat → Int32} {E VS : Nat} {pt vl pp va pa wa : Nat → Int32}
theorem RI.hv (h : RI lg E VS pt vl pp va pa wa) : VS = (vsl lg E).length := h.1
theorem RI.hva (h : RI lg E VS pt vl pp va pa wa) : ∀ v, v < VS → va v = nI (vat lg E v) := h.2.1
theorem RI.hp (h : RI lg E VS pt vl pp va pa wa) : ∀ v, v < VS → pt v = nI (psl lg E v).length ∧ (psl lg E v).length ≤ 24 := h.2.2.1
theorem RI.hpa (h : RI lg E VS pt vl pp va pa wa) : ∀ v p, v < VS → p < (psl lg E v).length → pa (24 * v + p) = nI (pat lg E v p) := h.2.2.2.1
theorem RI.hw (h : RI lg E VS pt vl pp va pa wa) : ∀ v, v < VS → vl v = nI (wsl lg E v).length ∧ (wsl lg E v).length ≤ 6 := h.2.2.2.2.1
theorem RI.hwa (h : RI lg E VS pt vl pp va pa wa) : ∀ v w, v < VS → w < (wsl lg E v).length → wa (6 * v + w) = nI (wat lg E v w) := h.2.2.2.2.2.1
theorem RI.hq (h : RI lg E VS pt vl pp va pa wa) : ∀ v, v < VS → pp v = nI (qsl lg E v).length := h.2.2.2.2.2.2
end RIs
theorem nI_iof {v : Int32} (h : 0 ≤ v.toInt) : v = nI v.toNatClampNeg ∧ (v.toNatClampNeg : Int) = v.toInt ∧ v.toNatClampNeg < 2 ^ 31 := by
  have h1 : (v.toNatClampNeg : Int) = v.toInt := Int.toNat_of_nonneg h
  have h2 : v.toNatClampNeg < 2 ^ 31 := by have := Int32.toInt_lt v; omega
  refine ⟨?_, h1, h2⟩
  rw [← Int32.toInt_inj, nI_toInt h2, h1]
section RR
variable {d : Nat} {G : bo_G} {Q : Option Value → bo_G → Prop} {fs : List Value} {lg : Nat → Int32} {E : Nat} {td : Int32} {VS : Nat} {pt vl pp va pa wa nn : Nat → Int32}
theorem r_inI {x : Int32} {b c : Int64} {lo hi : Int} (hb : b.toInt = lo) (hc : c.toInt = hi) (k : Q (some (.int (bo_b (lo ≤ x.toInt ∧ x.toInt ≤ hi)))) G) : Cx d mX11_in [.long x.toInt64, .long b, .long c] G Q := by
  subst hb hc
  refine r_in ?_
  rw [Int32.toInt_toInt64]
  exact k
theorem l40000 : (40000 : Int64).toInt = 40000 := by decide +kernel
theorem r_inP {x : Int32} {b c : Int64} {lo hi : Int} (hb : b.toInt = lo) (hc : c.toInt = hi) (k : ∀ (P : Prop) (_ : Decidable P), (P ↔ (lo ≤ x.toInt ∧ x.toInt ≤ hi)) → Q (some (.int (bo_b P))) G) : Cx d mX11_in [.long x.toInt64, .long b, .long c] G Q := r_inI hb hc (k _ _ Iff.rfl)
theorem r_isPart {v p : Int32} (h : RD G fs lg E td VS pt vl pp va pa wa nn) (hI : RI lg E VS pt vl pp va pa wa) (k : Q (some (.int (bo_b ((0 ≤ v.toInt ∧ v.toInt < VS) ∧ 0 ≤ p.toInt ∧ p.toInt < (psl lg E v.toNatClampNeg).length)))) G) : Cx (d + 2) mX11_isPart [.ref 364, .int v, .int p] G Q := by
  have h' := h
  obtain ⟨⟨g0, g1, g2, g3, g4, g5, g6, g7, g8, -⟩, ⟨h0, h1, h2, h3, h4, -⟩, hE, hV⟩ := h
  have h := h'
  refine Cx.body rfl rfl ?_
  (repeat (first | refine Ex.go rfl rfl ?_ | refine Ex.gf rfl rfl (by assumption) (by rfl) (by first | rfl | assumption) ?_))
  refine Ex.cv1 rfl rfl rfl (by assumption) (by rfl) (by decide) rfl ?_
  refine r_isVessel h ?_
  (repeat (first | refine Ex.go rfl rfl ?_ | refine Ex.gf rfl rfl (by assumption) (by rfl) (by first | rfl | assumption) ?_))
  refine Ex.brz (fun h1 => ?_) (fun h1 => ?_); rotate_left
  · rw [bo_b_f (fun z => h1 z.1)] at k
    (repeat (first | refine Ex.go rfl rfl ?_ | refine Ex.gf rfl rfl (by assumption) (by rfl) (by first | rfl | assumption) ?_))
    refine Ex.retz rfl rfl rfl (Or.inl rfl) ?_
    exact k
  obtain ⟨e1, e2, e3⟩ := nI_iof h1.1
  have hv : v.toNatClampNeg < VS := by omega
  obtain ⟨p1, p2⟩ := hI.hp _ hv
  generalize v.toNatClampNeg = w at e1 e2 e3 hv p1 p2 k
  subst e1
  (repeat (first | refine Ex.go rfl rfl ?_ | refine Ex.gf rfl rfl (by assumption) (by rfl) (by first | rfl | assumption) ?_))
  refine Ex.ialN rfl (j := w) rfl (by assumption) (by omega) (by omega) ?_
  rw [p1]
  (repeat (first | refine Ex.go rfl rfl ?_ | refine Ex.gf rfl rfl (by assumption) (by rfl) (by first | rfl | assumption) ?_))
  refine Ex.cs3 rfl rfl rfl rfl rfl rfl ?_
  refine r_inI (lo := 0) (hi := ((psl lg E w).length : Int) - 1) rfl (l_of (z_sub (nI_toInt (by omega)) rfl (by omega))) ?_
  (repeat (first | refine Ex.go rfl rfl ?_ | refine Ex.gf rfl rfl (by assumption) (by rfl) (by first | rfl | assumption) ?_))
  refine Ex.brz (fun h5 => ?_) (fun h5 => ?_); rotate_left
  · rw [bo_b_f (fun z => h5 (by have := z.2; omega))] at k
    (repeat (first | refine Ex.go rfl rfl ?_ | refine Ex.gf rfl rfl (by assumption) (by rfl) (by first | rfl | assumption) ?_))
    refine Ex.retz rfl rfl rfl (Or.inl rfl) ?_
    exact k
  · rw [bo_b_t ⟨h1, by omega⟩] at k
    (repeat (first | refine Ex.go rfl rfl ?_ | refine Ex.gf rfl rfl (by assumption) (by rfl) (by first | rfl | assumption) ?_))
    refine Ex.retz rfl rfl rfl (Or.inr rfl) ?_
    exact k
theorem r_isDay {v : Nat} {x : Int32} (h : RD G fs lg E td VS pt vl pp va pa wa nn) (hI : RI lg E VS pt vl pp va pa wa) (hv : v < VS) (k : Q (some (.int (bo_b ((dyy lg (vat lg E v)).toInt ≤ x.toInt ∧ x.toInt ≤ td.toInt)))) G) : Cx (d + 2) mX11_isDay [.ref 364, .int (nI v), .int x] G Q := by
  have h' := h
  obtain ⟨⟨g0, g1, g2, g3, g4, g5, g6, g7, g8, -⟩, ⟨h0, h1, h2, h3, h4, -⟩, hE, hV⟩ := h
  have h := h'
  have hv2 := vat_lt (lg := lg) (E := E) (v := v) (by have := hI.hv; omega)
  refine Cx.body rfl rfl ?_
  (repeat (first | refine Ex.go rfl rfl ?_ | refine Ex.gf rfl rfl (by assumption) (by rfl) (by first | rfl | assumption) ?_))
  refine Ex.cv1 rfl rfl rfl (by assumption) (by rfl) (by decide) rfl ?_
  refine r_built h (by omega) (hI.hva v hv) (by omega) ?_
  (repeat (first | refine Ex.go rfl rfl ?_ | refine Ex.gf rfl rfl (by assumption) (by rfl) (by first | rfl | assumption) ?_))
  refine Ex.cs3 rfl rfl rfl rfl rfl rfl ?_
  refine r_inI (l_of rfl) (l_of rfl) ?_
  (repeat (first | refine Ex.go rfl rfl ?_ | refine Ex.gf rfl rfl (by assumption) (by rfl) (by first | rfl | assumption) ?_))
  refine Ex.retz rfl rfl rfl (bo_b_01 _) ?_
  exact k
theorem r_kindOf {v p : Nat} (h : RD G fs lg E td VS pt vl pp va pa wa nn) (hI : RI lg E VS pt vl pp va pa wa) (hv : v < VS) (hp : p < (psl lg E v).length) (k : Q (some (.int (num lg (pat lg E v p) 1))) G) : Cx (d + 1) mX11_kindOf [.ref 364, .int (nI v), .int (nI p)] G Q := by
  have h' := h
  obtain ⟨⟨g0, g1, g2, g3, g4, g5, g6, g7, g8, g9, -⟩, ⟨h0, h1, h2, h3, h4, h5, -⟩, hE, hV⟩ := h
  have h := h'
  have hp2 := pat_lt hp
  have hp3 := (hI.hp v hv).2
  refine Cx.body rfl rfl ?_
  (repeat (first | refine Ex.go rfl rfl ?_ | refine Ex.gf rfl rfl (by assumption) (by rfl) (by first | rfl | assumption) ?_))
  refine Ex.ialN rfl (show nI 24 * nI v + nI p = nI (24 * v + p) by rw [pk_mul, nI_add]) (by assumption) (by omega) (by omega) ?_
  rw [hI.hpa v p hv hp]
  (repeat (first | refine Ex.go rfl rfl ?_ | refine Ex.gf rfl rfl (by assumption) (by rfl) (by first | rfl | assumption) ?_))
  refine Ex.cv2 rfl rfl rfl (by assumption) (by rfl) (by decide) rfl ?_
  refine r_number (j := 1) h (by omega) (by omega) ?_
  (repeat (first | refine Ex.go rfl rfl ?_ | refine Ex.gf rfl rfl (by assumption) (by rfl) (by first | rfl | assumption) ?_))
  refine Ex.ret rfl rfl rfl ?_
  exact k
abbrev shdP (lg : Nat → Int32) (v p : Int32) (i : Nat) : Prop := (4 ≤ (cod lg i).toInt ∧ (cod lg i).toInt ≤ 7) ∧ num lg i 0 = v ∧ num lg i 1 = p
theorem r_isShaped {v p : Int32} (h : RD G fs lg E td VS pt vl pp va pa wa nn) (k : Q (some (.int (bo_b (exi (shdP lg v p) E = true)))) G) : Cx (d + 1) mX11_isShaped [.ref 364, .int v, .int p] G Q := by
  have g0 := h.1.1
  have g2 := h.1.2.2.1
  have hE := h.2.2.1
  refine Cx.body rfl rfl ?_
  have loop : ∀ (e i : Nat) (a : Int32), a = nI i → (∀ j, j < i → ¬ shdP lg v p j) → i + e = E → Ex (d + 1) mX11_isShaped (2, [(0, .ref 364), (1, .int v), (2, .int p), (3, .int a)], [], G) Q := by
    intro e
    induction e with
    | zero =>
      intro i a ha hn hi
      subst ha
      rw [show E = i by omega, bo_b_f (exi_not hn)] at k
      (repeat (first | refine Ex.go rfl rfl ?_ | refine Ex.gf rfl rfl (by assumption) (by rfl) (by first | rfl | assumption) ?_))
      refine Ex.br (fun hc => ?_) (fun hc => ?_)
      · (repeat (first | refine Ex.go rfl rfl ?_ | refine Ex.gf rfl rfl (by assumption) (by rfl) (by first | rfl | assumption) ?_))
        refine Ex.retz rfl rfl rfl (Or.inl rfl) ?_
        exact k
      · exact absurd (nI_le (show E ≤ i by omega) (by omega)) hc
    | succ e ih =>
      intro i a ha hn hi
      subst ha
      have next : ¬ shdP lg v p i → ∀ j, j < i + 1 → ¬ shdP lg v p j := fun z j hj => by
        by_cases hji : j = i
        · subst hji; exact z
        · exact hn j (by omega)
      (repeat (first | refine Ex.go rfl rfl ?_ | refine Ex.gf rfl rfl (by assumption) (by rfl) (by first | rfl | assumption) ?_))
      refine Ex.br (fun hc => ?_) (fun hc => ?_)
      · have := (n_ge (a := i) (b := E) (by omega) (by omega)).mp hc
        omega
      (repeat (first | refine Ex.go rfl rfl ?_ | refine Ex.gf rfl rfl (by assumption) (by rfl) (by first | rfl | assumption) ?_))
      refine Ex.cv1 rfl rfl rfl (by assumption) (by rfl) (by decide) rfl ?_
      refine r_code h (by omega) ?_
      (repeat (first | refine Ex.go rfl rfl ?_ | refine Ex.gf rfl rfl (by assumption) (by rfl) (by first | rfl | assumption) ?_))
      refine Ex.cs3 rfl rfl rfl rfl rfl rfl ?_
      refine r_inI (lo := 4) (hi := 7) rfl rfl ?_
      (repeat (first | refine Ex.go rfl rfl ?_ | refine Ex.gf rfl rfl (by assumption) (by rfl) (by first | rfl | assumption) ?_))
      refine Ex.brz (fun h1 => ?_) (fun h1 => ?_); rotate_left
      · (repeat (first | exact ih (i + 1) _ (nI_1 i) (next fun z => h1 z.1) (by omega) | refine Ex.go rfl rfl ?_ | refine Ex.gf rfl rfl (by assumption) (by rfl) (by first | rfl | assumption) ?_))
      (repeat (first | refine Ex.go rfl rfl ?_ | refine Ex.gf rfl rfl (by assumption) (by rfl) (by first | rfl | assumption) ?_))
      refine Ex.cv2 rfl rfl rfl (by assumption) (by rfl) (by decide) rfl ?_
      refine r_number (j := 0) h (by omega) (by omega) ?_
      (repeat (first | refine Ex.go rfl rfl ?_ | refine Ex.gf rfl rfl (by assumption) (by rfl) (by first | rfl | assumption) ?_))
      refine Ex.br (fun h2 => ?_) (fun h2 => ?_)
      · (repeat (first | exact ih (i + 1) _ (nI_1 i) (next fun z => h2 z.2.1) (by omega) | refine Ex.go rfl rfl ?_ | refine Ex.gf rfl rfl (by assumption) (by rfl) (by first | rfl | assumption) ?_))
      (repeat (first | refine Ex.go rfl rfl ?_ | refine Ex.gf rfl rfl (by assumption) (by rfl) (by first | rfl | assumption) ?_))
      refine Ex.cv2 rfl rfl rfl (by assumption) (by rfl) (by decide) rfl ?_
      refine r_number (j := 1) h (by omega) (by omega) ?_
      (repeat (first | refine Ex.go rfl rfl ?_ | refine Ex.gf rfl rfl (by assumption) (by rfl) (by first | rfl | assumption) ?_))
      refine Ex.br (fun h3 => ?_) (fun h3 => ?_)
      · (repeat (first | exact ih (i + 1) _ (nI_1 i) (next fun z => h3 z.2.2) (by omega) | refine Ex.go rfl rfl ?_ | refine Ex.gf rfl rfl (by assumption) (by rfl) (by first | rfl | assumption) ?_))
      rw [bo_b_t (exi_iff.mpr ⟨i, by omega, h1, Decidable.not_not.mp h2, Decidable.not_not.mp h3⟩)] at k
      (repeat (first | refine Ex.go rfl rfl ?_ | refine Ex.gf rfl rfl (by assumption) (by rfl) (by first | rfl | assumption) ?_))
      refine Ex.retz rfl rfl rfl (Or.inr rfl) ?_
      exact k
  (repeat (first | exact loop E 0 _ rfl (fun j hj => absurd hj (Nat.not_lt_zero _)) (by omega) | refine Ex.go rfl rfl ?_ | refine Ex.gf rfl rfl (by assumption) (by rfl) (by first | rfl | assumption) ?_))
/-- a vessel asked about: day x as known at y -/
abbrev askP (lg : Nat → Int32) (E : Nat) (v x y : Int32) : Prop := (0 ≤ x.toInt ∧ x.toInt ≤ 40000) ∧ (0 ≤ y.toInt ∧ y.toInt ≤ 40000) ∧ (0 ≤ v.toInt ∧ v.toInt < (vsl lg E).length) ∧ ent lg (vat lg E v.toNatClampNeg) ≤ y ∧ dyy lg (vat lg E v.toNatClampNeg) ≤ x
theorem r_isAsked {v x y : Int32} (h : RD G fs lg E td VS pt vl pp va pa wa nn) (hI : RI lg E VS pt vl pp va pa wa) (k : ∀ (P : Prop) (_ : Decidable P), (P ↔ askP lg E v x y) → Q (some (.int (bo_b P))) G) : Cx (d + 2) mX11_isAsked [.ref 364, .int v, .int x, .int y] G Q := by
  have h' := h
  obtain ⟨⟨g0, g1, g2, g3, g4, g5, g6, g7, g8, -⟩, ⟨h0, h1, h2, h3, h4, -⟩, hE, hV⟩ := h
  have h := h'
  replace k := k _ (inferInstanceAs (Decidable (askP lg E v x y))) Iff.rfl
  refine Cx.body rfl rfl ?_
  (repeat (first | refine Ex.go rfl rfl ?_ | refine Ex.gf rfl rfl (by assumption) (by rfl) (by first | rfl | assumption) ?_))
  refine Ex.cs3 rfl rfl rfl rfl rfl rfl ?_
  refine r_inP (lo := 0) (hi := 40000) rfl l40000 (fun Pc1 dc1 ic1 => ?_)
  (repeat (first | refine Ex.go rfl rfl ?_ | refine Ex.gf rfl rfl (by assumption) (by rfl) (by first | rfl | assumption) ?_))
  refine Ex.brz (fun c1 => ?_) (fun c1 => ?_); rotate_left
  · rw [bo_b_f (fun z => c1 (ic1.mpr z.1))] at k
    (repeat (first | refine Ex.go rfl rfl ?_ | refine Ex.gf rfl rfl (by assumption) (by rfl) (by first | rfl | assumption) ?_))
    refine Ex.retz rfl rfl rfl (Or.inl rfl) ?_
    exact k
  (repeat (first | refine Ex.go rfl rfl ?_ | refine Ex.gf rfl rfl (by assumption) (by rfl) (by first | rfl | assumption) ?_))
  refine Ex.cs3 rfl rfl rfl rfl rfl rfl ?_
  refine r_inP (lo := 0) (hi := 40000) rfl l40000 (fun Pc2 dc2 ic2 => ?_)
  (repeat (first | refine Ex.go rfl rfl ?_ | refine Ex.gf rfl rfl (by assumption) (by rfl) (by first | rfl | assumption) ?_))
  refine Ex.brz (fun c2 => ?_) (fun c2 => ?_); rotate_left
  · rw [bo_b_f (fun z => c2 (ic2.mpr z.2.1))] at k
    (repeat (first | refine Ex.go rfl rfl ?_ | refine Ex.gf rfl rfl (by assumption) (by rfl) (by first | rfl | assumption) ?_))
    refine Ex.retz rfl rfl rfl (Or.inl rfl) ?_
    exact k
  (repeat (first | refine Ex.go rfl rfl ?_ | refine Ex.gf rfl rfl (by assumption) (by rfl) (by first | rfl | assumption) ?_))
  refine Ex.cv1 rfl rfl rfl (by assumption) (by rfl) (by decide) rfl ?_
  refine r_isVessel h ?_
  (repeat (first | refine Ex.go rfl rfl ?_ | refine Ex.gf rfl rfl (by assumption) (by rfl) (by first | rfl | assumption) ?_))
  refine Ex.brz (fun c3 => ?_) (fun c3 => ?_); rotate_left
  · rw [bo_b_f (fun z => c3 (by have := z.2.2.1; rw [hI.hv]; exact this))] at k
    (repeat (first | refine Ex.go rfl rfl ?_ | refine Ex.gf rfl rfl (by assumption) (by rfl) (by first | rfl | assumption) ?_))
    refine Ex.retz rfl rfl rfl (Or.inl rfl) ?_
    exact k
  obtain ⟨e1, e2, e3⟩ := nI_iof c3.1
  have hv : v.toNatClampNeg < VS := by omega
  have hv2 := vat_lt (lg := lg) (E := E) (v := v.toNatClampNeg) (by have := hI.hv; omega)
  have hva := hI.hva _ hv
  have c3' : 0 ≤ v.toInt ∧ v.toInt < (vsl lg E).length := by have := hI.hv; omega
  have k' : askP lg E v x y ↔ ent lg (vat lg E v.toNatClampNeg) ≤ y ∧ dyy lg (vat lg E v.toNatClampNeg) ≤ x := ⟨fun z => z.2.2.2, fun z => ⟨ic1.mp c1, ic2.mp c2, c3', z⟩⟩
  rw [bo_b_congr k'] at k
  generalize v.toNatClampNeg = w at e1 e2 e3 hv hv2 hva k
  subst e1
  (repeat (first | refine Ex.go rfl rfl ?_ | refine Ex.gf rfl rfl (by assumption) (by rfl) (by first | rfl | assumption) ?_))
  refine Ex.ialN rfl (j := w) rfl (by assumption) (by omega) (by omega) ?_
  rw [hva]
  (repeat (first | refine Ex.go rfl rfl ?_ | refine Ex.gf rfl rfl (by assumption) (by rfl) (by first | rfl | assumption) ?_))
  refine Ex.cv1 rfl rfl rfl (by assumption) (by rfl) (by decide) rfl ?_
  refine r_entered h (by omega) ?_
  (repeat (first | refine Ex.go rfl rfl ?_ | refine Ex.gf rfl rfl (by assumption) (by rfl) (by first | rfl | assumption) ?_))
  refine Ex.br (fun c4 => ?_) (fun c4 => ?_)
  · rw [bo_b_f (fun z => absurd z.1 (Int32.not_le.mpr c4))] at k
    (repeat (first | refine Ex.go rfl rfl ?_ | refine Ex.gf rfl rfl (by assumption) (by rfl) (by first | rfl | assumption) ?_))
    refine Ex.retz rfl rfl rfl (Or.inl rfl) ?_
    exact k
  (repeat (first | refine Ex.go rfl rfl ?_ | refine Ex.gf rfl rfl (by assumption) (by rfl) (by first | rfl | assumption) ?_))
  refine Ex.cv1 rfl rfl rfl (by assumption) (by rfl) (by decide) rfl ?_
  refine r_built h (by omega) hva (by omega) ?_
  (repeat (first | refine Ex.go rfl rfl ?_ | refine Ex.gf rfl rfl (by assumption) (by rfl) (by first | rfl | assumption) ?_))
  refine Ex.br (fun c5 => ?_) (fun c5 => ?_)
  · rw [bo_b_f (fun z => absurd z.2 (Int32.not_le.mpr c5))] at k
    (repeat (first | refine Ex.go rfl rfl ?_ | refine Ex.gf rfl rfl (by assumption) (by rfl) (by first | rfl | assumption) ?_))
    refine Ex.retz rfl rfl rfl (Or.inl rfl) ?_
    exact k
  · rw [bo_b_t ⟨Int32.not_lt.mp c4, Int32.not_lt.mp c5⟩] at k
    (repeat (first | refine Ex.go rfl rfl ?_ | refine Ex.gf rfl rfl (by assumption) (by rfl) (by first | rfl | assumption) ?_))
    refine Ex.retz rfl rfl rfl (Or.inr rfl) ?_
    exact k
end RR
