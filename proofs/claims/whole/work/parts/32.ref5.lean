/-! The reference's readers: known parts, valves, dues, mends, stops. -/
def mxI (a b : Int32) : Int32 := if b ≤ a then a else b
def mnI (a b : Int32) : Int32 := if a ≤ b then a else b
abbrev knP (lg : Nat → Int32) (E : Nat) (v p x y : Int32) : Prop := askP lg E v x y ∧ (0 ≤ p.toInt ∧ p.toInt < (psl lg E v.toNatClampNeg).length) ∧ ent lg (pat lg E v.toNatClampNeg p.toNatClampNeg) ≤ y
/-- the setting of a valve: as entered, or as set -/
def stv (lg : Nat → Int32) (a0 : Nat) (s : Option Nat) : Int32 := if s = some a0 then num lg a0 1 else match s with
  | none => num lg a0 1
  | some i => num lg i 2
def setg (lg : Nat → Int32) (E v w : Nat) (x y : Int32) : Int32 := stv lg (wat lg E v w) (lof lg 9 (nI v) (nI w) x y (some (wat lg E v w)) (wat lg E v w + 1) (E - (wat lg E v w + 1)))
def setgs (lg : Nat → Int32) (E v : Nat) (b x y : Int32) : Nat → Int32
  | 0 => -1
  | w + 1 => if stP lg x y (wat lg E v w) ∧ (setgs lg E v b x y w < 0 ∨ (¬ b = 0 ∧ setg lg E v w x y < setgs lg E v b x y w) ∨ (b = 0 ∧ setgs lg E v b x y w < setg lg E v w x y)) then setg lg E v w x y else setgs lg E v b x y w
def pssd (lg : Nat → Int32) (E v : Nat) (x y : Int32) : Nat → Int32
  | 0 => 0
  | w + 1 => pssd lg E v x y w + (if stP lg x y (wat lg E v w) then num lg (wat lg E v w) 2 else 0)
def plg (lg : Nat → Int32) (E : Nat) (v p x y : Int32) : Int32 := match lof lg 7 v p x y none 0 E with
  | none => 0
  | some i => num lg i 2
def tubs (lg : Nat → Int32) (E v : Nat) (b x y : Int32) : Nat → Nat → Int32 → Int32
  | 0, _, a => a
  | e + 1, p, a => if knP lg E (nI v) (nI p) x y then tubs lg E v b x y e (p + 1) (if num lg (pat lg E v p) 1 = 2 then a + (if b = 0 then sho lg E (nI v) (nI p) y 4 1 else plg lg E (nI v) (nI p) x y) else a) else a
section RR
variable {d : Nat} {G : bo_G} {Q : Option Value → bo_G → Prop} {fs : List Value} {lg : Nat → Int32} {E : Nat} {td : Int32} {VS : Nat} {pt vl pp va pa wa nn : Nat → Int32}
theorem r_isKnownPart {v p x y : Int32} (h : RD G fs lg E td VS pt vl pp va pa wa nn) (hI : RI lg E VS pt vl pp va pa wa) (k : ∀ (P : Prop) (_ : Decidable P), (P ↔ knP lg E v p x y) → Q (some (.int (bo_b P))) G) : Cx (d + 3) mX11_isKnownPart [.ref 364, .int v, .int p, .int x, .int y] G Q := by
  have h' := h
  obtain ⟨⟨g0, g1, g2, g3, g4, g5, g6, g7, g8, g9, -⟩, ⟨h0, h1, h2, h3, h4, h5, -⟩, hE, hV⟩ := h
  have h := h'
  replace k := k _ (inferInstanceAs (Decidable (knP lg E v p x y))) Iff.rfl
  refine Cx.body rfl rfl ?_
  (repeat (first | refine Ex.go rfl rfl ?_ | refine Ex.gf rfl rfl (by assumption) (by rfl) (by first | rfl | assumption) ?_))
  refine Ex.cv3 rfl rfl rfl (by assumption) (by rfl) (by decide) rfl ?_
  refine r_isAsked h hI (fun P1 d1 i1 => ?_)
  (repeat (first | refine Ex.go rfl rfl ?_ | refine Ex.gf rfl rfl (by assumption) (by rfl) (by first | rfl | assumption) ?_))
  refine Ex.brz (fun c1 => ?_) (fun c1 => ?_); rotate_left
  · rw [bo_b_f (fun z => c1 (i1.mpr z.1))] at k
    (repeat (first | refine Ex.go rfl rfl ?_ | refine Ex.gf rfl rfl (by assumption) (by rfl) (by first | rfl | assumption) ?_))
    refine Ex.retz rfl rfl rfl (Or.inl rfl) ?_
    exact k
  have c1 := i1.mp c1
  (repeat (first | refine Ex.go rfl rfl ?_ | refine Ex.gf rfl rfl (by assumption) (by rfl) (by first | rfl | assumption) ?_))
  refine Ex.cv2 rfl rfl rfl (by assumption) (by rfl) (by decide) rfl ?_
  refine r_isPart h hI ?_
  (repeat (first | refine Ex.go rfl rfl ?_ | refine Ex.gf rfl rfl (by assumption) (by rfl) (by first | rfl | assumption) ?_))
  refine Ex.brz (fun c2 => ?_) (fun c2 => ?_); rotate_left
  · rw [bo_b_f (fun z => c2 ⟨by have := z.1.2.2.1; have := hI.hv; omega, z.2.1⟩)] at k
    (repeat (first | refine Ex.go rfl rfl ?_ | refine Ex.gf rfl rfl (by assumption) (by rfl) (by first | rfl | assumption) ?_))
    refine Ex.retz rfl rfl rfl (Or.inl rfl) ?_
    exact k
  have k' : knP lg E v p x y ↔ ent lg (pat lg E v.toNatClampNeg p.toNatClampNeg) ≤ y := ⟨fun z => z.2.2, fun z => ⟨c1, c2.2, z⟩⟩
  rw [bo_b_congr k'] at k
  obtain ⟨e1, e2, e3⟩ := nI_iof c2.1.1
  obtain ⟨f1, f2, f3⟩ := nI_iof c2.2.1
  have hv : v.toNatClampNeg < VS := by omega
  have hp : p.toNatClampNeg < (psl lg E v.toNatClampNeg).length := by omega
  have hpa := hI.hpa _ _ hv hp
  have hp2 := pat_lt hp
  have hp3 := (hI.hp _ hv).2
  clear k' c1 i1 c2
  generalize p.toNatClampNeg = q at f1 f2 f3 hp hpa hp2 k
  generalize v.toNatClampNeg = w at e1 e2 e3 hv hp hpa hp2 hp3 k
  subst e1 f1
  (repeat (first | refine Ex.go rfl rfl ?_ | refine Ex.gf rfl rfl (by assumption) (by rfl) (by first | rfl | assumption) ?_))
  refine Ex.ialN rfl (show nI 24 * nI w + nI q = nI (24 * w + q) by rw [pk_mul, nI_add]) (by assumption) (by omega) (by omega) ?_
  rw [hpa]
  (repeat (first | refine Ex.go rfl rfl ?_ | refine Ex.gf rfl rfl (by assumption) (by rfl) (by first | rfl | assumption) ?_))
  refine Ex.cv1 rfl rfl rfl (by assumption) (by rfl) (by decide) rfl ?_
  refine r_entered h (by omega) ?_
  (repeat (first | refine Ex.go rfl rfl ?_ | refine Ex.gf rfl rfl (by assumption) (by rfl) (by first | rfl | assumption) ?_))
  refine Ex.br (fun c4 => ?_) (fun c4 => ?_)
  · rw [bo_b_f (P := ent lg (pat lg E w q) ≤ y) (fun z => absurd z (Int32.not_le.mpr c4))] at k
    (repeat (first | refine Ex.go rfl rfl ?_ | refine Ex.gf rfl rfl (by assumption) (by rfl) (by first | rfl | assumption) ?_))
    refine Ex.retz rfl rfl rfl (Or.inl rfl) ?_
    exact k
  · rw [bo_b_t (P := ent lg (pat lg E w q) ≤ y) (Int32.not_lt.mp c4)] at k
    (repeat (first | refine Ex.go rfl rfl ?_ | refine Ex.gf rfl rfl (by assumption) (by rfl) (by first | rfl | assumption) ?_))
    refine Ex.retz rfl rfl rfl (Or.inr rfl) ?_
    exact k
theorem r_isValve {v w : Nat} {x y : Int32} (h : RD G fs lg E td VS pt vl pp va pa wa nn) (hI : RI lg E VS pt vl pp va pa wa) (hv : v < VS) (hw : w < (wsl lg E v).length) (k : Q (some (.int (bo_b (stP lg x y (wat lg E v w))))) G) : Cx (d + 2) mX11_isValve [.ref 364, .int (nI v), .int (nI w), .int x, .int y] G Q := by
  have h' := h
  obtain ⟨⟨g0, g1, g2, g3, g4, g5, g6, g7, g8, g9, g10, -⟩, ⟨h0, h1, h2, h3, h4, h5, h6, -⟩, hE, hV⟩ := h
  have h := h'
  have hw2 := wat_lt hw
  have hw3 := (hI.hw v hv).2
  refine Cx.body rfl rfl ?_
  (repeat (first | refine Ex.go rfl rfl ?_ | refine Ex.gf rfl rfl (by assumption) (by rfl) (by first | rfl | assumption) ?_))
  refine Ex.ialN rfl (show nI 6 * nI v + nI w = nI (6 * v + w) by rw [pk_mul, nI_add]) (by assumption) (by omega) (by omega) ?_
  rw [hI.hwa v w hv hw]
  (repeat (first | refine Ex.go rfl rfl ?_ | refine Ex.gf rfl rfl (by assumption) (by rfl) (by first | rfl | assumption) ?_))
  refine Ex.cv3 rfl rfl rfl (by assumption) (by rfl) (by decide) rfl ?_
  refine r_stands h (by omega) ?_
  (repeat (first | refine Ex.go rfl rfl ?_ | refine Ex.gf rfl rfl (by assumption) (by rfl) (by first | rfl | assumption) ?_))
  refine Ex.retz rfl rfl rfl (bo_b_01 _) ?_
  exact k
theorem stv_0 {a0 : Nat} : stv lg a0 (some a0) = num lg a0 1 := if_pos rfl
theorem stv_s {a0 i : Nat} (h : ¬ i = a0) : stv lg a0 (some i) = num lg i 2 := if_neg fun z => h (Option.some.inj z)
theorem r_setting {v w : Nat} {x y : Int32} (h : RD G fs lg E td VS pt vl pp va pa wa nn) (hI : RI lg E VS pt vl pp va pa wa) (hv : v < VS) (hw : w < (wsl lg E v).length) (k : Q (some (.int (setg lg E v w x y))) G) : Cx (d + 2) mX11_setting [.ref 364, .int (nI v), .int (nI w), .int x, .int y] G Q := by
  have h' := h
  obtain ⟨⟨g0, g1, g2, g3, g4, g5, g6, g7, g8, g9, g10, -⟩, ⟨h0, h1, h2, h3, h4, h5, h6, -⟩, hE, hV⟩ := h
  have h := h'
  have ha2 := wat_lt hw
  have hw3 := (hI.hw v hv).2
  unfold setg at k
  have hwa := hI.hwa v w hv hw
  generalize wat lg E v w = a0 at ha2 k hwa
  refine Cx.body rfl rfl ?_
  (repeat (first | refine Ex.go rfl rfl ?_ | refine Ex.gf rfl rfl (by assumption) (by rfl) (by first | rfl | assumption) ?_))
  refine Ex.ialN rfl (show nI 6 * nI v + nI w = nI (6 * v + w) by rw [pk_mul, nI_add]) (by assumption) (by omega) (by omega) ?_
  rw [hwa]
  have loop : ∀ (e i : Nat) (a b s : Int32), a = nI (a0 + 1 + i) → b = oI (lof lg 9 (nI v) (nI w) x y (some a0) (a0 + 1) i) → s = stv lg a0 (lof lg 9 (nI v) (nI w) x y (some a0) (a0 + 1) i) → a0 + 1 + i + e = E → Ex (d + 2) mX11_setting (28, [(0, .ref 364), (1, .int (nI v)), (2, .int (nI w)), (3, .int x), (4, .int y), (5, .int b), (6, .int s), (7, .int a)], [], G) Q := by
    intro e
    induction e with
    | zero =>
      intro i a b s ha hb hs0 hi
      subst ha hb hs0
      (repeat (first | refine Ex.go rfl rfl ?_ | refine Ex.gf rfl rfl (by assumption) (by rfl) (by first | rfl | assumption) ?_))
      refine Ex.br (fun hc => ?_) (fun hc => ?_)
      · rw [show E - (a0 + 1) = i by omega] at k
        (repeat (first | refine Ex.go rfl rfl ?_ | refine Ex.gf rfl rfl (by assumption) (by rfl) (by first | rfl | assumption) ?_))
        refine Ex.ret rfl rfl rfl ?_
        exact k
      · exact absurd (nI_le (show E ≤ a0 + 1 + i by omega) (by omega)) hc
    | succ e ih =>
      intro i a b s ha hb hs0 hi
      subst ha hb hs0
      have hs : ∀ k, lof lg 9 (nI v) (nI w) x y (some a0) (a0 + 1) i = some k → k < 6000 := fun k hk => by have := lof_lt (B := E) (fun k hk => by cases hk; exact ha2) (by omega) hk; omega
      (repeat (first | refine Ex.go rfl rfl ?_ | refine Ex.gf rfl rfl (by assumption) (by rfl) (by first | rfl | assumption) ?_))
      refine Ex.br (fun hc => ?_) (fun hc => ?_)
      · have := (n_ge (a := a0 + 1 + i) (b := E) (by omega) (by omega)).mp hc
        omega
      (repeat (first | refine Ex.go rfl rfl ?_ | refine Ex.gf rfl rfl (by assumption) (by rfl) (by first | rfl | assumption) ?_))
      refine Ex.cv4 rfl rfl rfl (by assumption) (by rfl) (by decide) rfl ?_
      refine r_isOf h (by omega) ?_
      (repeat (first | refine Ex.go rfl rfl ?_ | refine Ex.gf rfl rfl (by assumption) (by rfl) (by first | rfl | assumption) ?_))
      refine Ex.brz (fun h1 => ?_) (fun h1 => ?_); rotate_left
      · have e1 : lof lg 9 (nI v) (nI w) x y (some a0) (a0 + 1) (i + 1) = lof lg 9 (nI v) (nI w) x y (some a0) (a0 + 1) i := if_neg fun z => h1 z.1.1
        (repeat (first | exact ih (i + 1) _ _ _ (nI_1 (a0 + 1 + i)) (by rw [e1]) (by rw [e1]) (by omega) | refine Ex.go rfl rfl ?_ | refine Ex.gf rfl rfl (by assumption) (by rfl) (by first | rfl | assumption) ?_))
      (repeat (first | refine Ex.go rfl rfl ?_ | refine Ex.gf rfl rfl (by assumption) (by rfl) (by first | rfl | assumption) ?_))
      refine Ex.cv3 rfl rfl rfl (by assumption) (by rfl) (by decide) rfl ?_
      refine r_stands h (by omega) ?_
      (repeat (first | refine Ex.go rfl rfl ?_ | refine Ex.gf rfl rfl (by assumption) (by rfl) (by first | rfl | assumption) ?_))
      refine Ex.brz (fun h2 => ?_) (fun h2 => ?_); rotate_left
      · have e1 : lof lg 9 (nI v) (nI w) x y (some a0) (a0 + 1) (i + 1) = lof lg 9 (nI v) (nI w) x y (some a0) (a0 + 1) i := if_neg fun z => h2 z.1.2
        (repeat (first | exact ih (i + 1) _ _ _ (nI_1 (a0 + 1 + i)) (by rw [e1]) (by rw [e1]) (by omega) | refine Ex.go rfl rfl ?_ | refine Ex.gf rfl rfl (by assumption) (by rfl) (by first | rfl | assumption) ?_))
      (repeat (first | refine Ex.go rfl rfl ?_ | refine Ex.gf rfl rfl (by assumption) (by rfl) (by first | rfl | assumption) ?_))
      refine Ex.cv2 rfl rfl rfl (by assumption) (by rfl) (by decide) rfl ?_
      refine r_isLater h (by omega) hs ?_
      (repeat (first | refine Ex.go rfl rfl ?_ | refine Ex.gf rfl rfl (by assumption) (by rfl) (by first | rfl | assumption) ?_))
      refine Ex.brz (fun h3 => ?_) (fun h3 => ?_); rotate_left
      · have e1 : lof lg 9 (nI v) (nI w) x y (some a0) (a0 + 1) (i + 1) = lof lg 9 (nI v) (nI w) x y (some a0) (a0 + 1) i := if_neg fun z => h3 z.2
        (repeat (first | exact ih (i + 1) _ _ _ (nI_1 (a0 + 1 + i)) (by rw [e1]) (by rw [e1]) (by omega) | refine Ex.go rfl rfl ?_ | refine Ex.gf rfl rfl (by assumption) (by rfl) (by first | rfl | assumption) ?_))
      have e1 : lof lg 9 (nI v) (nI w) x y (some a0) (a0 + 1) (i + 1) = some (a0 + 1 + i) := if_pos ⟨⟨h1, h2⟩, h3⟩
      (repeat (first | refine Ex.go rfl rfl ?_ | refine Ex.gf rfl rfl (by assumption) (by rfl) (by first | rfl | assumption) ?_))
      refine Ex.cv2 rfl rfl rfl (by assumption) (by rfl) (by decide) rfl ?_
      refine r_number (j := 2) h (by omega) (by omega) ?_
      (repeat (first | exact ih (i + 1) _ _ _ (nI_1 (a0 + 1 + i)) (by rw [e1]; rfl) (by rw [e1, stv_s (by omega)]; rfl) (by omega) | refine Ex.go rfl rfl ?_ | refine Ex.gf rfl rfl (by assumption) (by rfl) (by first | rfl | assumption) ?_))
  (repeat (first | refine Ex.go rfl rfl ?_ | refine Ex.gf rfl rfl (by assumption) (by rfl) (by first | rfl | assumption) ?_))
  refine Ex.cv2 rfl rfl rfl (by assumption) (by rfl) (by decide) rfl ?_
  refine r_number (j := 1) h (by omega) (by omega) ?_
  (repeat (first | exact loop (E - (a0 + 1)) 0 _ _ _ (nI_1 a0) rfl stv_0.symm (by omega) | refine Ex.go rfl rfl ?_ | refine Ex.gf rfl rfl (by assumption) (by rfl) (by first | rfl | assumption) ?_))
theorem r_settings {v : Nat} {b x y : Int32} (h : RD G fs lg E td VS pt vl pp va pa wa nn) (hI : RI lg E VS pt vl pp va pa wa) (hv : v < VS) (k : Q (some (.int (setgs lg E v b x y (wsl lg E v).length))) G) : Cx (d + 3) mX11_settings [.ref 364, .int (nI v), .int b, .int x, .int y] G Q := by
  have h' := h
  obtain ⟨⟨g0, g1, g2, g3, g4, g5, g6, g7, g8, g9, g10, -⟩, ⟨h0, h1, h2, h3, h4, h5, h6, -⟩, hE, hV⟩ := h
  have h := h'
  have hw3 := hI.hw v hv
  refine Cx.body rfl rfl ?_
  have loop : ∀ (e i : Nat) (a s : Int32), a = nI i → s = setgs lg E v b x y i → i + e = (wsl lg E v).length → Ex (d + 3) mX11_settings (6, [(0, .ref 364), (1, .int (nI v)), (2, .int b), (3, .int x), (4, .int y), (5, .int s), (6, .int a)], [], G) Q := by
    intro e
    induction e with
    | zero =>
      intro i a s ha hs hi
      subst ha hs
      rw [show (wsl lg E v).length = i by omega] at k
      (repeat (first | refine Ex.go rfl rfl ?_ | refine Ex.gf rfl rfl (by assumption) (by rfl) (by first | rfl | assumption) ?_))
      refine Ex.ialN rfl (j := v) rfl (by assumption) (by omega) (by omega) ?_
      rw [hw3.1]
      (repeat (first | refine Ex.go rfl rfl ?_ | refine Ex.gf rfl rfl (by assumption) (by rfl) (by first | rfl | assumption) ?_))
      refine Ex.br (fun hc => ?_) (fun hc => ?_)
      · (repeat (first | refine Ex.go rfl rfl ?_ | refine Ex.gf rfl rfl (by assumption) (by rfl) (by first | rfl | assumption) ?_))
        refine Ex.ret rfl rfl rfl ?_
        exact k
      · exact absurd (nI_le (show (wsl lg E v).length ≤ i by omega) (by omega)) hc
    | succ e ih =>
      intro i a s ha hs hi
      subst ha hs
      (repeat (first | refine Ex.go rfl rfl ?_ | refine Ex.gf rfl rfl (by assumption) (by rfl) (by first | rfl | assumption) ?_))
      refine Ex.ialN rfl (j := v) rfl (by assumption) (by omega) (by omega) ?_
      rw [hw3.1]
      (repeat (first | refine Ex.go rfl rfl ?_ | refine Ex.gf rfl rfl (by assumption) (by rfl) (by first | rfl | assumption) ?_))
      refine Ex.br (fun hc => ?_) (fun hc => ?_)
      · have := (n_ge (a := i) (b := (wsl lg E v).length) (by omega) (by omega)).mp hc
        omega
      (repeat (first | refine Ex.go rfl rfl ?_ | refine Ex.gf rfl rfl (by assumption) (by rfl) (by first | rfl | assumption) ?_))
      refine Ex.cv4 rfl rfl rfl (by assumption) (by rfl) (by decide) rfl ?_
      refine r_isValve h hI hv (by omega) ?_
      (repeat (first | refine Ex.go rfl rfl ?_ | refine Ex.gf rfl rfl (by assumption) (by rfl) (by first | rfl | assumption) ?_))
      refine Ex.brz (fun h1 => ?_) (fun h1 => ?_); rotate_left
      · have e1 : setgs lg E v b x y (i + 1) = setgs lg E v b x y i := if_neg fun z => h1 z.1
        (repeat (first | exact ih (i + 1) _ _ (nI_1 i) (by rw [e1]) (by omega) | refine Ex.go rfl rfl ?_ | refine Ex.gf rfl rfl (by assumption) (by rfl) (by first | rfl | assumption) ?_))
      (repeat (first | refine Ex.go rfl rfl ?_ | refine Ex.gf rfl rfl (by assumption) (by rfl) (by first | rfl | assumption) ?_))
      refine Ex.cv4 rfl rfl rfl (by assumption) (by rfl) (by decide) rfl ?_
      refine r_setting h hI hv (by omega) ?_
      (repeat (first | refine Ex.go rfl rfl ?_ | refine Ex.gf rfl rfl (by assumption) (by rfl) (by first | rfl | assumption) ?_))
      refine Ex.br (fun h2 => ?_) (fun h2 => ?_)
      · have e1 : setgs lg E v b x y (i + 1) = setg lg E v i x y := if_pos ⟨h1, Or.inl h2⟩
        (repeat (first | exact ih (i + 1) _ _ (nI_1 i) (by rw [e1]) (by omega) | refine Ex.go rfl rfl ?_ | refine Ex.gf rfl rfl (by assumption) (by rfl) (by first | rfl | assumption) ?_))
      (repeat (first | refine Ex.go rfl rfl ?_ | refine Ex.gf rfl rfl (by assumption) (by rfl) (by first | rfl | assumption) ?_))
      refine Ex.br (fun h3 => ?_) (fun h3 => ?_)
      · (repeat (first | refine Ex.go rfl rfl ?_ | refine Ex.gf rfl rfl (by assumption) (by rfl) (by first | rfl | assumption) ?_))
        refine Ex.br (fun h4 => ?_) (fun h4 => ?_)
        · have e1 : setgs lg E v b x y (i + 1) = setgs lg E v b x y i := if_neg fun z => z.2.elim h2 fun q => q.elim (fun r => r.1 h3) (fun r => absurd r.2 (Int32.not_lt.mpr h4))
          (repeat (first | exact ih (i + 1) _ _ (nI_1 i) (by rw [e1]) (by omega) | refine Ex.go rfl rfl ?_ | refine Ex.gf rfl rfl (by assumption) (by rfl) (by first | rfl | assumption) ?_))
        · have e1 : setgs lg E v b x y (i + 1) = setg lg E v i x y := if_pos ⟨h1, Or.inr (Or.inr ⟨h3, Int32.not_le.mp h4⟩)⟩
          (repeat (first | exact ih (i + 1) _ _ (nI_1 i) (by rw [e1]) (by omega) | refine Ex.go rfl rfl ?_ | refine Ex.gf rfl rfl (by assumption) (by rfl) (by first | rfl | assumption) ?_))
      · (repeat (first | refine Ex.go rfl rfl ?_ | refine Ex.gf rfl rfl (by assumption) (by rfl) (by first | rfl | assumption) ?_))
        refine Ex.br (fun h4 => ?_) (fun h4 => ?_)
        · have e1 : setgs lg E v b x y (i + 1) = setgs lg E v b x y i := if_neg fun z => z.2.elim h2 fun q => q.elim (fun r => absurd r.2 (Int32.not_lt.mpr h4)) (fun r => h3 r.1)
          (repeat (first | exact ih (i + 1) _ _ (nI_1 i) (by rw [e1]) (by omega) | refine Ex.go rfl rfl ?_ | refine Ex.gf rfl rfl (by assumption) (by rfl) (by first | rfl | assumption) ?_))
        · have e1 : setgs lg E v b x y (i + 1) = setg lg E v i x y := if_pos ⟨h1, Or.inr (Or.inl ⟨h3, Int32.not_le.mp h4⟩)⟩
          (repeat (first | exact ih (i + 1) _ _ (nI_1 i) (by rw [e1]) (by omega) | refine Ex.go rfl rfl ?_ | refine Ex.gf rfl rfl (by assumption) (by rfl) (by first | rfl | assumption) ?_))
  (repeat (first | exact loop (wsl lg E v).length 0 _ _ rfl rfl (by omega) | refine Ex.go rfl rfl ?_ | refine Ex.gf rfl rfl (by assumption) (by rfl) (by first | rfl | assumption) ?_))
theorem r_passed {v : Nat} {x y : Int32} (h : RD G fs lg E td VS pt vl pp va pa wa nn) (hI : RI lg E VS pt vl pp va pa wa) (hv : v < VS) (k : Q (some (.int (pssd lg E v x y (wsl lg E v).length))) G) : Cx (d + 3) mX11_passed [.ref 364, .int (nI v), .int x, .int y] G Q := by
  have h' := h
  obtain ⟨⟨g0, g1, g2, g3, g4, g5, g6, g7, g8, g9, g10, -⟩, ⟨h0, h1, h2, h3, h4, h5, h6, -⟩, hE, hV⟩ := h
  have h := h'
  have hw3 := hI.hw v hv
  refine Cx.body rfl rfl ?_
  have loop : ∀ (e i : Nat) (a s : Int32), a = nI i → s = pssd lg E v x y i → i + e = (wsl lg E v).length → Ex (d + 3) mX11_passed (6, [(0, .ref 364), (1, .int (nI v)), (2, .int x), (3, .int y), (4, .int s), (5, .int a)], [], G) Q := by
    intro e
    induction e with
    | zero =>
      intro i a s ha hs hi
      subst ha hs
      rw [show (wsl lg E v).length = i by omega] at k
      (repeat (first | refine Ex.go rfl rfl ?_ | refine Ex.gf rfl rfl (by assumption) (by rfl) (by first | rfl | assumption) ?_))
      refine Ex.ialN rfl (j := v) rfl (by assumption) (by omega) (by omega) ?_
      rw [hw3.1]
      (repeat (first | refine Ex.go rfl rfl ?_ | refine Ex.gf rfl rfl (by assumption) (by rfl) (by first | rfl | assumption) ?_))
      refine Ex.br (fun hc => ?_) (fun hc => ?_)
      · (repeat (first | refine Ex.go rfl rfl ?_ | refine Ex.gf rfl rfl (by assumption) (by rfl) (by first | rfl | assumption) ?_))
        refine Ex.ret rfl rfl rfl ?_
        exact k
      · exact absurd (nI_le (show (wsl lg E v).length ≤ i by omega) (by omega)) hc
    | succ e ih =>
      intro i a s ha hs hi
      subst ha hs
      have hw2 := wat_lt (show i < (wsl lg E v).length by omega)
      (repeat (first | refine Ex.go rfl rfl ?_ | refine Ex.gf rfl rfl (by assumption) (by rfl) (by first | rfl | assumption) ?_))
      refine Ex.ialN rfl (j := v) rfl (by assumption) (by omega) (by omega) ?_
      rw [hw3.1]
      (repeat (first | refine Ex.go rfl rfl ?_ | refine Ex.gf rfl rfl (by assumption) (by rfl) (by first | rfl | assumption) ?_))
      refine Ex.br (fun hc => ?_) (fun hc => ?_)
      · have := (n_ge (a := i) (b := (wsl lg E v).length) (by omega) (by omega)).mp hc
        omega
      (repeat (first | refine Ex.go rfl rfl ?_ | refine Ex.gf rfl rfl (by assumption) (by rfl) (by first | rfl | assumption) ?_))
      refine Ex.cv4 rfl rfl rfl (by assumption) (by rfl) (by decide) rfl ?_
      refine r_isValve h hI hv (by omega) ?_
      (repeat (first | refine Ex.go rfl rfl ?_ | refine Ex.gf rfl rfl (by assumption) (by rfl) (by first | rfl | assumption) ?_))
      refine Ex.brz (fun h1 => ?_) (fun h1 => ?_); rotate_left
      · have e1 : pssd lg E v x y (i + 1) = pssd lg E v x y i + 0 := congrArg _ (if_neg h1)
        (repeat (first | exact ih (i + 1) _ _ (nI_1 i) (by rw [e1]; rfl) (by omega) | refine Ex.go rfl rfl ?_ | refine Ex.gf rfl rfl (by assumption) (by rfl) (by first | rfl | assumption) ?_))
      (repeat (first | refine Ex.go rfl rfl ?_ | refine Ex.gf rfl rfl (by assumption) (by rfl) (by first | rfl | assumption) ?_))
      refine Ex.ialN rfl (show nI 6 * nI v + nI i = nI (6 * v + i) by rw [pk_mul, nI_add]) (by assumption) (by omega) (by omega) ?_
      rw [hI.hwa v i hv (by omega)]
      (repeat (first | refine Ex.go rfl rfl ?_ | refine Ex.gf rfl rfl (by assumption) (by rfl) (by first | rfl | assumption) ?_))
      refine Ex.cv2 rfl rfl rfl (by assumption) (by rfl) (by decide) rfl ?_
      refine r_number (j := 2) h (by omega) (by omega) ?_
      have e1 : pssd lg E v x y (i + 1) = pssd lg E v x y i + num lg (wat lg E v i) 2 := congrArg _ (if_pos h1)
      (repeat (first | exact ih (i + 1) _ _ (nI_1 i) (by rw [e1]; rfl) (by omega) | refine Ex.go rfl rfl ?_ | refine Ex.gf rfl rfl (by assumption) (by rfl) (by first | rfl | assumption) ?_))
  (repeat (first | exact loop (wsl lg E v).length 0 _ _ rfl rfl (by omega) | refine Ex.go rfl rfl ?_ | refine Ex.gf rfl rfl (by assumption) (by rfl) (by first | rfl | assumption) ?_))
theorem r_tubes {v : Nat} {b x y : Int32} (h : RD G fs lg E td VS pt vl pp va pa wa nn) (hI : RI lg E VS pt vl pp va pa wa) (hv : v < VS) (k : Q (some (.int (tubs lg E v b x y 25 0 0))) G) : Cx (d + 4) mX11_tubes [.ref 364, .int (nI v), .int b, .int x, .int y] G Q := by
  have g0 := h.1.1
  have hp3 := (hI.hp v hv).2
  have hV := h.2.2.2
  have ev : (nI v).toNatClampNeg = v := nI_clamp (by omega)
  refine Cx.body rfl rfl ?_
  have loop : ∀ (e i : Nat) (a s : Int32), a = nI i → i + e = 25 → Q (some (.int (tubs lg E v b x y e i s))) G → Ex (d + 4) mX11_tubes (6, [(0, .ref 364), (1, .int (nI v)), (2, .int b), (3, .int x), (4, .int y), (5, .int s), (6, .int a)], [], G) Q := by
    intro e
    induction e with
    | zero =>
      intro i a s ha hi k
      subst ha
      (repeat (first | refine Ex.go rfl rfl ?_ | refine Ex.gf rfl rfl (by assumption) (by rfl) (by first | rfl | assumption) ?_))
      refine Ex.cv4 rfl rfl rfl (by assumption) (by rfl) (by decide) rfl ?_
      refine r_isKnownPart h hI (fun P1 d1 i1 => ?_)
      (repeat (first | refine Ex.go rfl rfl ?_ | refine Ex.gf rfl rfl (by assumption) (by rfl) (by first | rfl | assumption) ?_))
      refine Ex.brz (fun c1 => ?_) (fun c1 => ?_); rotate_left
      · (repeat (first | refine Ex.go rfl rfl ?_ | refine Ex.gf rfl rfl (by assumption) (by rfl) (by first | rfl | assumption) ?_))
        refine Ex.ret rfl rfl rfl ?_
        exact k
      · have := (i1.mp c1).2.1.2
        rw [ev, nI_toInt (by omega)] at this
        omega
    | succ e ih =>
      intro i a s ha hi k
      subst ha
      unfold tubs at k
      (repeat (first | refine Ex.go rfl rfl ?_ | refine Ex.gf rfl rfl (by assumption) (by rfl) (by first | rfl | assumption) ?_))
      refine Ex.cv4 rfl rfl rfl (by assumption) (by rfl) (by decide) rfl ?_
      refine r_isKnownPart h hI (fun P1 d1 i1 => ?_)
      (repeat (first | refine Ex.go rfl rfl ?_ | refine Ex.gf rfl rfl (by assumption) (by rfl) (by first | rfl | assumption) ?_))
      refine Ex.brz (fun c1 => ?_) (fun c1 => ?_); rotate_left
      · rw [if_neg fun z => c1 (i1.mpr z)] at k
        (repeat (first | refine Ex.go rfl rfl ?_ | refine Ex.gf rfl rfl (by assumption) (by rfl) (by first | rfl | assumption) ?_))
        refine Ex.ret rfl rfl rfl ?_
        exact k
      have c2 := (i1.mp c1)
      have c3 := c2.2.1.2
      rw [ev, nI_toInt (by omega)] at c3
      rw [if_pos c2] at k
      (repeat (first | refine Ex.go rfl rfl ?_ | refine Ex.gf rfl rfl (by assumption) (by rfl) (by first | rfl | assumption) ?_))
      refine Ex.cv2 rfl rfl rfl (by assumption) (by rfl) (by decide) rfl ?_
      refine r_kindOf h hI hv (by omega) ?_
      (repeat (first | refine Ex.go rfl rfl ?_ | refine Ex.gf rfl rfl (by assumption) (by rfl) (by first | rfl | assumption) ?_))
      refine Ex.br (fun h2 => ?_) (fun h2 => ?_)
      · rw [if_neg (show ¬ num lg (pat lg E v i) 1 = 2 from h2)] at k
        (repeat (first | exact ih (i + 1) _ _ (nI_1 i) (by omega) k | refine Ex.go rfl rfl ?_ | refine Ex.gf rfl rfl (by assumption) (by rfl) (by first | rfl | assumption) ?_))
      rw [if_pos (show num lg (pat lg E v i) 1 = 2 from Decidable.not_not.mp h2)] at k
      (repeat (first | refine Ex.go rfl rfl ?_ | refine Ex.gf rfl rfl (by assumption) (by rfl) (by first | rfl | assumption) ?_))
      refine Ex.br (fun h3 => ?_) (fun h3 => ?_)
      · rw [if_pos h3] at k
        (repeat (first | refine Ex.go rfl rfl ?_ | refine Ex.gf rfl rfl (by assumption) (by rfl) (by first | rfl | assumption) ?_))
        refine Ex.cv3 rfl rfl rfl (by assumption) (by rfl) (by decide) rfl ?_
        refine r_many h ?_
        (repeat (first | exact ih (i + 1) _ _ (nI_1 i) (by omega) k | refine Ex.go rfl rfl ?_ | refine Ex.gf rfl rfl (by assumption) (by rfl) (by first | rfl | assumption) ?_))
      · rw [if_neg h3] at k
        (repeat (first | refine Ex.go rfl rfl ?_ | refine Ex.gf rfl rfl (by assumption) (by rfl) (by first | rfl | assumption) ?_))
        refine Ex.cv4 rfl rfl rfl (by assumption) (by rfl) (by decide) rfl ?_
        refine r_plugged h ?_
        (repeat (first | exact ih (i + 1) _ _ (nI_1 i) (by omega) k | refine Ex.go rfl rfl ?_ | refine Ex.gf rfl rfl (by assumption) (by rfl) (by first | rfl | assumption) ?_))
  (repeat (first | exact loop 25 0 _ _ rfl (by omega) k | refine Ex.go rfl rfl ?_ | refine Ex.gf rfl rfl (by assumption) (by rfl) (by first | rfl | assumption) ?_))
end RR
