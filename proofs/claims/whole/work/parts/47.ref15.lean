/-! The reference's answers: may, until, when, check. -/
theorem k40 : (40000 : Int32).toInt = 40000 := by decide +kernel
def mayI (lg : Nat → Int32) (E : Nat) (v x y : Int32) : Int32 := if whyI lg E v x y < 0 then -1 else if 0 < whyI lg E v x y then 0 else setgs lg E v.toNatClampNeg 1 x y (wsl lg E v.toNatClampNeg).length
def untN (lg : Nat → Int32) (E : Nat) (v y : Int32) : Nat → Int32 → Int32
  | 0, x => x
  | e + 1, x => if rsnI lg E v (x + 1) y = 0 then untN lg E v y e (x + 1) else x
def untI (lg : Nat → Int32) (E : Nat) (v x y : Int32) : Int32 := if whyI lg E v x y = 0 then untN lg E v y (min 400 (40000 - x.toNatClampNeg)) x else -1
def whnN (lg : Nat → Int32) (E v p : Nat) (y : Int32) : Nat → Int32 → Int32
  | 0, _ => -1
  | e + 1, x => if brZ lg E v p x y < (setgs lg E v 0 x y (wsl lg E v).length).toInt then x else whnN lg E v p y e (x + 1)
def whnI (lg : Nat → Int32) (E : Nat) (v p x y : Int32) : Int32 := if knP lg E v p x y then whnN lg E v.toNatClampNeg p.toNatClampNeg y (min 400 (40000 - x.toNatClampNeg) + 1) x else -1
def chkI (lg : Nat → Int32) (E : Nat) (v x y pr la : Int32) : Int32 := if whyI lg E v x y < 0 then -1 else if ¬ mayI lg E v x y = pr then 1 else if ¬ untI lg E v x y = la then 2 else 0
theorem why_in {lg : Nat → Int32} {E : Nat} {v x y : Int32} (h : ¬ whyI lg E v x y < 0) : (0 ≤ v.toInt ∧ v.toInt < (vsl lg E).length) ∧ (0 ≤ x.toInt ∧ x.toInt ≤ 40000) ∧ (0 ≤ y.toInt ∧ y.toInt ≤ 40000) := by
  unfold whyI at h
  split at h
  · assumption
  · exact absurd (by decide) h
theorem why_neg {lg : Nat → Int32} {E : Nat} {v x y : Int32} (h : ¬ whyI lg E v x y < 0) (h2 : ¬ 0 < whyI lg E v x y) : whyI lg E v x y = 0 := by
  have h3 : ¬ (whyI lg E v x y).toInt < 0 := fun z => h (Int32.lt_iff_toInt_lt.mpr z)
  have h4 : ¬ 0 < (whyI lg E v x y).toInt := fun z => h2 (Int32.lt_iff_toInt_lt.mpr z)
  exact Int32.toInt_inj.mp (show (whyI lg E v x y).toInt = 0 by omega)
section RR
variable {d : Nat} {G : bo_G} {Q : Option Value → bo_G → Prop} {fs : List Value} {lg : Nat → Int32} {E : Nat} {td : Int32} {VS : Nat} {pt vl pp va pa wa nn : Nat → Int32}
theorem r_may {v x y : Int32} (h : RD G fs lg E td VS pt vl pp va pa wa nn) (hI : RI lg E VS pt vl pp va pa wa) (hW : ∀ j, j < E → wfE lg j) (hL : fs.length = 32) (k : ∀ G' f, RD G' f lg E td VS pt vl pp va pa wa nn → SG G fs G' f → Q (some (.int (mayI lg E v x y))) G') : Cx (d + 8) mX11_may [.ref 364, .int v, .int x, .int y] G Q := by
  have g0 := h.1.1
  have hVS := hI.hv
  unfold mayI at k
  refine Cx.body rfl rfl ?_
  (repeat (first | refine Ex.go rfl rfl ?_ | refine Ex.gf rfl rfl (by assumption) (by rfl) (by first | rfl | assumption) ?_))
  refine Ex.cv3 rfl rfl rfl (by assumption) (by rfl) (by decide) rfl ?_
  refine r_why h hI hW hL (fun G1 f R1 S1 => ?_)
  replace k := k G1 f R1 S1
  have q0 := R1.1.1
  (repeat (first | refine Ex.go rfl rfl ?_ | refine Ex.gf rfl rfl (by assumption) (by rfl) (by first | rfl | assumption) ?_))
  refine Ex.br (fun h1 => ?_) (fun h1 => ?_)
  · rw [if_neg (Int32.not_lt.mpr h1)] at k
    (repeat (first | refine Ex.go rfl rfl ?_ | refine Ex.gf rfl rfl (by assumption) (by rfl) (by first | rfl | assumption) ?_))
    refine Ex.br (fun h2 => ?_) (fun h2 => ?_)
    · rw [if_neg (Int32.not_lt.mpr h2)] at k
      have h3 := why_in (Int32.not_lt.mpr h1)
      obtain ⟨e1, e2, e3⟩ := nI_iof h3.1.1
      have hv : v.toNatClampNeg < VS := by omega
      generalize v.toNatClampNeg = v' at e1 e2 e3 hv k
      subst e1
      (repeat (first | refine Ex.go rfl rfl ?_ | refine Ex.gf rfl rfl (by assumption) (by rfl) (by first | rfl | assumption) ?_))
      refine Ex.cv4 rfl rfl rfl (by assumption) (by rfl) (by decide) rfl ?_
      refine r_settings (b := 1) R1 hI hv ?_
      (repeat (first | refine Ex.go rfl rfl ?_ | refine Ex.gf rfl rfl (by assumption) (by rfl) (by first | rfl | assumption) ?_))
      refine Ex.ret rfl rfl rfl ?_
      exact k
    · rw [if_pos (Int32.not_le.mp h2)] at k
      (repeat (first | refine Ex.go rfl rfl ?_ | refine Ex.gf rfl rfl (by assumption) (by rfl) (by first | rfl | assumption) ?_))
      refine Ex.ret rfl rfl rfl ?_
      exact k
  · rw [if_pos (Int32.not_le.mp h1)] at k
    (repeat (first | refine Ex.go rfl rfl ?_ | refine Ex.gf rfl rfl (by assumption) (by rfl) (by first | rfl | assumption) ?_))
    refine Ex.ret rfl rfl rfl ?_
    exact k
theorem r_until {v x y : Int32} (h : RD G fs lg E td VS pt vl pp va pa wa nn) (hI : RI lg E VS pt vl pp va pa wa) (hW : ∀ j, j < E → wfE lg j) (hL : fs.length = 32) (k : ∀ G' f, RD G' f lg E td VS pt vl pp va pa wa nn → SG G fs G' f → Q (some (.int (untI lg E v x y))) G') : Cx (d + 8) mX11_until [.ref 364, .int v, .int x, .int y] G Q := by
  have g0 := h.1.1
  unfold untI at k
  refine Cx.body rfl rfl ?_
  (repeat (first | refine Ex.go rfl rfl ?_ | refine Ex.gf rfl rfl (by assumption) (by rfl) (by first | rfl | assumption) ?_))
  refine Ex.cv3 rfl rfl rfl (by assumption) (by rfl) (by decide) rfl ?_
  refine r_why h hI hW hL (fun G1 f R1 S1 => ?_)
  have q0 := R1.1.1
  (repeat (first | refine Ex.go rfl rfl ?_ | refine Ex.gf rfl rfl (by assumption) (by rfl) (by first | rfl | assumption) ?_))
  refine Ex.br (fun h1 => ?_) (fun h1 => ?_); rotate_left
  · rw [if_neg h1] at k
    have k := k G1 f R1 S1
    (repeat (first | refine Ex.go rfl rfl ?_ | refine Ex.gf rfl rfl (by assumption) (by rfl) (by first | rfl | assumption) ?_))
    refine Ex.ret rfl rfl rfl ?_
    exact k
  rw [if_pos h1] at k
  have h3 := (why_in (by rw [h1]; decide)).2.1
  obtain ⟨e1, e2, e3⟩ := nI_iof h3.1
  have ha : x.toNatClampNeg ≤ 40000 := by omega
  clear h1 h3 e2 e3
  generalize x.toNatClampNeg = a at e1 ha k
  subst e1
  have loop : ∀ (e j : Nat) (b : Int32) (G1 : bo_G) (f : List Value), RD G1 f lg E td VS pt vl pp va pa wa nn → SG G fs G1 f → b = nI (a + j) → j + e = min 400 (40000 - a) → (∀ G' f, RD G' f lg E td VS pt vl pp va pa wa nn → SG G fs G' f → Q (some (.int (untN lg E v y e (nI (a + j))))) G') → Ex (d + 8) mX11_until (15, [(0, .ref 364), (1, .int v), (2, .int (nI a)), (3, .int y), (4, .int b)], [], G1) Q := by
    intro e
    induction e with
    | zero =>
      intro j b G1 f R1 S1 hb hj k
      subst hb
      have q0 := R1.1.1
      have k := k G1 f R1 S1
      (repeat (first | refine Ex.go rfl rfl ?_ | refine Ex.gf rfl rfl (by assumption) (by rfl) (by first | rfl | assumption) ?_))
      refine Ex.br (fun h2 => ?_) (fun h2 => ?_)
      · (repeat (first | refine Ex.go rfl rfl ?_ | refine Ex.gf rfl rfl (by assumption) (by rfl) (by first | rfl | assumption) ?_))
        refine Ex.ret rfl rfl rfl ?_
        exact k
      have h3 : ¬ 40000 ≤ a + j := fun z => h2 (Int32.le_iff_toInt_le.mpr (by rw [k40, nI_toInt (by omega)]; omega))
      (repeat (first | refine Ex.go rfl rfl ?_ | refine Ex.gf rfl rfl (by assumption) (by rfl) (by first | rfl | assumption) ?_))
      refine Ex.br (fun h4 => ?_) (fun h4 => ?_)
      · (repeat (first | refine Ex.go rfl rfl ?_ | refine Ex.gf rfl rfl (by assumption) (by rfl) (by first | rfl | assumption) ?_))
        refine Ex.ret rfl rfl rfl ?_
        exact k
      · exact absurd (show nI a + nI 400 ≤ nI (a + j) by rw [nI_add]; exact nI_le (by omega) (by omega)) h4
    | succ e ih =>
      intro j b G1 f R1 S1 hb hj k
      subst hb
      have q0 := R1.1.1
      unfold untN at k
      (repeat (first | refine Ex.go rfl rfl ?_ | refine Ex.gf rfl rfl (by assumption) (by rfl) (by first | rfl | assumption) ?_))
      refine Ex.br (fun h2 => ?_) (fun h2 => ?_)
      · have h3 := Int32.le_iff_toInt_le.mp h2
        rw [k40, nI_toInt (by omega)] at h3
        omega
      (repeat (first | refine Ex.go rfl rfl ?_ | refine Ex.gf rfl rfl (by assumption) (by rfl) (by first | rfl | assumption) ?_))
      refine Ex.br (fun h4 => ?_) (fun h4 => ?_)
      · have h5 : nI a + nI 400 ≤ nI (a + j) := h4
        rw [nI_add, nI_leI (by omega) (by omega)] at h5
        omega
      (repeat (first | refine Ex.go rfl rfl ?_ | refine Ex.gf rfl rfl (by assumption) (by rfl) (by first | rfl | assumption) ?_))
      refine Ex.cv3 rfl rfl rfl (by assumption) (by rfl) (by decide) rfl ?_
      refine r_reason R1 hI hW (S1.2.2.1.trans hL) (fun G2 f2 R2 S2 => ?_)
      (repeat (first | refine Ex.go rfl rfl ?_ | refine Ex.gf rfl rfl (by assumption) (by rfl) (by first | rfl | assumption) ?_))
      refine Ex.br (fun h6 => ?_) (fun h6 => ?_)
      · rw [if_neg (show ¬ rsnI lg E v (nI (a + j) + 1) y = 0 from h6)] at k
        have k := k G2 f2 R2 (S1.trans S2)
        (repeat (first | refine Ex.go rfl rfl ?_ | refine Ex.gf rfl rfl (by assumption) (by rfl) (by first | rfl | assumption) ?_))
        refine Ex.ret rfl rfl rfl ?_
        exact k
      · rw [if_pos (show rsnI lg E v (nI (a + j) + 1) y = 0 from Decidable.not_not.mp h6), nI_1] at k
        (repeat (first | exact ih (j + 1) _ G2 f2 R2 (S1.trans S2) (nI_1 (a + j)) (by omega) k | refine Ex.go rfl rfl ?_ | refine Ex.gf rfl rfl (by assumption) (by rfl) (by first | rfl | assumption) ?_))
  (repeat (first | exact loop (min 400 (40000 - a)) 0 _ G1 f R1 S1 rfl (by omega) k | refine Ex.go rfl rfl ?_ | refine Ex.gf rfl rfl (by assumption) (by rfl) (by first | rfl | assumption) ?_))
theorem r_when {v p x y : Int32} (h : RD G fs lg E td VS pt vl pp va pa wa nn) (hI : RI lg E VS pt vl pp va pa wa) (hW : ∀ j, j < E → wfE lg j) (hL : fs.length = 32) (k : ∀ G' f, RD G' f lg E td VS pt vl pp va pa wa nn → SG G fs G' f → Q (some (.int (whnI lg E v p x y))) G') : Cx (d + 6) mX11_when [.ref 364, .int v, .int p, .int x, .int y] G Q := by
  have g0 := h.1.1
  have S0 := SG.rfl' h hL
  unfold whnI at k
  refine Cx.body rfl rfl ?_
  (repeat (first | refine Ex.go rfl rfl ?_ | refine Ex.gf rfl rfl (by assumption) (by rfl) (by first | rfl | assumption) ?_))
  refine Ex.cv4 rfl rfl rfl (by assumption) (by rfl) (by decide) rfl ?_
  refine r_isKnownPart h hI (fun P1 d1 i1 => ?_)
  (repeat (first | refine Ex.go rfl rfl ?_ | refine Ex.gf rfl rfl (by assumption) (by rfl) (by first | rfl | assumption) ?_))
  refine Ex.brn (fun c1 => ?_) (fun c1 => ?_); rotate_left
  · rw [if_neg fun z => c1 (i1.mpr z)] at k
    have k := k G fs h S0
    (repeat (first | refine Ex.go rfl rfl ?_ | refine Ex.gf rfl rfl (by assumption) (by rfl) (by first | rfl | assumption) ?_))
    refine Ex.ret rfl rfl rfl ?_
    exact k
  have c2 := i1.mp c1
  rw [if_pos c2] at k
  obtain ⟨v', p', e1, e2, e3, e4, hv, hp, hx⟩ := kn_nat hI c2
  rw [e3, e4] at k
  subst e1 e2
  obtain ⟨e1, e2, e3⟩ := nI_iof hx.1
  have ha : x.toNatClampNeg ≤ 40000 := by have := hx.2; omega
  clear c1 c2 e2 e3 i1
  generalize x.toNatClampNeg = a at e1 ha k
  subst e1
  have loop : ∀ (e j : Nat) (b : Int32) (G1 : bo_G) (f : List Value), RD G1 f lg E td VS pt vl pp va pa wa nn → SG G fs G1 f → b = nI (a + j) → j + e = min 400 (40000 - a) + 1 → (∀ G' f, RD G' f lg E td VS pt vl pp va pa wa nn → SG G fs G' f → Q (some (.int (whnN lg E v' p' y e (nI (a + j))))) G') → Ex (d + 6) mX11_when (17, [(0, .ref 364), (1, .int (nI v')), (2, .int (nI p')), (3, .int (nI a)), (4, .int y), (5, .int b)], [], G1) Q := by
    intro e
    induction e with
    | zero =>
      intro j b G1 f R1 S1 hb hj k
      subst hb
      have q0 := R1.1.1
      have k := k G1 f R1 S1
      (repeat (first | refine Ex.go rfl rfl ?_ | refine Ex.gf rfl rfl (by assumption) (by rfl) (by first | rfl | assumption) ?_))
      refine Ex.br (fun h2 => ?_) (fun h2 => ?_)
      · (repeat (first | refine Ex.go rfl rfl ?_ | refine Ex.gf rfl rfl (by assumption) (by rfl) (by first | rfl | assumption) ?_))
        refine Ex.ret rfl rfl rfl ?_
        exact k
      have h3 : ¬ 40000 < a + j := fun z => h2 (Int32.lt_iff_toInt_lt.mpr (by rw [k40, nI_toInt (by omega)]; omega))
      (repeat (first | refine Ex.go rfl rfl ?_ | refine Ex.gf rfl rfl (by assumption) (by rfl) (by first | rfl | assumption) ?_))
      refine Ex.br (fun h4 => ?_) (fun h4 => ?_)
      · (repeat (first | refine Ex.go rfl rfl ?_ | refine Ex.gf rfl rfl (by assumption) (by rfl) (by first | rfl | assumption) ?_))
        refine Ex.ret rfl rfl rfl ?_
        exact k
      · exact absurd (show nI a + nI 400 < nI (a + j) by rw [nI_add]; exact nI_lt (by omega) (by omega)) h4
    | succ e ih =>
      intro j b G1 f R1 S1 hb hj k
      subst hb
      have q0 := R1.1.1
      unfold whnN at k
      (repeat (first | refine Ex.go rfl rfl ?_ | refine Ex.gf rfl rfl (by assumption) (by rfl) (by first | rfl | assumption) ?_))
      refine Ex.br (fun h2 => ?_) (fun h2 => ?_)
      · have h3 := Int32.lt_iff_toInt_lt.mp h2
        rw [k40, nI_toInt (by omega)] at h3
        omega
      (repeat (first | refine Ex.go rfl rfl ?_ | refine Ex.gf rfl rfl (by assumption) (by rfl) (by first | rfl | assumption) ?_))
      refine Ex.br (fun h4 => ?_) (fun h4 => ?_)
      · have h5 : nI a + nI 400 < nI (a + j) := h4
        rw [nI_add, nI_ltI (by omega) (by omega)] at h5
        omega
      (repeat (first | refine Ex.go rfl rfl ?_ | refine Ex.gf rfl rfl (by assumption) (by rfl) (by first | rfl | assumption) ?_))
      refine Ex.cv4 rfl rfl rfl (by assumption) (by rfl) (by decide) rfl ?_
      refine r_borne R1 hI hW (S1.2.2.1.trans hL) hv hp (by show rng (nI (a + j)) 0 40000; unfold rng; rw [nI_toInt (by omega)]; omega) (fun r G2 f2 R2 S2 hr => ?_)
      rw [← hr] at k
      have q2 := R2.1.1
      (repeat (first | refine Ex.go rfl rfl ?_ | refine Ex.gf rfl rfl (by assumption) (by rfl) (by first | rfl | assumption) ?_))
      refine Ex.cv4 rfl rfl rfl (by assumption) (by rfl) (by decide) rfl ?_
      refine r_settings (b := 0) R2 hI hv ?_
      (repeat (first | refine Ex.go rfl rfl ?_ | refine Ex.gf rfl rfl (by assumption) (by rfl) (by first | rfl | assumption) ?_))
      refine Ex.br (fun h6 => ?_) (fun h6 => ?_)
      · rw [if_neg (Int.not_lt.mpr (Int32.le_iff_toInt_le.mp h6)), nI_1] at k
        (repeat (first | exact ih (j + 1) _ G2 f2 R2 (S1.trans S2) (nI_1 (a + j)) (by omega) k | refine Ex.go rfl rfl ?_ | refine Ex.gf rfl rfl (by assumption) (by rfl) (by first | rfl | assumption) ?_))
      · rw [if_pos (Int.not_le.mp fun z => h6 (Int32.le_iff_toInt_le.mpr z))] at k
        have k := k G2 f2 R2 (S1.trans S2)
        (repeat (first | refine Ex.go rfl rfl ?_ | refine Ex.gf rfl rfl (by assumption) (by rfl) (by first | rfl | assumption) ?_))
        refine Ex.ret rfl rfl rfl ?_
        exact k
  (repeat (first | exact loop (min 400 (40000 - a) + 1) 0 _ G fs h S0 rfl (by omega) k | refine Ex.go rfl rfl ?_ | refine Ex.gf rfl rfl (by assumption) (by rfl) (by first | rfl | assumption) ?_))
theorem r_check {v x y pr la : Int32} (h : RD G fs lg E td VS pt vl pp va pa wa nn) (hI : RI lg E VS pt vl pp va pa wa) (hW : ∀ j, j < E → wfE lg j) (hL : fs.length = 32) (k : ∀ G' f, RD G' f lg E td VS pt vl pp va pa wa nn → SG G fs G' f → Q (some (.int (chkI lg E v x y pr la))) G') : Cx (d + 9) mX11_check [.ref 364, .int v, .int x, .int y, .int pr, .int la] G Q := by
  have g0 := h.1.1
  unfold chkI at k
  refine Cx.body rfl rfl ?_
  (repeat (first | refine Ex.go rfl rfl ?_ | refine Ex.gf rfl rfl (by assumption) (by rfl) (by first | rfl | assumption) ?_))
  refine Ex.cv3 rfl rfl rfl (by assumption) (by rfl) (by decide) rfl ?_
  refine r_may h hI hW hL (fun G1 f R1 S1 => ?_)
  have q0 := R1.1.1
  (repeat (first | refine Ex.go rfl rfl ?_ | refine Ex.gf rfl rfl (by assumption) (by rfl) (by first | rfl | assumption) ?_))
  refine Ex.cv3 rfl rfl rfl (by assumption) (by rfl) (by decide) rfl ?_
  refine r_why R1 hI hW (S1.2.2.1.trans hL) (fun G2 f2 R2 S2 => ?_)
  have q2 := R2.1.1
  (repeat (first | refine Ex.go rfl rfl ?_ | refine Ex.gf rfl rfl (by assumption) (by rfl) (by first | rfl | assumption) ?_))
  refine Ex.br (fun h1 => ?_) (fun h1 => ?_); rotate_left
  · rw [if_pos (Int32.not_le.mp h1)] at k
    have k := k G2 f2 R2 (S1.trans S2)
    (repeat (first | refine Ex.go rfl rfl ?_ | refine Ex.gf rfl rfl (by assumption) (by rfl) (by first | rfl | assumption) ?_))
    refine Ex.ret rfl rfl rfl ?_
    exact k
  rw [if_neg (Int32.not_lt.mpr h1)] at k
  (repeat (first | refine Ex.go rfl rfl ?_ | refine Ex.gf rfl rfl (by assumption) (by rfl) (by first | rfl | assumption) ?_))
  refine Ex.br (fun h3 => ?_) (fun h3 => ?_); rotate_left
  · rw [if_pos h3] at k
    have k := k G2 f2 R2 (S1.trans S2)
    (repeat (first | refine Ex.go rfl rfl ?_ | refine Ex.gf rfl rfl (by assumption) (by rfl) (by first | rfl | assumption) ?_))
    refine Ex.ret rfl rfl rfl ?_
    exact k
  rw [if_neg (fun z => z h3)] at k
  (repeat (first | refine Ex.go rfl rfl ?_ | refine Ex.gf rfl rfl (by assumption) (by rfl) (by first | rfl | assumption) ?_))
  refine Ex.cv3 rfl rfl rfl (by assumption) (by rfl) (by decide) rfl ?_
  refine r_until R2 hI hW ((S1.trans S2).2.2.1.trans hL) (fun G3 f3 R3 S3 => ?_)
  have k := k G3 f3 R3 ((S1.trans S2).trans S3)
  (repeat (first | refine Ex.go rfl rfl ?_ | refine Ex.gf rfl rfl (by assumption) (by rfl) (by first | rfl | assumption) ?_))
  refine Ex.br (fun h4 => ?_) (fun h4 => ?_)
  · rw [if_neg (fun z => z h4)] at k
    (repeat (first | refine Ex.go rfl rfl ?_ | refine Ex.gf rfl rfl (by assumption) (by rfl) (by first | rfl | assumption) ?_))
    refine Ex.ret rfl rfl rfl ?_
    exact k
  · rw [if_pos h4] at k
    (repeat (first | refine Ex.go rfl rfl ?_ | refine Ex.gf rfl rfl (by assumption) (by rfl) (by first | rfl | assumption) ?_))
    refine Ex.ret rfl rfl rfl ?_
    exact k
end RR
