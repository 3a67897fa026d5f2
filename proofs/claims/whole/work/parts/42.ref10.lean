/-! The reference's answers: bears, thick, due. -/
section RR
variable {d : Nat} {G : bo_G} {Q : Option Value → bo_G → Prop} {fs : List Value} {lg : Nat → Int32} {E : Nat} {td : Int32} {VS : Nat} {pt vl pp va pa wa nn : Nat → Int32}
theorem kn_nat {v p x y : Int32} (hI : RI lg E VS pt vl pp va pa wa) (h : knP lg E v p x y) : ∃ v' p' : Nat, v = nI v' ∧ p = nI p' ∧ v.toNatClampNeg = v' ∧ p.toNatClampNeg = p' ∧ v' < VS ∧ p' < (psl lg E v').length ∧ rng x 0 40000 := by
  obtain ⟨e1, e2, e3⟩ := nI_iof h.1.2.2.1.1
  obtain ⟨f1, f2, f3⟩ := nI_iof h.2.1.1
  exact ⟨_, _, e1, f1, rfl, rfl, by have := h.1.2.2.1.2; have := hI.hv; omega, by have := h.2.1.2; omega, h.1.1⟩
def bersZ (lg : Nat → Int32) (E : Nat) (v p x y : Int32) : Int := if knP lg E v p x y then brZ lg E v.toNatClampNeg p.toNatClampNeg x y else -1
theorem r_bears {v p x y : Int32} (h : RD G fs lg E td VS pt vl pp va pa wa nn) (hI : RI lg E VS pt vl pp va pa wa) (hW : ∀ j, j < E → wfE lg j) (hL : fs.length = 32) (k : ∀ r G' f, RD G' f lg E td VS pt vl pp va pa wa nn → SG G fs G' f → r.toInt = bersZ lg E v p x y → Q (some (.int r)) G') : Cx (d + 6) mX11_bears [.ref 364, .int v, .int p, .int x, .int y] G Q := by
  have g0 := h.1.1
  have S0 := SG.rfl' h hL
  unfold bersZ at k
  refine Cx.body rfl rfl ?_
  (repeat (first | refine Ex.go rfl rfl ?_ | refine Ex.gf rfl rfl (by assumption) (by rfl) (by first | rfl | assumption) ?_))
  refine Ex.cv4 rfl rfl rfl (by assumption) (by rfl) (by decide) rfl ?_
  refine r_isKnownPart h hI (fun P1 d1 i1 => ?_)
  (repeat (first | refine Ex.go rfl rfl ?_ | refine Ex.gf rfl rfl (by assumption) (by rfl) (by first | rfl | assumption) ?_))
  refine Ex.brz (fun c1 => ?_) (fun c1 => ?_); rotate_left
  · have k := k (-1) G fs h S0 (by rw [if_neg (fun z => c1 (i1.mpr z))]; rfl)
    (repeat (first | refine Ex.go rfl rfl ?_ | refine Ex.gf rfl rfl (by assumption) (by rfl) (by first | rfl | assumption) ?_))
    refine Ex.ret rfl rfl rfl ?_
    exact k
  have c2 := i1.mp c1
  rw [if_pos c2] at k
  obtain ⟨v', p', e1, e2, e3, e4, hv, hp, hx⟩ := kn_nat hI c2
  rw [e3, e4] at k
  subst e1 e2
  (repeat (first | refine Ex.go rfl rfl ?_ | refine Ex.gf rfl rfl (by assumption) (by rfl) (by first | rfl | assumption) ?_))
  refine Ex.cv4 rfl rfl rfl (by assumption) (by rfl) (by decide) rfl ?_
  refine r_borne h hI hW hL hv hp hx (fun r G1 f R1 S1 hr => ?_)
  (repeat (first | refine Ex.go rfl rfl ?_ | refine Ex.gf rfl rfl (by assumption) (by rfl) (by first | rfl | assumption) ?_))
  refine Ex.ret rfl rfl rfl ?_
  exact k r G1 f R1 S1 hr
def thckZ (lg : Nat → Int32) (E : Nat) (v p s x y : Int32) : Int := if knP lg E v p x y ∧ (0 ≤ s.toInt ∧ s.toInt < (sho lg E v p y 2 1).toInt) then thk lg E v.toNatClampNeg p.toNatClampNeg s.toNatClampNeg x y else -1
theorem r_thick {v p s x y : Int32} (h : RD G fs lg E td VS pt vl pp va pa wa nn) (hI : RI lg E VS pt vl pp va pa wa) (hW : ∀ j, j < E → wfE lg j) (hL : fs.length = 32) (k : ∀ r G' f, RD G' f lg E td VS pt vl pp va pa wa nn → SG G fs G' f → r.toInt = thckZ lg E v p s x y → Q (some (.int r)) G') : Cx (d + 5) mX11_thick [.ref 364, .int v, .int p, .int s, .int x, .int y] G Q := by
  have g0 := h.1.1
  have S0 := SG.rfl' h hL
  have hsr := spots_rng (y := y) hW (v := v) (p := p)
  unfold thckZ at k
  refine Cx.body rfl rfl ?_
  (repeat (first | refine Ex.go rfl rfl ?_ | refine Ex.gf rfl rfl (by assumption) (by rfl) (by first | rfl | assumption) ?_))
  refine Ex.cv4 rfl rfl rfl (by assumption) (by rfl) (by decide) rfl ?_
  refine r_isKnownPart h hI (fun P1 d1 i1 => ?_)
  (repeat (first | refine Ex.go rfl rfl ?_ | refine Ex.gf rfl rfl (by assumption) (by rfl) (by first | rfl | assumption) ?_))
  refine Ex.brz (fun c1 => ?_) (fun c1 => ?_); rotate_left
  · have k := k (-1) G fs h S0 (by rw [if_neg (fun z => c1 (i1.mpr z.1))]; rfl)
    (repeat (first | refine Ex.go rfl rfl ?_ | refine Ex.gf rfl rfl (by assumption) (by rfl) (by first | rfl | assumption) ?_))
    refine Ex.ret rfl rfl rfl ?_
    exact k
  have c2 := i1.mp c1
  (repeat (first | refine Ex.go rfl rfl ?_ | refine Ex.gf rfl rfl (by assumption) (by rfl) (by first | rfl | assumption) ?_))
  refine Ex.cv3 rfl rfl rfl (by assumption) (by rfl) (by decide) rfl ?_
  refine r_spots h ?_
  (repeat (first | refine Ex.go rfl rfl ?_ | refine Ex.gf rfl rfl (by assumption) (by rfl) (by first | rfl | assumption) ?_))
  refine Ex.cs3 rfl rfl rfl rfl rfl rfl ?_
  refine r_inP (lo := 0) (hi := (sho lg E v p y 2 1).toInt - 1) rfl (l_of (z_sub rfl rfl (by have := hsr.1; have := hsr.2; omega))) (fun P2 d2 i2 => ?_)
  (repeat (first | refine Ex.go rfl rfl ?_ | refine Ex.gf rfl rfl (by assumption) (by rfl) (by first | rfl | assumption) ?_))
  refine Ex.brn (fun c3 => ?_) (fun c3 => ?_); rotate_left
  · have k := k (-1) G fs h S0 (by rw [if_neg (fun z => c3 (i2.mpr ⟨z.2.1, by have := z.2.2; omega⟩))]; rfl)
    (repeat (first | refine Ex.go rfl rfl ?_ | refine Ex.gf rfl rfl (by assumption) (by rfl) (by first | rfl | assumption) ?_))
    refine Ex.ret rfl rfl rfl ?_
    exact k
  have c4 := i2.mp c3
  have c5 : 0 ≤ s.toInt ∧ s.toInt < (sho lg E v p y 2 1).toInt := ⟨c4.1, by have := c4.2; omega⟩
  rw [if_pos ⟨c2, c5⟩] at k
  obtain ⟨v', p', e1, e2, e3, e4, hv, hp, hx⟩ := kn_nat hI c2
  obtain ⟨f1, f2, f3⟩ := nI_iof c5.1
  have hs : s.toNatClampNeg < 12 := by have := hsr.2; omega
  rw [e3, e4] at k
  generalize s.toNatClampNeg = s' at f1 f2 f3 hs k
  subst e1 e2 f1
  (repeat (first | refine Ex.go rfl rfl ?_ | refine Ex.gf rfl rfl (by assumption) (by rfl) (by first | rfl | assumption) ?_))
  refine Ex.cv5 rfl rfl rfl (by assumption) (by rfl) (by decide) rfl ?_
  refine r_thickness h hI hL hv hp hs (rwB_of hW hp hs) hx (fun r G1 f R1 S1 hr => ?_)
  (repeat (first | refine Ex.go rfl rfl ?_ | refine Ex.gf rfl rfl (by assumption) (by rfl) (by first | rfl | assumption) ?_))
  refine Ex.ret rfl rfl rfl ?_
  exact k r G1 f R1 S1 hr
end RR
