/-! The reference's answers: due, holds, weakest. -/
section RR
variable {d : Nat} {G : bo_G} {Q : Option Value → bo_G → Prop} {fs : List Value} {lg : Nat → Int32} {E : Nat} {td : Int32} {VS : Nat} {pt vl pp va pa wa nn : Nat → Int32}
theorem ask_nat {v x y : Int32} (hI : RI lg E VS pt vl pp va pa wa) (h : askP lg E v x y) : ∃ v' : Nat, v = nI v' ∧ v.toNatClampNeg = v' ∧ v' < VS := by
  obtain ⟨e1, e2, e3⟩ := nI_iof h.2.2.1.1
  exact ⟨_, e1, rfl, by have := h.2.2.1.2; have := hI.hv; omega⟩
def dueI (lg : Nat → Int32) (E : Nat) (v kd x y : Int32) : Int32 := if (0 ≤ kd.toInt ∧ kd.toInt ≤ 2) ∧ askP lg E v x y then duo lg E v.toNatClampNeg kd x y else -1
theorem r_due {v kd x y : Int32} (h : RD G fs lg E td VS pt vl pp va pa wa nn) (hI : RI lg E VS pt vl pp va pa wa) (k : Q (some (.int (dueI lg E v kd x y))) G) : Cx (d + 4) mX11_due [.ref 364, .int v, .int kd, .int x, .int y] G Q := by
  have g0 := h.1.1
  unfold dueI at k
  refine Cx.body rfl rfl ?_
  (repeat (first | refine Ex.go rfl rfl ?_ | refine Ex.gf rfl rfl (by assumption) (by rfl) (by first | rfl | assumption) ?_))
  refine Ex.cs3 rfl rfl rfl rfl rfl rfl ?_
  refine r_inP (lo := 0) (hi := 2) rfl (by decide +kernel) (fun P2 d2 i2 => ?_)
  (repeat (first | refine Ex.go rfl rfl ?_ | refine Ex.gf rfl rfl (by assumption) (by rfl) (by first | rfl | assumption) ?_))
  refine Ex.brz (fun c1 => ?_) (fun c1 => ?_); rotate_left
  · rw [if_neg (fun z => c1 (i2.mpr z.1))] at k
    (repeat (first | refine Ex.go rfl rfl ?_ | refine Ex.gf rfl rfl (by assumption) (by rfl) (by first | rfl | assumption) ?_))
    refine Ex.ret rfl rfl rfl ?_
    exact k
  (repeat (first | refine Ex.go rfl rfl ?_ | refine Ex.gf rfl rfl (by assumption) (by rfl) (by first | rfl | assumption) ?_))
  refine Ex.cv3 rfl rfl rfl (by assumption) (by rfl) (by decide) rfl ?_
  refine r_isAsked h hI (fun P1 d1 i1 => ?_)
  (repeat (first | refine Ex.go rfl rfl ?_ | refine Ex.gf rfl rfl (by assumption) (by rfl) (by first | rfl | assumption) ?_))
  refine Ex.brz (fun c2 => ?_) (fun c2 => ?_); rotate_left
  · rw [if_neg (fun z => c2 (i1.mpr z.2))] at k
    (repeat (first | refine Ex.go rfl rfl ?_ | refine Ex.gf rfl rfl (by assumption) (by rfl) (by first | rfl | assumption) ?_))
    refine Ex.ret rfl rfl rfl ?_
    exact k
  have c3 := i1.mp c2
  rw [if_pos ⟨i2.mp c1, c3⟩] at k
  obtain ⟨v', e1, e2, hv⟩ := ask_nat hI c3
  rw [e2] at k
  subst e1
  (repeat (first | refine Ex.go rfl rfl ?_ | refine Ex.gf rfl rfl (by assumption) (by rfl) (by first | rfl | assumption) ?_))
  refine Ex.cv4 rfl rfl rfl (by assumption) (by rfl) (by decide) rfl ?_
  refine r_dueOf h hI hv ?_
  (repeat (first | refine Ex.go rfl rfl ?_ | refine Ex.gf rfl rfl (by assumption) (by rfl) (by first | rfl | assumption) ?_))
  refine Ex.ret rfl rfl rfl ?_
  exact k
/-- the weakest of the parts that are known, from p on -/
def weaZ (lg : Nat → Int32) (E v : Nat) (x y : Int32) : Nat → Nat → Int32 → Int → Int32
  | 0, _, b, _ => b
  | e + 1, p, b, l => if knP lg E (nI v) (nI p) x y then (if b < 0 ∨ brZ lg E v p x y < l then weaZ lg E v x y e (p + 1) (nI p) (brZ lg E v p x y) else weaZ lg E v x y e (p + 1) b l) else b
theorem r_weakest {v : Nat} {x y : Int32} (h : RD G fs lg E td VS pt vl pp va pa wa nn) (hI : RI lg E VS pt vl pp va pa wa) (hW : ∀ j, j < E → wfE lg j) (hL : fs.length = 32) (hv : v < VS) (k : ∀ G' f, RD G' f lg E td VS pt vl pp va pa wa nn → SG G fs G' f → Q (some (.int (weaZ lg E v x y 25 0 (-1) 0))) G') : Cx (d + 6) mX11_weakest [.ref 364, .int (nI v), .int x, .int y] G Q := by
  have hp3 := (hI.hp v hv).2
  have hV := h.2.2.2
  have ev : (nI v).toNatClampNeg = v := nI_clamp (by omega)
  have S0 := SG.rfl' h hL
  have g0 := h.1.1
  refine Cx.body rfl rfl ?_
  have loop : ∀ (e i : Nat) (a b l : Int32) (G1 : bo_G) (f : List Value), RD G1 f lg E td VS pt vl pp va pa wa nn → SG G fs G1 f → a = nI i → i + e = 25 → (∀ G' f, RD G' f lg E td VS pt vl pp va pa wa nn → SG G fs G' f → Q (some (.int (weaZ lg E v x y e i b l.toInt))) G') → Ex (d + 6) mX11_weakest (9, [(0, .ref 364), (1, .int (nI v)), (2, .int x), (3, .int y), (4, .int b), (5, .int l), (6, .int a)], [], G1) Q := by
    intro e
    induction e with
    | zero =>
      intro i a b l G1 f R1 S1 ha hi k
      subst ha
      have q0 := R1.1.1
      have k := k G1 f R1 S1
      (repeat (first | refine Ex.go rfl rfl ?_ | refine Ex.gf rfl rfl (by assumption) (by rfl) (by first | rfl | assumption) ?_))
      refine Ex.cv4 rfl rfl rfl (by assumption) (by rfl) (by decide) rfl ?_
      refine r_isKnownPart R1 hI (fun P1 d1 i1 => ?_)
      (repeat (first | refine Ex.go rfl rfl ?_ | refine Ex.gf rfl rfl (by assumption) (by rfl) (by first | rfl | assumption) ?_))
      refine Ex.brz (fun c1 => ?_) (fun c1 => ?_); rotate_left
      · (repeat (first | refine Ex.go rfl rfl ?_ | refine Ex.gf rfl rfl (by assumption) (by rfl) (by first | rfl | assumption) ?_))
        refine Ex.ret rfl rfl rfl ?_
        exact k
      · have := (i1.mp c1).2.1.2
        rw [ev, nI_toInt (by omega)] at this
        omega
    | succ e ih =>
      intro i a b l G1 f R1 S1 ha hi k
      subst ha
      have q0 := R1.1.1
      unfold weaZ at k
      (repeat (first | refine Ex.go rfl rfl ?_ | refine Ex.gf rfl rfl (by assumption) (by rfl) (by first | rfl | assumption) ?_))
      refine Ex.cv4 rfl rfl rfl (by assumption) (by rfl) (by decide) rfl ?_
      refine r_isKnownPart R1 hI (fun P1 d1 i1 => ?_)
      (repeat (first | refine Ex.go rfl rfl ?_ | refine Ex.gf rfl rfl (by assumption) (by rfl) (by first | rfl | assumption) ?_))
      refine Ex.brz (fun c1 => ?_) (fun c1 => ?_); rotate_left
      · rw [if_neg fun z => c1 (i1.mpr z)] at k
        have k := k G1 f R1 S1
        (repeat (first | refine Ex.go rfl rfl ?_ | refine Ex.gf rfl rfl (by assumption) (by rfl) (by first | rfl | assumption) ?_))
        refine Ex.ret rfl rfl rfl ?_
        exact k
      have c2 := (i1.mp c1)
      have c3 := c2.2.1.2
      rw [ev, nI_toInt (by omega)] at c3
      rw [if_pos c2] at k
      (repeat (first | refine Ex.go rfl rfl ?_ | refine Ex.gf rfl rfl (by assumption) (by rfl) (by first | rfl | assumption) ?_))
      refine Ex.cv4 rfl rfl rfl (by assumption) (by rfl) (by decide) rfl ?_
      refine r_borne R1 hI hW (S1.2.2.1.trans hL) hv (by omega) c2.1.1 (fun r G2 f2 R2 S2 hr => ?_)
      rw [← hr] at k
      (repeat (first | refine Ex.go rfl rfl ?_ | refine Ex.gf rfl rfl (by assumption) (by rfl) (by first | rfl | assumption) ?_))
      refine Ex.br (fun h2 => ?_) (fun h2 => ?_)
      · rw [if_pos (Or.inl h2)] at k
        (repeat (first | exact ih (i + 1) _ _ _ G2 f2 R2 (S1.trans S2) (nI_1 i) (by omega) k | refine Ex.go rfl rfl ?_ | refine Ex.gf rfl rfl (by assumption) (by rfl) (by first | rfl | assumption) ?_))
      (repeat (first | refine Ex.go rfl rfl ?_ | refine Ex.gf rfl rfl (by assumption) (by rfl) (by first | rfl | assumption) ?_))
      refine Ex.br (fun h3 => ?_) (fun h3 => ?_)
      · rw [if_neg (fun z => z.elim h2 (fun q => by have := Int32.le_iff_toInt_le.mp h3; omega))] at k
        (repeat (first | exact ih (i + 1) _ _ _ G2 f2 R2 (S1.trans S2) (nI_1 i) (by omega) k | refine Ex.go rfl rfl ?_ | refine Ex.gf rfl rfl (by assumption) (by rfl) (by first | rfl | assumption) ?_))
      · rw [if_pos (Or.inr (Int.not_le.mp fun z => h3 (Int32.le_iff_toInt_le.mpr z)))] at k
        (repeat (first | exact ih (i + 1) _ _ _ G2 f2 R2 (S1.trans S2) (nI_1 i) (by omega) k | refine Ex.go rfl rfl ?_ | refine Ex.gf rfl rfl (by assumption) (by rfl) (by first | rfl | assumption) ?_))
  (repeat (first | exact loop 25 0 _ _ _ G fs h S0 rfl (by omega) k | refine Ex.go rfl rfl ?_ | refine Ex.gf rfl rfl (by assumption) (by rfl) (by first | rfl | assumption) ?_))
end RR
