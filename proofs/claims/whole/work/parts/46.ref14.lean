/-! The reference's answers: why. -/
/-- the first of the parts that are known, from p on, that bears less than g -/
def fblO (lg : Nat → Int32) (E v : Nat) (x y g : Int32) : Nat → Nat → Option Nat
  | 0, _ => none
  | e + 1, p => if knP lg E (nI v) (nI p) x y then (if brZ lg E v p x y < g.toInt then some p else fblO lg E v x y g e (p + 1)) else none
def tubR (ps al pl mk : Int) : Int32 := if (if al = 0 then ps < mk else ps * al < mk * (al - pl)) then 9 else if al < 10 * pl then 10 else 0
/-- what a day is behind of, from kind i on; then the rest -/
def dueR (lg : Nat → Int32) (E v : Nat) (x y : Int32) : Nat → Nat → Int32 → Int32
  | 0, _, r => r
  | e + 1, i, r => if duo lg E v (nI i) x y < x then nI (3 + i) else dueR lg E v x y e (i + 1) r
def rsn3 (lg : Nat → Int32) (E v : Nat) (x y : Int32) : Int32 := match fblO lg E v x y (setgs lg E v 0 x y (wsl lg E v).length) 25 0 with
  | some p => nI (8 + 16 * p)
  | none => tubR (pssd lg E v x y (wsl lg E v).length).toInt (tubs lg E v 0 x y 25 0 0).toInt (tubs lg E v 1 x y 25 0 0).toInt (num lg (vat lg E v) 2).toInt
def rsn2 (lg : Nat → Int32) (E v : Nat) (x y : Int32) : Int32 :=
  if 0 ≤ (mnd lg (nI v) x y E).toInt ∧ ¬ exi (tsP lg (nI v) (mnd lg (nI v) x y E) x y) E = true then 6 else if setgs lg E v 0 x y (wsl lg E v).length < 0 then 7 else rsn3 lg E v x y
def rsn1 (lg : Nat → Int32) (E v : Nat) (x y : Int32) : Int32 := if exi (spP lg E (nI v) x y) E = true then 2 else dueR lg E v x y 3 0 (rsn2 lg E v x y)
def rsnI (lg : Nat → Int32) (E : Nat) (v x y : Int32) : Int32 := if askP lg E v x y then rsn1 lg E v.toNatClampNeg x y else 1
def whyI (lg : Nat → Int32) (E : Nat) (v x y : Int32) : Int32 := if (0 ≤ v.toInt ∧ v.toInt < (vsl lg E).length) ∧ (0 ≤ x.toInt ∧ x.toInt ≤ 40000) ∧ (0 ≤ y.toInt ∧ y.toInt ≤ 40000) then rsnI lg E v x y else -1
section RR
variable {d : Nat} {G : bo_G} {Q : Option Value → bo_G → Prop} {fs : List Value} {lg : Nat → Int32} {E : Nat} {td : Int32} {VS : Nat} {pt vl pp va pa wa nn : Nat → Int32}
theorem r_num {i j : Nat} (h : RD G fs lg E td VS pt vl pp va pa wa nn) (hi : i < 6000) (hj : j < 15) (k : Q (some (.int (num lg i j))) G) : Cx d mX11_number [.ref 364, .int (nI i), .int (nI j)] G Q := r_number h hi hj k
theorem r_reason {v x y : Int32} (h : RD G fs lg E td VS pt vl pp va pa wa nn) (hI : RI lg E VS pt vl pp va pa wa) (hW : ∀ j, j < E → wfE lg j) (hL : fs.length = 32) (k : ∀ G' f, RD G' f lg E td VS pt vl pp va pa wa nn → SG G fs G' f → Q (some (.int (rsnI lg E v x y))) G') : Cx (d + 6) mX11_reason [.ref 364, .int v, .int x, .int y] G Q := by
  have g0 := h.1.1
  have S0 := SG.rfl' h hL
  unfold rsnI at k
  refine Cx.body rfl rfl ?_
  (repeat (first | refine Ex.go rfl rfl ?_ | refine Ex.gf rfl rfl (by assumption) (by rfl) (by first | rfl | assumption) ?_))
  refine Ex.cv3 rfl rfl rfl (by assumption) (by rfl) (by decide) rfl ?_
  refine r_isAsked h hI (fun P1 d1 i1 => ?_)
  (repeat (first | refine Ex.go rfl rfl ?_ | refine Ex.gf rfl rfl (by assumption) (by rfl) (by first | rfl | assumption) ?_))
  refine Ex.brn (fun c1 => ?_) (fun c1 => ?_); rotate_left
  · rw [if_neg (fun z => c1 (i1.mpr z))] at k
    have k := k G fs h S0
    (repeat (first | refine Ex.go rfl rfl ?_ | refine Ex.gf rfl rfl (by assumption) (by rfl) (by first | rfl | assumption) ?_))
    refine Ex.ret rfl rfl rfl ?_
    exact k
  have c2 := i1.mp c1
  rw [if_pos c2] at k
  obtain ⟨v', e1, e2, hv⟩ := ask_nat hI c2
  have hV := h.2.2.2
  have hE := h.2.2.1
  have hw6 := (hI.hw v' hv).2
  have hv2 := vat_lt (lg := lg) (E := E) (v := v') (by have := hI.hv; omega)
  have hx := c2.1
  rw [e2] at k
  subst e1
  unfold rsn1 at k
  (repeat (first | refine Ex.go rfl rfl ?_ | refine Ex.gf rfl rfl (by assumption) (by rfl) (by first | rfl | assumption) ?_))
  refine Ex.cv3 rfl rfl rfl (by assumption) (by rfl) (by decide) rfl ?_
  refine r_isStopped h ?_
  (repeat (first | refine Ex.go rfl rfl ?_ | refine Ex.gf rfl rfl (by assumption) (by rfl) (by first | rfl | assumption) ?_))
  refine Ex.brz (fun c3 => ?_) (fun c3 => ?_); rotate_left; rotate_left
  · rw [if_pos c3] at k
    have k := k G fs h S0
    (repeat (first | refine Ex.go rfl rfl ?_ | refine Ex.gf rfl rfl (by assumption) (by rfl) (by first | rfl | assumption) ?_))
    refine Ex.ret rfl rfl rfl ?_
    exact k
  rw [if_neg c3] at k
  have bt0 := tubs_rng (v := v') (x := x) (y := y) (b := 0) hW 25 0 0 (by omega) (by decide)
  have bt1 := tubs_rng (v := v') (x := x) (y := y) (b := 1) hW 25 0 0 (by omega) (by decide)
  have bps := pssd_rng (v := v') (x := x) (y := y) hW hw6 _ (Nat.le_refl _)
  have bmk := (wf_v (v := v') hW (by have := hI.hv; omega)).2.2.2.1
  -- behind the parts
  have tail : ∀ (a b c : Int32) (G1 : bo_G) (f : List Value), RD G1 f lg E td VS pt vl pp va pa wa nn → SG G fs G1 f → (∀ G' f, RD G' f lg E td VS pt vl pp va pa wa nn → SG G fs G' f → Q (some (.int (tubR (pssd lg E v' x y (wsl lg E v').length).toInt (tubs lg E v' 0 x y 25 0 0).toInt (tubs lg E v' 1 x y 25 0 0).toInt (num lg (vat lg E v') 2).toInt))) G') → Ex (d + 6) mX11_reason (148, [(0, .ref 364), (1, .int (nI v')), (2, .int x), (3, .int y), (4, .int a), (5, .int b), (6, .int c)], [], G1) Q := by
    intro a b c G1 f R1 S1 k
    have q0 := R1.1.1
    have q8 := R1.1.2.2.2.2.2.2.2.2.1
    have q4 := R1.2.1.2.2.2.2.1
    have k := k G1 f R1 S1
    unfold tubR at k
    (repeat (first | refine Ex.go rfl rfl ?_ | refine Ex.gf rfl rfl (by assumption) (by rfl) (by first | rfl | assumption) ?_))
    refine Ex.cv4 rfl rfl rfl (by assumption) (by rfl) (by decide) rfl ?_
    refine r_tubes (b := 0) R1 hI hv ?_
    (repeat (first | refine Ex.go rfl rfl ?_ | refine Ex.gf rfl rfl (by assumption) (by rfl) (by first | rfl | assumption) ?_))
    refine Ex.cv4 rfl rfl rfl (by assumption) (by rfl) (by decide) rfl ?_
    refine r_tubes (b := 1) R1 hI hv ?_
    (repeat (first | refine Ex.go rfl rfl ?_ | refine Ex.gf rfl rfl (by assumption) (by rfl) (by first | rfl | assumption) ?_))
    refine Ex.ialN rfl (j := v') rfl (by assumption) (by omega) (by omega) ?_
    rw [hI.hva v' hv]
    (repeat (first | refine Ex.go rfl rfl ?_ | refine Ex.gf rfl rfl (by assumption) (by rfl) (by first | rfl | assumption) ?_))
    refine Ex.cv2 rfl rfl rfl (by assumption) (by rfl) (by decide) rfl ?_
    refine r_num (j := 2) R1 (by omega) (by omega) ?_
    have e0 : (0 : Int64).toInt = 0 := rfl
    have la : ((tubs lg E v' 0 x y 25 0 0).toInt64).toInt = (tubs lg E v' 0 x y 25 0 0).toInt := l_of rfl
    have lb : ((tubs lg E v' 1 x y 25 0 0).toInt64).toInt = (tubs lg E v' 1 x y 25 0 0).toInt := l_of rfl
    have lc : ((pssd lg E v' x y (wsl lg E v').length).toInt64).toInt = (pssd lg E v' x y (wsl lg E v').length).toInt := l_of rfl
    have ld : ((num lg (vat lg E v') 2).toInt64).toInt = (num lg (vat lg E v') 2).toInt := l_of rfl
    have m1 := z_pb bps.1 (show (pssd lg E v' x y (wsl lg E v').length).toInt ≤ 600000 by omega) bt0.1 bt0.2
    have m2 : -1250000000 ≤ (num lg (vat lg E v') 2).toInt * ((tubs lg E v' 0 x y 25 0 0).toInt - (tubs lg E v' 1 x y 25 0 0).toInt) ∧ (num lg (vat lg E v') 2).toInt * ((tubs lg E v' 0 x y 25 0 0).toInt - (tubs lg E v' 1 x y 25 0 0).toInt) ≤ 1250000000 := by
      have a1 := z_pb bmk.1 bmk.2 bt0.1 bt0.2
      have a2 := z_pb bmk.1 bmk.2 bt1.1 bt1.2
      rw [Int.mul_sub]
      omega
    have l1 := l_mul lc la (by omega)
    have l2 := l_mul ld (l_sub la lb (by omega)) (by omega)
    have l3 := l_mul (x := 10) (a := 10) (by decide +kernel) lb (by omega)
    have fin : ¬ (if (tubs lg E v' 0 x y 25 0 0).toInt = 0 then (pssd lg E v' x y (wsl lg E v').length).toInt < (num lg (vat lg E v') 2).toInt else (pssd lg E v' x y (wsl lg E v').length).toInt * (tubs lg E v' 0 x y 25 0 0).toInt < (num lg (vat lg E v') 2).toInt * ((tubs lg E v' 0 x y 25 0 0).toInt - (tubs lg E v' 1 x y 25 0 0).toInt)) → Ex (d + 6) mX11_reason (243, [(0, .ref 364), (1, .int (nI v')), (2, .int x), (3, .int y), (4, .int a), (5, .int b), (6, .long (tubs lg E v' 0 x y 25 0 0).toInt64), (8, .long (tubs lg E v' 1 x y 25 0 0).toInt64), (10, .long (num lg (vat lg E v') 2).toInt64), (12, .int 0)], [], G1) Q := by
      intro hn
      rw [if_neg hn] at k
      (repeat (first | refine Ex.go rfl rfl ?_ | refine Ex.gf rfl rfl (by assumption) (by rfl) (by first | rfl | assumption) ?_))
      refine Ex.br (fun h5 => ?_) (fun h5 => ?_)
      · have h6 := lcmp_le h5
        rw [l3, la] at h6
        rw [if_neg (by omega)] at k
        (repeat (first | refine Ex.go rfl rfl ?_ | refine Ex.gf rfl rfl (by assumption) (by rfl) (by first | rfl | assumption) ?_))
        refine Ex.ret rfl rfl rfl ?_
        exact k
      · have h6 := lcmp_nle h5
        rw [l3, la] at h6
        rw [if_pos h6] at k
        (repeat (first | refine Ex.go rfl rfl ?_ | refine Ex.gf rfl rfl (by assumption) (by rfl) (by first | rfl | assumption) ?_))
        refine Ex.ret rfl rfl rfl ?_
        exact k
    have nine : (if (tubs lg E v' 0 x y 25 0 0).toInt = 0 then (pssd lg E v' x y (wsl lg E v').length).toInt < (num lg (vat lg E v') 2).toInt else (pssd lg E v' x y (wsl lg E v').length).toInt * (tubs lg E v' 0 x y 25 0 0).toInt < (num lg (vat lg E v') 2).toInt * ((tubs lg E v' 0 x y 25 0 0).toInt - (tubs lg E v' 1 x y 25 0 0).toInt)) → Ex (d + 6) mX11_reason (243, [(0, .ref 364), (1, .int (nI v')), (2, .int x), (3, .int y), (4, .int a), (5, .int b), (6, .long (tubs lg E v' 0 x y 25 0 0).toInt64), (8, .long (tubs lg E v' 1 x y 25 0 0).toInt64), (10, .long (num lg (vat lg E v') 2).toInt64), (12, .int 1)], [], G1) Q := by
      intro hn
      rw [if_pos hn] at k
      (repeat (first | refine Ex.go rfl rfl ?_ | refine Ex.gf rfl rfl (by assumption) (by rfl) (by first | rfl | assumption) ?_))
      refine Ex.ret rfl rfl rfl ?_
      exact k
    (repeat (first | refine Ex.go rfl rfl ?_ | refine Ex.gf rfl rfl (by assumption) (by rfl) (by first | rfl | assumption) ?_))
    refine Ex.br (fun h3 => ?_) (fun h3 => ?_)
    · have h4 : ¬ (tubs lg E v' 0 x y 25 0 0).toInt = 0 := fun z => h3 ((lg_cmp_eq _ _).mpr (Int64.toInt_inj.mp (by rw [la, z]; rfl)))
      rw [if_neg h4] at fin nine
      (repeat (first | refine Ex.go rfl rfl ?_ | refine Ex.gf rfl rfl (by assumption) (by rfl) (by first | rfl | assumption) ?_))
      refine Ex.cv3 rfl rfl rfl (by assumption) (by rfl) (by decide) rfl ?_
      refine r_passed R1 hI hv ?_
      (repeat (first | refine Ex.go rfl rfl ?_ | refine Ex.gf rfl rfl (by assumption) (by rfl) (by first | rfl | assumption) ?_))
      refine Ex.br (fun h5 => ?_) (fun h5 => ?_)
      · have h6 := lcmp_ge h5
        rw [l1, l2] at h6
        (repeat (first | exact fin (by omega) | refine Ex.go rfl rfl ?_ | refine Ex.gf rfl rfl (by assumption) (by rfl) (by first | rfl | assumption) ?_))
      · have h6 := lcmp_nge h5
        rw [l1, l2] at h6
        (repeat (first | exact nine h6 | refine Ex.go rfl rfl ?_ | refine Ex.gf rfl rfl (by assumption) (by rfl) (by first | rfl | assumption) ?_))
    · have h4 : (tubs lg E v' 0 x y 25 0 0).toInt = 0 := by
        have h5 := (lg_cmp_eq _ _).mp (Decidable.not_not.mp h3)
        rw [← la, h5]; rfl
      rw [if_pos h4] at fin nine
      (repeat (first | refine Ex.go rfl rfl ?_ | refine Ex.gf rfl rfl (by assumption) (by rfl) (by first | rfl | assumption) ?_))
      refine Ex.cv3 rfl rfl rfl (by assumption) (by rfl) (by decide) rfl ?_
      refine r_passed R1 hI hv ?_
      (repeat (first | refine Ex.go rfl rfl ?_ | refine Ex.gf rfl rfl (by assumption) (by rfl) (by first | rfl | assumption) ?_))
      refine Ex.br (fun h5 => ?_) (fun h5 => ?_)
      · have h6 := lcmp_ge h5
        rw [lc, ld] at h6
        (repeat (first | exact fin (by omega) | refine Ex.go rfl rfl ?_ | refine Ex.gf rfl rfl (by assumption) (by rfl) (by first | rfl | assumption) ?_))
      · have h6 := lcmp_nge h5
        rw [lc, ld] at h6
        (repeat (first | exact nine h6 | refine Ex.go rfl rfl ?_ | refine Ex.gf rfl rfl (by assumption) (by rfl) (by first | rfl | assumption) ?_))
  -- the parts
  have hp3 := (hI.hp v' hv).2
  have ev : (nI v').toNatClampNeg = v' := nI_clamp (by omega)
  have parts : ∀ (m g : Int32) (e i : Nat) (a : Int32) (G1 : bo_G) (f : List Value), RD G1 f lg E td VS pt vl pp va pa wa nn → SG G fs G1 f → a = nI i → i + e = 25 → (∀ G' f, RD G' f lg E td VS pt vl pp va pa wa nn → SG G fs G' f → Q (some (.int (match fblO lg E v' x y g e i with
  | some p => nI (8 + 16 * p)
  | none => tubR (pssd lg E v' x y (wsl lg E v').length).toInt (tubs lg E v' 0 x y 25 0 0).toInt (tubs lg E v' 1 x y 25 0 0).toInt (num lg (vat lg E v') 2).toInt))) G') → Ex (d + 6) mX11_reason (107, [(0, .ref 364), (1, .int (nI v')), (2, .int x), (3, .int y), (4, .int m), (5, .int g), (6, .int a)], [], G1) Q := by
    intro m g e
    induction e with
    | zero =>
      intro i a G1 f R1 S1 ha hi k
      subst ha
      have q0 := R1.1.1
      (repeat (first | refine Ex.go rfl rfl ?_ | refine Ex.gf rfl rfl (by assumption) (by rfl) (by first | rfl | assumption) ?_))
      refine Ex.cv4 rfl rfl rfl (by assumption) (by rfl) (by decide) rfl ?_
      refine r_isKnownPart R1 hI (fun P1 d1 i1 => ?_)
      (repeat (first | refine Ex.go rfl rfl ?_ | refine Ex.gf rfl rfl (by assumption) (by rfl) (by first | rfl | assumption) ?_))
      refine Ex.brz (fun c1 => ?_) (fun c1 => ?_); rotate_left
      · (repeat (first | exact tail m g _ G1 f R1 S1 k | refine Ex.go rfl rfl ?_ | refine Ex.gf rfl rfl (by assumption) (by rfl) (by first | rfl | assumption) ?_))
      · have := (i1.mp c1).2.1.2
        rw [ev, nI_toInt (by omega)] at this
        omega
    | succ e ih =>
      intro i a G1 f R1 S1 ha hi k
      subst ha
      have q0 := R1.1.1
      unfold fblO at k
      (repeat (first | refine Ex.go rfl rfl ?_ | refine Ex.gf rfl rfl (by assumption) (by rfl) (by first | rfl | assumption) ?_))
      refine Ex.cv4 rfl rfl rfl (by assumption) (by rfl) (by decide) rfl ?_
      refine r_isKnownPart R1 hI (fun P1 d1 i1 => ?_)
      (repeat (first | refine Ex.go rfl rfl ?_ | refine Ex.gf rfl rfl (by assumption) (by rfl) (by first | rfl | assumption) ?_))
      refine Ex.brz (fun c1 => ?_) (fun c1 => ?_); rotate_left
      · rw [if_neg fun z => c1 (i1.mpr z)] at k
        (repeat (first | exact tail m g _ G1 f R1 S1 k | refine Ex.go rfl rfl ?_ | refine Ex.gf rfl rfl (by assumption) (by rfl) (by first | rfl | assumption) ?_))
      have c2 := (i1.mp c1)
      have c3 := c2.2.1.2
      rw [ev, nI_toInt (by omega)] at c3
      rw [if_pos c2] at k
      (repeat (first | refine Ex.go rfl rfl ?_ | refine Ex.gf rfl rfl (by assumption) (by rfl) (by first | rfl | assumption) ?_))
      refine Ex.cv4 rfl rfl rfl (by assumption) (by rfl) (by decide) rfl ?_
      refine r_borne R1 hI hW (S1.2.2.1.trans hL) hv (by omega) hx (fun r G2 f2 R2 S2 hr => ?_)
      rw [← hr] at k
      (repeat (first | refine Ex.go rfl rfl ?_ | refine Ex.gf rfl rfl (by assumption) (by rfl) (by first | rfl | assumption) ?_))
      refine Ex.br (fun h3 => ?_) (fun h3 => ?_)
      · rw [if_neg (Int.not_lt.mpr (Int32.le_iff_toInt_le.mp h3))] at k
        (repeat (first | exact ih (i + 1) _ G2 f2 R2 (S1.trans S2) (nI_1 i) (by omega) k | refine Ex.go rfl rfl ?_ | refine Ex.gf rfl rfl (by assumption) (by rfl) (by first | rfl | assumption) ?_))
      · rw [if_pos (Int.not_le.mp fun z => h3 (Int32.le_iff_toInt_le.mpr z))] at k
        replace k := k G2 f2 R2 (S1.trans S2)
        replace k : Q (some (.int (nI (8 + 16 * i)))) G2 := k
        have e8 : nI 8 + nI 16 * nI i = nI (8 + 16 * i) := by rw [pk_mul, nI_add]
        rw [← e8] at k
        (repeat (first | refine Ex.go rfl rfl ?_ | refine Ex.gf rfl rfl (by assumption) (by rfl) (by first | rfl | assumption) ?_))
        refine Ex.ret rfl rfl rfl ?_
        exact k
  -- the dues
  have dues : ∀ (e i : Nat) (a : Int32), a = nI i → i + e = 3 → (∀ G' f, RD G' f lg E td VS pt vl pp va pa wa nn → SG G fs G' f → Q (some (.int (dueR lg E v' x y e i (rsn2 lg E v' x y)))) G') → Ex (d + 6) mX11_reason (27, [(0, .ref 364), (1, .int (nI v')), (2, .int x), (3, .int y), (4, .int a)], [], G) Q := by
    intro e
    induction e with
    | zero =>
      intro i a ha hi k
      subst ha
      unfold dueR at k
      unfold rsn2 at k
      have set7 : ∀ (m : Int32), (∀ G' f, RD G' f lg E td VS pt vl pp va pa wa nn → SG G fs G' f → Q (some (.int (if setgs lg E v' 0 x y (wsl lg E v').length < 0 then 7 else rsn3 lg E v' x y))) G') → Ex (d + 6) mX11_reason (86, [(0, .ref 364), (1, .int (nI v')), (2, .int x), (3, .int y), (4, .int m)], [], G) Q := by
        intro m k
        (repeat (first | refine Ex.go rfl rfl ?_ | refine Ex.gf rfl rfl (by assumption) (by rfl) (by first | rfl | assumption) ?_))
        refine Ex.cv4 rfl rfl rfl (by assumption) (by rfl) (by decide) rfl ?_
        refine r_settings (b := 0) h hI hv ?_
        (repeat (first | refine Ex.go rfl rfl ?_ | refine Ex.gf rfl rfl (by assumption) (by rfl) (by first | rfl | assumption) ?_))
        refine Ex.br (fun h3 => ?_) (fun h3 => ?_)
        · rw [if_neg (Int32.not_lt.mpr h3)] at k
          unfold rsn3 at k
          (repeat (first | exact parts m _ 25 0 _ G fs h S0 rfl (by omega) k | refine Ex.go rfl rfl ?_ | refine Ex.gf rfl rfl (by assumption) (by rfl) (by first | rfl | assumption) ?_))
        · rw [if_pos (Int32.not_le.mp h3)] at k
          have k := k G fs h S0
          (repeat (first | refine Ex.go rfl rfl ?_ | refine Ex.gf rfl rfl (by assumption) (by rfl) (by first | rfl | assumption) ?_))
          refine Ex.ret rfl rfl rfl ?_
          exact k
      (repeat (first | refine Ex.go rfl rfl ?_ | refine Ex.gf rfl rfl (by assumption) (by rfl) (by first | rfl | assumption) ?_))
      refine Ex.br (fun hc => ?_) (fun hc => ?_); rotate_left
      · exact absurd (nI_le (show 3 ≤ i by omega) (by omega)) hc
      (repeat (first | refine Ex.go rfl rfl ?_ | refine Ex.gf rfl rfl (by assumption) (by rfl) (by first | rfl | assumption) ?_))
      refine Ex.cv3 rfl rfl rfl (by assumption) (by rfl) (by decide) rfl ?_
      refine r_mended h ?_
      (repeat (first | refine Ex.go rfl rfl ?_ | refine Ex.gf rfl rfl (by assumption) (by rfl) (by first | rfl | assumption) ?_))
      refine Ex.br (fun h4 => ?_) (fun h4 => ?_)
      · have h5 : ¬ 0 ≤ (mnd lg (nI v') x y E).toInt := fun z => absurd h4 (Int32.not_lt.mpr (Int32.le_iff_toInt_le.mpr z))
        rw [if_neg (fun z => h5 z.1)] at k
        (repeat (first | exact set7 _ k | refine Ex.go rfl rfl ?_ | refine Ex.gf rfl rfl (by assumption) (by rfl) (by first | rfl | assumption) ?_))
      have h5 : 0 ≤ (mnd lg (nI v') x y E).toInt := Int32.le_iff_toInt_le.mp (Int32.not_lt.mp h4)
      (repeat (first | refine Ex.go rfl rfl ?_ | refine Ex.gf rfl rfl (by assumption) (by rfl) (by first | rfl | assumption) ?_))
      refine Ex.cv4 rfl rfl rfl (by assumption) (by rfl) (by decide) rfl ?_
      refine r_isTested h ?_
      (repeat (first | refine Ex.go rfl rfl ?_ | refine Ex.gf rfl rfl (by assumption) (by rfl) (by first | rfl | assumption) ?_))
      refine Ex.brn (fun h6 => ?_) (fun h6 => ?_)
      · rw [if_neg (fun z => z.2 h6)] at k
        (repeat (first | exact set7 _ k | refine Ex.go rfl rfl ?_ | refine Ex.gf rfl rfl (by assumption) (by rfl) (by first | rfl | assumption) ?_))
      · rw [if_pos ⟨h5, h6⟩] at k
        have k := k G fs h S0
        (repeat (first | refine Ex.go rfl rfl ?_ | refine Ex.gf rfl rfl (by assumption) (by rfl) (by first | rfl | assumption) ?_))
        refine Ex.ret rfl rfl rfl ?_
        exact k
    | succ e ih =>
      intro i a ha hi k
      subst ha
      unfold dueR at k
      (repeat (first | refine Ex.go rfl rfl ?_ | refine Ex.gf rfl rfl (by assumption) (by rfl) (by first | rfl | assumption) ?_))
      refine Ex.br (fun hc => ?_) (fun hc => ?_)
      · have := (n_ge (a := i) (b := 3) (by omega) (by omega)).mp hc
        omega
      (repeat (first | refine Ex.go rfl rfl ?_ | refine Ex.gf rfl rfl (by assumption) (by rfl) (by first | rfl | assumption) ?_))
      refine Ex.cv4 rfl rfl rfl (by assumption) (by rfl) (by decide) rfl ?_
      refine r_dueOf h hI hv ?_
      (repeat (first | refine Ex.go rfl rfl ?_ | refine Ex.gf rfl rfl (by assumption) (by rfl) (by first | rfl | assumption) ?_))
      refine Ex.br (fun h3 => ?_) (fun h3 => ?_)
      · rw [if_neg (Int32.not_lt.mpr h3)] at k
        (repeat (first | exact ih (i + 1) _ (nI_1 i) (by omega) k | refine Ex.go rfl rfl ?_ | refine Ex.gf rfl rfl (by assumption) (by rfl) (by first | rfl | assumption) ?_))
      · rw [if_pos (Int32.not_le.mp h3)] at k
        have k := k G fs h S0
        rw [← nI_add] at k
        (repeat (first | refine Ex.go rfl rfl ?_ | refine Ex.gf rfl rfl (by assumption) (by rfl) (by first | rfl | assumption) ?_))
        refine Ex.ret rfl rfl rfl ?_
        exact k
  (repeat (first | exact dues 3 0 _ rfl (by omega) k | refine Ex.go rfl rfl ?_ | refine Ex.gf rfl rfl (by assumption) (by rfl) (by first | rfl | assumption) ?_))
theorem r_why {v x y : Int32} (h : RD G fs lg E td VS pt vl pp va pa wa nn) (hI : RI lg E VS pt vl pp va pa wa) (hW : ∀ j, j < E → wfE lg j) (hL : fs.length = 32) (k : ∀ G' f, RD G' f lg E td VS pt vl pp va pa wa nn → SG G fs G' f → Q (some (.int (whyI lg E v x y))) G') : Cx (d + 7) mX11_why [.ref 364, .int v, .int x, .int y] G Q := by
  have g0 := h.1.1
  have S0 := SG.rfl' h hL
  have hVS := hI.hv
  unfold whyI at k
  refine Cx.body rfl rfl ?_
  (repeat (first | refine Ex.go rfl rfl ?_ | refine Ex.gf rfl rfl (by assumption) (by rfl) (by first | rfl | assumption) ?_))
  refine Ex.cv1 rfl rfl rfl (by assumption) (by rfl) (by decide) rfl ?_
  refine r_isVessel h ?_
  (repeat (first | refine Ex.go rfl rfl ?_ | refine Ex.gf rfl rfl (by assumption) (by rfl) (by first | rfl | assumption) ?_))
  refine Ex.brz (fun c1 => ?_) (fun c1 => ?_); rotate_left
  · rw [if_neg (fun z => c1 (by rw [hVS]; exact z.1))] at k
    have k := k G fs h S0
    (repeat (first | refine Ex.go rfl rfl ?_ | refine Ex.gf rfl rfl (by assumption) (by rfl) (by first | rfl | assumption) ?_))
    refine Ex.ret rfl rfl rfl ?_
    exact k
  rw [hVS] at c1
  (repeat (first | refine Ex.go rfl rfl ?_ | refine Ex.gf rfl rfl (by assumption) (by rfl) (by first | rfl | assumption) ?_))
  refine Ex.cs3 rfl rfl rfl rfl rfl rfl ?_
  refine r_inP (lo := 0) (hi := 40000) rfl l40000 (fun Pc1 dc1 ic1 => ?_)
  (repeat (first | refine Ex.go rfl rfl ?_ | refine Ex.gf rfl rfl (by assumption) (by rfl) (by first | rfl | assumption) ?_))
  refine Ex.brz (fun c2 => ?_) (fun c2 => ?_); rotate_left
  · rw [if_neg (fun z => c2 (ic1.mpr z.2.1))] at k
    have k := k G fs h S0
    (repeat (first | refine Ex.go rfl rfl ?_ | refine Ex.gf rfl rfl (by assumption) (by rfl) (by first | rfl | assumption) ?_))
    refine Ex.ret rfl rfl rfl ?_
    exact k
  have c2 := ic1.mp c2
  (repeat (first | refine Ex.go rfl rfl ?_ | refine Ex.gf rfl rfl (by assumption) (by rfl) (by first | rfl | assumption) ?_))
  refine Ex.cs3 rfl rfl rfl rfl rfl rfl ?_
  refine r_inP (lo := 0) (hi := 40000) rfl l40000 (fun Pc2 dc2 ic2 => ?_)
  (repeat (first | refine Ex.go rfl rfl ?_ | refine Ex.gf rfl rfl (by assumption) (by rfl) (by first | rfl | assumption) ?_))
  refine Ex.brz (fun c3 => ?_) (fun c3 => ?_); rotate_left
  · rw [if_neg (fun z => c3 (ic2.mpr z.2.2))] at k
    have k := k G fs h S0
    (repeat (first | refine Ex.go rfl rfl ?_ | refine Ex.gf rfl rfl (by assumption) (by rfl) (by first | rfl | assumption) ?_))
    refine Ex.ret rfl rfl rfl ?_
    exact k
  have c3 := ic2.mp c3
  rw [if_pos ⟨c1, c2, c3⟩] at k
  (repeat (first | refine Ex.go rfl rfl ?_ | refine Ex.gf rfl rfl (by assumption) (by rfl) (by first | rfl | assumption) ?_))
  refine Ex.cv3 rfl rfl rfl (by assumption) (by rfl) (by decide) rfl ?_
  refine r_reason h hI hW hL (fun G1 f R1 S1 => ?_)
  have k := k G1 f R1 S1
  (repeat (first | refine Ex.go rfl rfl ?_ | refine Ex.gf rfl rfl (by assumption) (by rfl) (by first | rfl | assumption) ?_))
  refine Ex.ret rfl rfl rfl ?_
  exact k
end RR
