/-! The reference's answers: doubts. -/
section RR
variable {d : Nat} {G : bo_G} {Q : Option Value → bo_G → Prop} {fs : List Value} {lg : Nat → Int32} {E : Nat} {td : Int32} {VS : Nat} {pt vl pp va pa wa nn : Nat → Int32}
/-- whether a spot is in doubt: its last measure is thicker than what is ahead of it -/
def dbtB (lg : Nat → Int32) (E v p s : Nat) (x y : Int32) : Bool := match rwA lg E v p s x y with
  | none => false
  | some q => decide (q.2 < rwT lg E v p s x y)
def dbtN (lg : Nat → Int32) (E v p : Nat) (x y : Int32) : Nat → Int32
  | 0 => 0
  | s + 1 => dbtN lg E v p x y s + (if dbtB lg E v p s x y = true then 1 else 0)
def dbtI (lg : Nat → Int32) (E : Nat) (v p x y : Int32) : Int32 := if knP lg E v p x y then dbtN lg E v.toNatClampNeg p.toNatClampNeg x y (sho lg E v p y 2 1).toNatClampNeg else -1
theorem r_doubts {v p x y : Int32} (h : RD G fs lg E td VS pt vl pp va pa wa nn) (hI : RI lg E VS pt vl pp va pa wa) (hW : ∀ j, j < E → wfE lg j) (hL : fs.length = 32) (k : ∀ G' f, RD G' f lg E td VS pt vl pp va pa wa nn → SG G fs G' f → Q (some (.int (dbtI lg E v p x y))) G') : Cx (d + 4) mX11_doubts [.ref 364, .int v, .int p, .int x, .int y] G Q := by
  have g0 := h.1.1
  have S0 := SG.rfl' h hL
  have hsr := spots_rng (y := y) hW (v := v) (p := p)
  obtain ⟨es, es2, es3⟩ := nI_iof (show 0 ≤ (sho lg E v p y 2 1).toInt by have := hsr.1; omega)
  unfold dbtI at k
  refine Cx.body rfl rfl ?_
  (repeat (first | refine Ex.go rfl rfl ?_ | refine Ex.gf rfl rfl (by assumption) (by rfl) (by first | rfl | assumption) ?_))
  refine Ex.cv4 rfl rfl rfl (by assumption) (by rfl) (by decide) rfl ?_
  refine r_isKnownPart h hI (fun P1 d1 i1 => ?_)
  (repeat (first | refine Ex.go rfl rfl ?_ | refine Ex.gf rfl rfl (by assumption) (by rfl) (by first | rfl | assumption) ?_))
  refine Ex.brn (fun c1 => ?_) (fun c1 => ?_); rotate_left
  · rw [if_neg fun z => c1 (i1.mpr z)] at k
    have k := k G fs h S0
    (repeat (first | refine Ex.go rfl rfl ?_ | refine Ex.gf rfl rfl (by assumption) (by rfl) (by first | rfl | assumption) ?_))
    refine Ex.ret rfl rfl rfl ?_
    exact k
  have c2 := i1.mp c1
  rw [if_pos c2] at k
  obtain ⟨v', p', e1, e2, e3, e4, hv, hp, hx⟩ := kn_nat hI c2
  rw [e3, e4] at k
  subst e1 e2
  generalize (sho lg E (nI v') (nI p') y 2 1).toNatClampNeg = sn at es es2 es3 k
  have hsn : sn ≤ 12 := by have := hsr.2; omega
  have loop : ∀ (e i : Nat) (a b : Int32) (G1 : bo_G) (f : List Value), RD G1 f lg E td VS pt vl pp va pa wa nn → SG G fs G1 f → a = nI i → b = dbtN lg E v' p' x y i → i + e = sn → Ex (d + 4) mX11_doubts (30, [(0, .ref 364), (1, .int (nI v')), (2, .int (nI p')), (3, .int x), (4, .int y), (5, .int b), (6, .int (nI sn)), (7, .int a)], [], G1) Q := by
    intro e
    induction e with
    | zero =>
      intro i a b G1 f R1 S1 ha hb hi
      subst ha hb
      have q0 := R1.1.1
      have k := k G1 f R1 S1
      rw [show sn = i by omega] at k ⊢
      (repeat (first | refine Ex.go rfl rfl ?_ | refine Ex.gf rfl rfl (by assumption) (by rfl) (by first | rfl | assumption) ?_))
      refine Ex.br (fun hc => ?_) (fun hc => ?_); rotate_left
      · exact absurd (nI_le (show i ≤ i by omega) (by omega)) hc
      (repeat (first | refine Ex.go rfl rfl ?_ | refine Ex.gf rfl rfl (by assumption) (by rfl) (by first | rfl | assumption) ?_))
      refine Ex.ret rfl rfl rfl ?_
      exact k
    | succ e ih =>
      intro i a b G1 f R1 S1 ha hb hi
      subst ha hb
      have q0 := R1.1.1
      (repeat (first | refine Ex.go rfl rfl ?_ | refine Ex.gf rfl rfl (by assumption) (by rfl) (by first | rfl | assumption) ?_))
      refine Ex.br (fun hc => ?_) (fun hc => ?_)
      · have := (n_ge (a := i) (b := sn) (by omega) (by omega)).mp hc
        omega
      (repeat (first | refine Ex.go rfl rfl ?_ | refine Ex.gf rfl rfl (by assumption) (by rfl) (by first | rfl | assumption) ?_))
      refine Ex.cv5 rfl rfl rfl (by assumption) (by rfl) (by decide) rfl ?_
      refine r_row R1 hI (S1.2.2.1.trans hL) hv hp (by omega) (fun G2 f2 R2 S2 g2 f20 f21 f24 fA => ?_)
      cases ho : rwA lg E v' p' i x y with
      | none =>
        rw [ho] at f24
        replace f24 : f2[24]? = some (.int 0) := f24
        have hd : ¬ dbtB lg E v' p' i x y = true := by unfold dbtB; rw [ho]; exact Bool.false_ne_true
        have e1 : dbtN lg E v' p' x y (i + 1) = dbtN lg E v' p' x y i + 0 := congrArg _ (if_neg hd)
        (repeat (first | exact ih (i + 1) _ _ G2 f2 R2 (S1.trans S2) (nI_1 i) (by rw [e1]; rfl) (by omega) | refine Ex.go rfl rfl ?_ | refine Ex.gf rfl rfl (by assumption) (by rfl) (by first | rfl | assumption) ?_))
      | some q =>
        obtain ⟨a, t⟩ := q
        obtain ⟨f22, f23⟩ := fA a t ho
        rw [ho] at f24
        replace f24 : f2[24]? = some (.int 1) := f24
        have hd0 : dbtB lg E v' p' i x y = decide (t < rwT lg E v' p' i x y) := by unfold dbtB; rw [ho]
        (repeat (first | refine Ex.go rfl rfl ?_ | refine Ex.gf rfl rfl (by assumption) (by rfl) (by first | rfl | assumption) ?_))
        refine Ex.br (fun h3 => ?_) (fun h3 => ?_)
        · have hd : ¬ dbtB lg E v' p' i x y = true := by rw [hd0]; exact fun z => absurd (of_decide_eq_true z) (Int32.not_lt.mpr h3)
          have e1 : dbtN lg E v' p' x y (i + 1) = dbtN lg E v' p' x y i + 0 := congrArg _ (if_neg hd)
          (repeat (first | exact ih (i + 1) _ _ G2 f2 R2 (S1.trans S2) (nI_1 i) (by rw [e1]; rfl) (by omega) | refine Ex.go rfl rfl ?_ | refine Ex.gf rfl rfl (by assumption) (by rfl) (by first | rfl | assumption) ?_))
        · have hd : dbtB lg E v' p' i x y = true := by rw [hd0]; exact decide_eq_true (Int32.not_le.mp h3)
          have e1 : dbtN lg E v' p' x y (i + 1) = dbtN lg E v' p' x y i + 1 := congrArg _ (if_pos hd)
          (repeat (first | exact ih (i + 1) _ _ G2 f2 R2 (S1.trans S2) (nI_1 i) (by rw [e1]; rfl) (by omega) | refine Ex.go rfl rfl ?_ | refine Ex.gf rfl rfl (by assumption) (by rfl) (by first | rfl | assumption) ?_))
  (repeat (first | refine Ex.go rfl rfl ?_ | refine Ex.gf rfl rfl (by assumption) (by rfl) (by first | rfl | assumption) ?_))
  refine Ex.cv3 rfl rfl rfl (by assumption) (by rfl) (by decide) rfl ?_
  refine r_spots h ?_
  rw [es]
  (repeat (first | exact loop sn 0 _ _ G fs h S0 rfl rfl (by omega) | refine Ex.go rfl rfl ?_ | refine Ex.gf rfl rfl (by assumption) (by rfl) (by first | rfl | assumption) ?_))
end RR
