/-! The reference's dues and measures. -/
section RR
variable {d : Nat} {G : bo_G} {Q : Option Value → bo_G → Prop} {fs : List Value} {lg : Nat → Int32} {E : Nat} {td : Int32} {VS : Nat} {pt vl pp va pa wa nn : Nat → Int32}
theorem r_numberE {i j : Nat} {q : Int32} (h : RD G fs lg E td VS pt vl pp va pa wa nn) (hi : i < 6000) (hj : j < 15) (hq : q = nI j) (k : Q (some (.int (lg (18 * i + 3 + j)))) G) : Cx d mX11_number [.ref 364, .int (nI i), .int q] G Q := by
  subst hq
  exact r_number h hi hj k
theorem r_dueOf {v : Nat} {kd x y : Int32} (h : RD G fs lg E td VS pt vl pp va pa wa nn) (hI : RI lg E VS pt vl pp va pa wa) (hv : v < VS) (k : Q (some (.int (duo lg E v kd x y))) G) : Cx (d + 3) mX11_dueOf [.ref 364, .int (nI v), .int kd, .int x, .int y] G Q := by
  have g0 := h.1.1
  have g2 := h.1.2.2.1
  have hE := h.2.2.1
  have hV := h.2.2.2
  have hva := hI.hva v hv
  have hv2 := vat_lt (lg := lg) (E := E) (v := v) (by have := hI.hv; omega)
  have hf : ∀ i, i ≤ E → ∀ k, lat (dyy lg) (fun i => goP lg (nI v) kd i ∧ stP lg x y i) none 0 i = some k → k < E := fun i hi k hk => lat_lt (B := E) (fun k hk => by cases hk) (by omega) hk
  have fin : ∀ (a : Int32), Ex (d + 3) mX11_dueOf (120, [(0, .ref 364), (1, .int (nI v)), (2, .int kd), (3, .int x), (4, .int y), (5, .int a), (6, .int (oI (dru lg kd y E))), (7, .int (dgo lg E v kd x y))], [], G) Q := by
    intro a
    unfold duo at k
    cases hs : dru lg kd y E with
    | none =>
      rw [hs] at k
      (repeat (first | refine Ex.go rfl rfl ?_ | refine Ex.gf rfl rfl (by assumption) (by rfl) (by first | rfl | assumption) ?_))
      refine Ex.ret rfl rfl rfl ?_
      exact k
    | some j =>
      have hj : j < E := (lst_lt hs).1
      rw [hs] at k
      replace k : Q (some (.int (dgo lg E v kd x y + (if dgo lg E v kd x y - dyy lg (vat lg E v) < 7300 then num lg j 1 else num lg j 2)))) G := k
      (repeat (first | refine Ex.go rfl rfl ?_ | refine Ex.gf rfl rfl (by assumption) (by rfl) (by first | rfl | assumption) ?_))
      refine Ex.br (fun hc => ?_) (fun hc => ?_); rotate_left
      · exact absurd (nI_pos' (n := j) (by omega)) hc
      (repeat (first | refine Ex.go rfl rfl ?_ | refine Ex.gf rfl rfl (by assumption) (by rfl) (by first | rfl | assumption) ?_))
      refine Ex.cv1 rfl rfl rfl (by assumption) (by rfl) (by decide) rfl ?_
      refine r_built h (by omega) hva (by omega) ?_
      (repeat (first | refine Ex.go rfl rfl ?_ | refine Ex.gf rfl rfl (by assumption) (by rfl) (by first | rfl | assumption) ?_))
      refine Ex.br (fun h7 => ?_) (fun h7 => ?_)
      · rw [show (if dgo lg E v kd x y - dyy lg (vat lg E v) < 7300 then num lg j 1 else num lg j 2) = num lg j 2 from if_neg (Int32.not_lt.mpr h7)] at k
        (repeat (first | refine Ex.go rfl rfl ?_ | refine Ex.gf rfl rfl (by assumption) (by rfl) (by first | rfl | assumption) ?_))
        refine Ex.cv2 rfl rfl rfl (by assumption) (by rfl) (by decide) rfl ?_
        refine r_number (j := 2) h (by omega) (by omega) ?_
        (repeat (first | refine Ex.go rfl rfl ?_ | refine Ex.gf rfl rfl (by assumption) (by rfl) (by first | rfl | assumption) ?_))
        refine Ex.ret rfl rfl rfl ?_
        exact k
      · rw [show (if dgo lg E v kd x y - dyy lg (vat lg E v) < 7300 then num lg j 1 else num lg j 2) = num lg j 1 from if_pos (Int32.not_le.mp h7)] at k
        (repeat (first | refine Ex.go rfl rfl ?_ | refine Ex.gf rfl rfl (by assumption) (by rfl) (by first | rfl | assumption) ?_))
        refine Ex.cv2 rfl rfl rfl (by assumption) (by rfl) (by decide) rfl ?_
        refine r_number (j := 1) h (by omega) (by omega) ?_
        (repeat (first | refine Ex.go rfl rfl ?_ | refine Ex.gf rfl rfl (by assumption) (by rfl) (by first | rfl | assumption) ?_))
        refine Ex.ret rfl rfl rfl ?_
        exact k
  refine Cx.body rfl rfl ?_
  have loop : ∀ (e i : Nat) (a b r : Int32), a = nI i → b = oI (lat (dyy lg) (fun i => goP lg (nI v) kd i ∧ stP lg x y i) none 0 i) → r = oI (dru lg kd y i) → i + e = E → Ex (d + 3) mX11_dueOf (9, [(0, .ref 364), (1, .int (nI v)), (2, .int kd), (3, .int x), (4, .int y), (5, .int b), (6, .int r), (7, .int a)], [], G) Q := by
    intro e
    induction e with
    | zero =>
      intro i a b r ha hb hr hi
      subst ha hb hr
      rw [show i = E by omega]
      unfold dgo at fin
      have hf2 := hf E (Nat.le_refl _)
      (repeat (first | refine Ex.go rfl rfl ?_ | refine Ex.gf rfl rfl (by assumption) (by rfl) (by first | rfl | assumption) ?_))
      refine Ex.br (fun hc => ?_) (fun hc => ?_); rotate_left
      · exact absurd (nI_le (show E ≤ E by omega) (by omega)) hc
      cases hs : lat (dyy lg) (fun i => goP lg (nI v) kd i ∧ stP lg x y i) none 0 E with
      | none =>
        rw [hs] at fin
        (repeat (first | refine Ex.go rfl rfl ?_ | refine Ex.gf rfl rfl (by assumption) (by rfl) (by first | rfl | assumption) ?_))
        refine Ex.cv1 rfl rfl rfl (by assumption) (by rfl) (by decide) rfl ?_
        refine r_built h (by omega) hva (by omega) ?_
        (repeat (first | exact fin _ | refine Ex.go rfl rfl ?_ | refine Ex.gf rfl rfl (by assumption) (by rfl) (by first | rfl | assumption) ?_))
      | some j =>
        have hj := hf2 j hs
        rw [hs] at fin
        (repeat (first | refine Ex.go rfl rfl ?_ | refine Ex.gf rfl rfl (by assumption) (by rfl) (by first | rfl | assumption) ?_))
        refine Ex.br (fun hc2 => ?_) (fun hc2 => ?_); rotate_left
        · exact absurd (nI_pos' (n := j) (by omega)) hc2
        (repeat (first | refine Ex.go rfl rfl ?_ | refine Ex.gf rfl rfl (by assumption) (by rfl) (by first | rfl | assumption) ?_))
        refine Ex.cv1 rfl rfl rfl (by assumption) (by rfl) (by decide) rfl ?_
        refine r_day h (by omega) ?_
        (repeat (first | exact fin _ | refine Ex.go rfl rfl ?_ | refine Ex.gf rfl rfl (by assumption) (by rfl) (by first | rfl | assumption) ?_))
    | succ e ih =>
      intro i a b r ha hb hr hi
      subst ha hb hr
      have ef : (0 : Nat) + i = i := Nat.zero_add i
      have hs : ∀ k, lat (dyy lg) (fun i => goP lg (nI v) kd i ∧ stP lg x y i) none 0 i = some k → k < 6000 := fun k hk => by have := hf i (by omega) k hk; omega
      have half : ∀ b, b = oI (lat (dyy lg) (fun i => goP lg (nI v) kd i ∧ stP lg x y i) none 0 (i + 1)) → Ex (d + 3) mX11_dueOf (56, [(0, .ref 364), (1, .int (nI v)), (2, .int kd), (3, .int x), (4, .int y), (5, .int b), (6, .int (oI (dru lg kd y i))), (7, .int (nI i))], [], G) Q := by
        intro b hb
        (repeat (first | refine Ex.go rfl rfl ?_ | refine Ex.gf rfl rfl (by assumption) (by rfl) (by first | rfl | assumption) ?_))
        refine Ex.cv1 rfl rfl rfl (by assumption) (by rfl) (by decide) rfl ?_
        refine r_code h (by omega) ?_
        (repeat (first | refine Ex.go rfl rfl ?_ | refine Ex.gf rfl rfl (by assumption) (by rfl) (by first | rfl | assumption) ?_))
        refine Ex.br (fun h1 => ?_) (fun h1 => ?_)
        · have e1 : dru lg kd y (i + 1) = dru lg kd y i := if_neg fun z => h1 z.1
          (repeat (first | exact ih (i + 1) _ _ _ (nI_1 i) hb (by rw [e1]) (by omega) | refine Ex.go rfl rfl ?_ | refine Ex.gf rfl rfl (by assumption) (by rfl) (by first | rfl | assumption) ?_))
        (repeat (first | refine Ex.go rfl rfl ?_ | refine Ex.gf rfl rfl (by assumption) (by rfl) (by first | rfl | assumption) ?_))
        refine Ex.cv2 rfl rfl rfl (by assumption) (by rfl) (by decide) rfl ?_
        refine r_number (j := 0) h (by omega) (by omega) ?_
        (repeat (first | refine Ex.go rfl rfl ?_ | refine Ex.gf rfl rfl (by assumption) (by rfl) (by first | rfl | assumption) ?_))
        refine Ex.br (fun h2 => ?_) (fun h2 => ?_)
        · have e1 : dru lg kd y (i + 1) = dru lg kd y i := if_neg fun z => h2 z.2.1
          (repeat (first | exact ih (i + 1) _ _ _ (nI_1 i) hb (by rw [e1]) (by omega) | refine Ex.go rfl rfl ?_ | refine Ex.gf rfl rfl (by assumption) (by rfl) (by first | rfl | assumption) ?_))
        (repeat (first | refine Ex.go rfl rfl ?_ | refine Ex.gf rfl rfl (by assumption) (by rfl) (by first | rfl | assumption) ?_))
        refine Ex.cv1 rfl rfl rfl (by assumption) (by rfl) (by decide) rfl ?_
        refine r_entered h (by omega) ?_
        (repeat (first | refine Ex.go rfl rfl ?_ | refine Ex.gf rfl rfl (by assumption) (by rfl) (by first | rfl | assumption) ?_))
        refine Ex.br (fun h3 => ?_) (fun h3 => ?_)
        · have e1 : dru lg kd y (i + 1) = dru lg kd y i := if_neg fun z => absurd z.2.2 (Int32.not_le.mpr h3)
          (repeat (first | exact ih (i + 1) _ _ _ (nI_1 i) hb (by rw [e1]) (by omega) | refine Ex.go rfl rfl ?_ | refine Ex.gf rfl rfl (by assumption) (by rfl) (by first | rfl | assumption) ?_))
        have e1 : dru lg kd y (i + 1) = some i := if_pos ⟨Decidable.not_not.mp h1, Decidable.not_not.mp h2, Int32.not_lt.mp h3⟩
        (repeat (first | exact ih (i + 1) _ _ _ (nI_1 i) hb (by rw [e1]; rfl) (by omega) | refine Ex.go rfl rfl ?_ | refine Ex.gf rfl rfl (by assumption) (by rfl) (by first | rfl | assumption) ?_))
      (repeat (first | refine Ex.go rfl rfl ?_ | refine Ex.gf rfl rfl (by assumption) (by rfl) (by first | rfl | assumption) ?_))
      refine Ex.br (fun hc => ?_) (fun hc => ?_)
      · have := (n_ge (a := i) (b := E) (by omega) (by omega)).mp hc
        omega
      (repeat (first | refine Ex.go rfl rfl ?_ | refine Ex.gf rfl rfl (by assumption) (by rfl) (by first | rfl | assumption) ?_))
      refine Ex.cv3 rfl rfl rfl (by assumption) (by rfl) (by decide) rfl ?_
      refine r_isGood h (by omega) ?_
      (repeat (first | refine Ex.go rfl rfl ?_ | refine Ex.gf rfl rfl (by assumption) (by rfl) (by first | rfl | assumption) ?_))
      refine Ex.brz (fun h1 => ?_) (fun h1 => ?_); rotate_left
      · have e1 : lat (dyy lg) (fun i => goP lg (nI v) kd i ∧ stP lg x y i) none 0 (i + 1) = lat (dyy lg) (fun i => goP lg (nI v) kd i ∧ stP lg x y i) none 0 i := if_neg fun z => h1 (by have := z.1.1; rw [ef] at this; exact this)
        (repeat (first | exact half _ (by rw [e1]) | refine Ex.go rfl rfl ?_ | refine Ex.gf rfl rfl (by assumption) (by rfl) (by first | rfl | assumption) ?_))
      (repeat (first | refine Ex.go rfl rfl ?_ | refine Ex.gf rfl rfl (by assumption) (by rfl) (by first | rfl | assumption) ?_))
      refine Ex.cv3 rfl rfl rfl (by assumption) (by rfl) (by decide) rfl ?_
      refine r_stands h (by omega) ?_
      (repeat (first | refine Ex.go rfl rfl ?_ | refine Ex.gf rfl rfl (by assumption) (by rfl) (by first | rfl | assumption) ?_))
      refine Ex.brz (fun h2 => ?_) (fun h2 => ?_); rotate_left
      · have e1 : lat (dyy lg) (fun i => goP lg (nI v) kd i ∧ stP lg x y i) none 0 (i + 1) = lat (dyy lg) (fun i => goP lg (nI v) kd i ∧ stP lg x y i) none 0 i := if_neg fun z => h2 (by have := z.1.2; rw [ef] at this; exact this)
        (repeat (first | exact half _ (by rw [e1]) | refine Ex.go rfl rfl ?_ | refine Ex.gf rfl rfl (by assumption) (by rfl) (by first | rfl | assumption) ?_))
      (repeat (first | refine Ex.go rfl rfl ?_ | refine Ex.gf rfl rfl (by assumption) (by rfl) (by first | rfl | assumption) ?_))
      refine Ex.cv2 rfl rfl rfl (by assumption) (by rfl) (by decide) rfl ?_
      refine r_isLater h (by omega) hs ?_
      (repeat (first | refine Ex.go rfl rfl ?_ | refine Ex.gf rfl rfl (by assumption) (by rfl) (by first | rfl | assumption) ?_))
      refine Ex.brz (fun h3 => ?_) (fun h3 => ?_); rotate_left
      · have e1 : lat (dyy lg) (fun i => goP lg (nI v) kd i ∧ stP lg x y i) none 0 (i + 1) = lat (dyy lg) (fun i => goP lg (nI v) kd i ∧ stP lg x y i) none 0 i := if_neg fun z => h3 (by have := z.2; rw [ef] at this; exact this)
        (repeat (first | exact half _ (by rw [e1]) | refine Ex.go rfl rfl ?_ | refine Ex.gf rfl rfl (by assumption) (by rfl) (by first | rfl | assumption) ?_))
      have e1 : lat (dyy lg) (fun i => goP lg (nI v) kd i ∧ stP lg x y i) none 0 (i + 1) = some (0 + i) := if_pos (by rw [ef]; exact ⟨⟨h1, h2⟩, h3⟩)
      rw [ef] at e1
      (repeat (first | exact half _ (by rw [e1]; rfl) | refine Ex.go rfl rfl ?_ | refine Ex.gf rfl rfl (by assumption) (by rfl) (by first | rfl | assumption) ?_))
  (repeat (first | exact loop E 0 _ _ _ rfl rfl rfl (by omega) | refine Ex.go rfl rfl ?_ | refine Ex.gf rfl rfl (by assumption) (by rfl) (by first | rfl | assumption) ?_))
theorem nI_m1 (n : Nat) : nI (n + 1) + (-1) = nI n := by
  rw [nI_succ, Int32.add_assoc]
  rw [show (1 : Int32) + -1 = 0 by decide, Int32.add_zero]
theorem r_measureAt {v p x y bf : Int32} {s a0 : Nat} (h : RD G fs lg E td VS pt vl pp va pa wa nn) (hs : s < 12) (ha0 : a0 < E) (k : Q (some (.int (oI (mea lg E v p s x y a0 bf)))) G) : Cx (d + 2) mX11_measureAt [.ref 364, .int v, .int p, .int (nI s), .int x, .int y, .int (nI a0), .int bf] G Q := by
  have g0 := h.1.1
  have g2 := h.1.2.2.1
  have hE := h.2.2.1
  have en : nI 3 + nI s = nI (3 + s) := by rw [nI_add]
  have down : ∀ (e : Nat) (a : Int32) (o : Option Nat) (b : Int32), a = nI e + (-1) → b = oI o → (∀ k, o = some k → k < 6000) → e ≤ a0 → Q (some (.int (oI (meaD lg v p s x y a0 bf e o)))) G → Ex (d + 2) mX11_measureAt (120, [(0, .ref 364), (1, .int v), (2, .int p), (3, .int (nI s)), (4, .int x), (5, .int y), (6, .int (nI a0)), (7, .int bf), (8, .int b), (9, .int a)], [], G) Q := by
    intro e
    induction e with
    | zero =>
      intro a o b ha hb ho he k
      subst ha hb
      (repeat (first | refine Ex.go rfl rfl ?_ | refine Ex.gf rfl rfl (by assumption) (by rfl) (by first | rfl | assumption) ?_))
      refine Ex.ret rfl rfl rfl ?_
      exact k
    | succ e ih =>
      intro a o b ha hb ho he k
      rw [nI_m1] at ha
      subst ha hb
      have no : ¬ ((msP lg v p s x y e ∧ dyy lg a0 < dyy lg e ∧ dyy lg e < bf) ∧ gtb (dyy lg) e o = true) → Q (some (.int (oI (meaD lg v p s x y a0 bf e o)))) G := fun z => by
        have e2 : meaD lg v p s x y a0 bf (e + 1) o = meaD lg v p s x y a0 bf e o := by
          show mdn _ _ e _ = _
          rw [if_neg z]; rfl
        rw [e2] at k
        exact k
      have yes : ((msP lg v p s x y e ∧ dyy lg a0 < dyy lg e ∧ dyy lg e < bf) ∧ gtb (dyy lg) e o = true) → Q (some (.int (oI (meaD lg v p s x y a0 bf e (some e))))) G := fun z => by
        have e2 : meaD lg v p s x y a0 bf (e + 1) o = meaD lg v p s x y a0 bf e (some e) := by
          show mdn _ _ e _ = _
          rw [if_pos z]; rfl
        rw [e2] at k
        exact k
      clear k
      (repeat (first | refine Ex.go rfl rfl ?_ | refine Ex.gf rfl rfl (by assumption) (by rfl) (by first | rfl | assumption) ?_))
      refine Ex.br (fun hc => ?_) (fun hc => ?_)
      · exact absurd hc (nI_pos (n := e) (by omega))
      (repeat (first | refine Ex.go rfl rfl ?_ | refine Ex.gf rfl rfl (by assumption) (by rfl) (by first | rfl | assumption) ?_))
      refine Ex.cv4 rfl rfl rfl (by assumption) (by rfl) (by decide) rfl ?_
      refine r_isOf h (by omega) ?_
      (repeat (first | refine Ex.go rfl rfl ?_ | refine Ex.gf rfl rfl (by assumption) (by rfl) (by first | rfl | assumption) ?_))
      refine Ex.brz (fun h1 => ?_) (fun h1 => ?_); rotate_left
      · have k := no fun z => h1 z.1.1.1
        (repeat (first | exact ih _ _ _ rfl rfl ho (by omega) k | refine Ex.go rfl rfl ?_ | refine Ex.gf rfl rfl (by assumption) (by rfl) (by first | rfl | assumption) ?_))
      (repeat (first | refine Ex.go rfl rfl ?_ | refine Ex.gf rfl rfl (by assumption) (by rfl) (by first | rfl | assumption) ?_))
      refine Ex.cv2 rfl rfl rfl (by assumption) (by rfl) (by decide) rfl ?_
      refine r_numberE (j := 3 + s) h (by omega) (by omega) en ?_
      (repeat (first | refine Ex.go rfl rfl ?_ | refine Ex.gf rfl rfl (by assumption) (by rfl) (by first | rfl | assumption) ?_))
      refine Ex.br (fun h2 => ?_) (fun h2 => ?_)
      · have k := no fun z => absurd z.1.1.2.1 (Int32.not_le.mpr h2)
        (repeat (first | exact ih _ _ _ rfl rfl ho (by omega) k | refine Ex.go rfl rfl ?_ | refine Ex.gf rfl rfl (by assumption) (by rfl) (by first | rfl | assumption) ?_))
      (repeat (first | refine Ex.go rfl rfl ?_ | refine Ex.gf rfl rfl (by assumption) (by rfl) (by first | rfl | assumption) ?_))
      refine Ex.cv3 rfl rfl rfl (by assumption) (by rfl) (by decide) rfl ?_
      refine r_stands h (by omega) ?_
      (repeat (first | refine Ex.go rfl rfl ?_ | refine Ex.gf rfl rfl (by assumption) (by rfl) (by first | rfl | assumption) ?_))
      refine Ex.brz (fun h3 => ?_) (fun h3 => ?_); rotate_left
      · have k := no fun z => h3 z.1.1.2.2
        (repeat (first | exact ih _ _ _ rfl rfl ho (by omega) k | refine Ex.go rfl rfl ?_ | refine Ex.gf rfl rfl (by assumption) (by rfl) (by first | rfl | assumption) ?_))
      (repeat (first | refine Ex.go rfl rfl ?_ | refine Ex.gf rfl rfl (by assumption) (by rfl) (by first | rfl | assumption) ?_))
      refine Ex.cv1 rfl rfl rfl (by assumption) (by rfl) (by decide) rfl ?_
      refine r_day h (by omega) ?_
      (repeat (first | refine Ex.go rfl rfl ?_ | refine Ex.gf rfl rfl (by assumption) (by rfl) (by first | rfl | assumption) ?_))
      refine Ex.cv1 rfl rfl rfl (by assumption) (by rfl) (by decide) rfl ?_
      refine r_day h (by omega) ?_
      (repeat (first | refine Ex.go rfl rfl ?_ | refine Ex.gf rfl rfl (by assumption) (by rfl) (by first | rfl | assumption) ?_))
      refine Ex.br (fun h4 => ?_) (fun h4 => ?_)
      · have k := no fun z => absurd z.1.2.1 (Int32.not_lt.mpr h4)
        (repeat (first | exact ih _ _ _ rfl rfl ho (by omega) k | refine Ex.go rfl rfl ?_ | refine Ex.gf rfl rfl (by assumption) (by rfl) (by first | rfl | assumption) ?_))
      (repeat (first | refine Ex.go rfl rfl ?_ | refine Ex.gf rfl rfl (by assumption) (by rfl) (by first | rfl | assumption) ?_))
      refine Ex.cv1 rfl rfl rfl (by assumption) (by rfl) (by decide) rfl ?_
      refine r_day h (by omega) ?_
      (repeat (first | refine Ex.go rfl rfl ?_ | refine Ex.gf rfl rfl (by assumption) (by rfl) (by first | rfl | assumption) ?_))
      refine Ex.br (fun h5 => ?_) (fun h5 => ?_)
      · have k := no fun z => absurd z.1.2.2 (Int32.not_lt.mpr h5)
        (repeat (first | exact ih _ _ _ rfl rfl ho (by omega) k | refine Ex.go rfl rfl ?_ | refine Ex.gf rfl rfl (by assumption) (by rfl) (by first | rfl | assumption) ?_))
      have hall : msP lg v p s x y e ∧ dyy lg a0 < dyy lg e ∧ dyy lg e < bf := ⟨⟨h1, Int32.not_lt.mp h2, h3⟩, Int32.not_le.mp h4, Int32.not_le.mp h5⟩
      (repeat (first | refine Ex.go rfl rfl ?_ | refine Ex.gf rfl rfl (by assumption) (by rfl) (by first | rfl | assumption) ?_))
      refine Ex.br (fun h6 => ?_) (fun h6 => ?_)
      · have e1 := (oI_neg (fun k hk => by have := ho k hk; omega)).mp h6
        subst e1
        have k := yes ⟨hall, rfl⟩
        (repeat (first | exact ih _ (some e) _ rfl rfl (fun k hk => by cases hk; omega) (by omega) k | refine Ex.go rfl rfl ?_ | refine Ex.gf rfl rfl (by assumption) (by rfl) (by first | rfl | assumption) ?_))
      cases o with
      | none => exact absurd (by decide) h6
      | some j =>
        have hj := ho j rfl
        (repeat (first | refine Ex.go rfl rfl ?_ | refine Ex.gf rfl rfl (by assumption) (by rfl) (by first | rfl | assumption) ?_))
        refine Ex.cv1 rfl rfl rfl (by assumption) (by rfl) (by decide) rfl ?_
        refine r_day h (by omega) ?_
        (repeat (first | refine Ex.go rfl rfl ?_ | refine Ex.gf rfl rfl (by assumption) (by rfl) (by first | rfl | assumption) ?_))
        refine Ex.cv1 rfl rfl rfl (by assumption) (by rfl) (by decide) rfl ?_
        refine r_day h (by omega) ?_
        (repeat (first | refine Ex.go rfl rfl ?_ | refine Ex.gf rfl rfl (by assumption) (by rfl) (by first | rfl | assumption) ?_))
        refine Ex.br (fun h7 => ?_) (fun h7 => ?_)
        · have k := no fun z => absurd (of_decide_eq_true z.2) (Int32.not_lt.mpr h7)
          (repeat (first | exact ih _ _ _ rfl rfl ho (by omega) k | refine Ex.go rfl rfl ?_ | refine Ex.gf rfl rfl (by assumption) (by rfl) (by first | rfl | assumption) ?_))
        · have k := yes ⟨hall, decide_eq_true (Int32.not_le.mp h7)⟩
          (repeat (first | exact ih _ (some e) _ rfl rfl (fun k hk => by cases hk; omega) (by omega) k | refine Ex.go rfl rfl ?_ | refine Ex.gf rfl rfl (by assumption) (by rfl) (by first | rfl | assumption) ?_))
  refine Cx.body rfl rfl ?_
  have up : ∀ (e i : Nat) (a b : Int32), a = nI (a0 + 1 + i) → b = oI (meaU lg v p s x y a0 bf i) → a0 + 1 + i + e = E → Ex (d + 2) mX11_measureAt (9, [(0, .ref 364), (1, .int v), (2, .int p), (3, .int (nI s)), (4, .int x), (5, .int y), (6, .int (nI a0)), (7, .int bf), (8, .int b), (9, .int a)], [], G) Q := by
    intro e
    induction e with
    | zero =>
      intro i a b ha hb hi
      subst ha hb
      have hk : ∀ k, meaU lg v p s x y a0 bf i = some k → k < 6000 := fun k hk => by have := lat_lt (B := E) (fun k hk => by cases hk) (by omega) hk; omega
      unfold mea at k
      rw [show E - (a0 + 1) = i by omega] at k
      (repeat (first | refine Ex.go rfl rfl ?_ | refine Ex.gf rfl rfl (by assumption) (by rfl) (by first | rfl | assumption) ?_))
      refine Ex.br (fun hc => ?_) (fun hc => ?_)
      · (repeat (first | exact down a0 _ _ _ (Int32.sub_eq_add_neg _ _) rfl hk (Nat.le_refl _) k | refine Ex.go rfl rfl ?_ | refine Ex.gf rfl rfl (by assumption) (by rfl) (by first | rfl | assumption) ?_))
      · exact absurd (nI_le (show E ≤ a0 + 1 + i by omega) (by omega)) hc
    | succ e ih =>
      intro i a b ha hb hi
      subst ha hb
      have hk : ∀ k, meaU lg v p s x y a0 bf i = some k → k < 6000 := fun k hk => by have := lat_lt (B := E) (fun k hk => by cases hk) (by omega) hk; omega
      have no : ¬ (msP lg v p s x y (a0 + 1 + i) ∧ dyy lg a0 ≤ dyy lg (a0 + 1 + i) ∧ dyy lg (a0 + 1 + i) < bf) → meaU lg v p s x y a0 bf (i + 1) = meaU lg v p s x y a0 bf i := fun z => if_neg fun q => z q.1
      (repeat (first | refine Ex.go rfl rfl ?_ | refine Ex.gf rfl rfl (by assumption) (by rfl) (by first | rfl | assumption) ?_))
      refine Ex.br (fun hc => ?_) (fun hc => ?_)
      · have := (n_ge (a := a0 + 1 + i) (b := E) (by omega) (by omega)).mp hc
        omega
      (repeat (first | refine Ex.go rfl rfl ?_ | refine Ex.gf rfl rfl (by assumption) (by rfl) (by first | rfl | assumption) ?_))
      refine Ex.cv4 rfl rfl rfl (by assumption) (by rfl) (by decide) rfl ?_
      refine r_isOf h (by omega) ?_
      (repeat (first | refine Ex.go rfl rfl ?_ | refine Ex.gf rfl rfl (by assumption) (by rfl) (by first | rfl | assumption) ?_))
      refine Ex.brz (fun h1 => ?_) (fun h1 => ?_); rotate_left
      · have e1 := no fun z => h1 z.1.1
        (repeat (first | exact ih (i + 1) _ _ (nI_1 (a0 + 1 + i)) (by rw [e1]) (by omega) | refine Ex.go rfl rfl ?_ | refine Ex.gf rfl rfl (by assumption) (by rfl) (by first | rfl | assumption) ?_))
      (repeat (first | refine Ex.go rfl rfl ?_ | refine Ex.gf rfl rfl (by assumption) (by rfl) (by first | rfl | assumption) ?_))
      refine Ex.cv2 rfl rfl rfl (by assumption) (by rfl) (by decide) rfl ?_
      refine r_numberE (j := 3 + s) h (by omega) (by omega) en ?_
      (repeat (first | refine Ex.go rfl rfl ?_ | refine Ex.gf rfl rfl (by assumption) (by rfl) (by first | rfl | assumption) ?_))
      refine Ex.br (fun h2 => ?_) (fun h2 => ?_)
      · have e1 := no fun z => absurd z.1.2.1 (Int32.not_le.mpr h2)
        (repeat (first | exact ih (i + 1) _ _ (nI_1 (a0 + 1 + i)) (by rw [e1]) (by omega) | refine Ex.go rfl rfl ?_ | refine Ex.gf rfl rfl (by assumption) (by rfl) (by first | rfl | assumption) ?_))
      (repeat (first | refine Ex.go rfl rfl ?_ | refine Ex.gf rfl rfl (by assumption) (by rfl) (by first | rfl | assumption) ?_))
      refine Ex.cv3 rfl rfl rfl (by assumption) (by rfl) (by decide) rfl ?_
      refine r_stands h (by omega) ?_
      (repeat (first | refine Ex.go rfl rfl ?_ | refine Ex.gf rfl rfl (by assumption) (by rfl) (by first | rfl | assumption) ?_))
      refine Ex.brz (fun h3 => ?_) (fun h3 => ?_); rotate_left
      · have e1 := no fun z => h3 z.1.2.2
        (repeat (first | exact ih (i + 1) _ _ (nI_1 (a0 + 1 + i)) (by rw [e1]) (by omega) | refine Ex.go rfl rfl ?_ | refine Ex.gf rfl rfl (by assumption) (by rfl) (by first | rfl | assumption) ?_))
      (repeat (first | refine Ex.go rfl rfl ?_ | refine Ex.gf rfl rfl (by assumption) (by rfl) (by first | rfl | assumption) ?_))
      refine Ex.cv1 rfl rfl rfl (by assumption) (by rfl) (by decide) rfl ?_
      refine r_day h (by omega) ?_
      (repeat (first | refine Ex.go rfl rfl ?_ | refine Ex.gf rfl rfl (by assumption) (by rfl) (by first | rfl | assumption) ?_))
      refine Ex.cv1 rfl rfl rfl (by assumption) (by rfl) (by decide) rfl ?_
      refine r_day h (by omega) ?_
      (repeat (first | refine Ex.go rfl rfl ?_ | refine Ex.gf rfl rfl (by assumption) (by rfl) (by first | rfl | assumption) ?_))
      refine Ex.br (fun h4 => ?_) (fun h4 => ?_)
      · have e1 := no fun z => absurd z.2.1 (Int32.not_le.mpr h4)
        (repeat (first | exact ih (i + 1) _ _ (nI_1 (a0 + 1 + i)) (by rw [e1]) (by omega) | refine Ex.go rfl rfl ?_ | refine Ex.gf rfl rfl (by assumption) (by rfl) (by first | rfl | assumption) ?_))
      (repeat (first | refine Ex.go rfl rfl ?_ | refine Ex.gf rfl rfl (by assumption) (by rfl) (by first | rfl | assumption) ?_))
      refine Ex.cv1 rfl rfl rfl (by assumption) (by rfl) (by decide) rfl ?_
      refine r_day h (by omega) ?_
      (repeat (first | refine Ex.go rfl rfl ?_ | refine Ex.gf rfl rfl (by assumption) (by rfl) (by first | rfl | assumption) ?_))
      refine Ex.br (fun h5 => ?_) (fun h5 => ?_)
      · have e1 := no fun z => absurd z.2.2 (Int32.not_lt.mpr h5)
        (repeat (first | exact ih (i + 1) _ _ (nI_1 (a0 + 1 + i)) (by rw [e1]) (by omega) | refine Ex.go rfl rfl ?_ | refine Ex.gf rfl rfl (by assumption) (by rfl) (by first | rfl | assumption) ?_))
      have hall : msP lg v p s x y (a0 + 1 + i) ∧ dyy lg a0 ≤ dyy lg (a0 + 1 + i) ∧ dyy lg (a0 + 1 + i) < bf := ⟨⟨h1, Int32.not_lt.mp h2, h3⟩, Int32.not_lt.mp h4, Int32.not_le.mp h5⟩
      (repeat (first | refine Ex.go rfl rfl ?_ | refine Ex.gf rfl rfl (by assumption) (by rfl) (by first | rfl | assumption) ?_))
      refine Ex.cv2 rfl rfl rfl (by assumption) (by rfl) (by decide) rfl ?_
      refine r_isLater h (by omega) hk ?_
      (repeat (first | refine Ex.go rfl rfl ?_ | refine Ex.gf rfl rfl (by assumption) (by rfl) (by first | rfl | assumption) ?_))
      refine Ex.brz (fun h6 => ?_) (fun h6 => ?_); rotate_left
      · have e1 : meaU lg v p s x y a0 bf (i + 1) = meaU lg v p s x y a0 bf i := if_neg fun z => h6 z.2
        (repeat (first | exact ih (i + 1) _ _ (nI_1 (a0 + 1 + i)) (by rw [e1]) (by omega) | refine Ex.go rfl rfl ?_ | refine Ex.gf rfl rfl (by assumption) (by rfl) (by first | rfl | assumption) ?_))
      have e1 : meaU lg v p s x y a0 bf (i + 1) = some (a0 + 1 + i) := if_pos ⟨hall, h6⟩
      (repeat (first | exact ih (i + 1) _ _ (nI_1 (a0 + 1 + i)) (by rw [e1]; rfl) (by omega) | refine Ex.go rfl rfl ?_ | refine Ex.gf rfl rfl (by assumption) (by rfl) (by first | rfl | assumption) ?_))
  (repeat (first | exact up (E - (a0 + 1)) 0 _ _ (nI_1 a0) rfl (by omega) | refine Ex.go rfl rfl ?_ | refine Ex.gf rfl rfl (by assumption) (by rfl) (by first | rfl | assumption) ?_))
end RR
