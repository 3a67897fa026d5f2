/-! The reference's readers: plates, plugs, valves, owners, dues. -/
abbrev isP (lg : Nat → Int32) (c v p : Int32) (i : Nat) : Prop := cod lg i = c ∧ num lg i 0 = v ∧ num lg i 1 = p
abbrev stP (lg : Nat → Int32) (x y : Int32) (i : Nat) : Prop := ent lg i ≤ y ∧ dyy lg i ≤ x
abbrev goP (lg : Nat → Int32) (v kd : Int32) (i : Nat) : Prop := isP lg 10 v kd i ∧ num lg i 3 = 0
abbrev meP (lg : Nat → Int32) (v : Int32) (i : Nat) : Prop := (cod lg i = 5 ∨ cod lg i = 6) ∧ num lg i 0 = v
/-- the last of code c of (v, p) that stands, behind s0, from f to E -/
def lof (lg : Nat → Int32) (c v p x y : Int32) (s0 : Option Nat) (f n : Nat) : Option Nat := lat (dyy lg) (fun i => isP lg c v p i ∧ stP lg x y i) s0 f n
theorem lof_lt {lg : Nat → Int32} {c v p x y : Int32} {s0 : Option Nat} {f n B : Nat} (h0 : ∀ k, s0 = some k → k < B) (hB : f + n ≤ B) {k : Nat} (h : lof lg c v p x y s0 f n = some k) : k < B := lat_lt h0 hB h
section RR
variable {d : Nat} {G : bo_G} {Q : Option Value → bo_G → Prop} {fs : List Value} {lg : Nat → Int32} {E : Nat} {td : Int32} {VS : Nat} {pt vl pp va pa wa nn : Nat → Int32}
theorem r_plugged {v p x y : Int32} (h : RD G fs lg E td VS pt vl pp va pa wa nn) (k : Q (some (.int (match lof lg 7 v p x y none 0 E with | none => 0 | some i => num lg i 2))) G) : Cx (d + 2) mX11_plugged [.ref 364, .int v, .int p, .int x, .int y] G Q := by
  have g0 := h.1.1
  have g2 := h.1.2.2.1
  have hE := h.2.2.1
  refine Cx.body rfl rfl ?_
  have loop : ∀ (e i : Nat) (a b : Int32), a = nI i → b = oI (lof lg 7 v p x y none 0 i) → i + e = E → Ex (d + 2) mX11_plugged (6, [(0, .ref 364), (1, .int v), (2, .int p), (3, .int x), (4, .int y), (5, .int b), (6, .int a)], [], G) Q := by
    intro e
    induction e with
    | zero =>
      intro i a b ha hb hi
      subst ha hb
      rw [show E = i by omega] at k
      (repeat (first | refine Ex.go rfl rfl ?_ | refine Ex.gf rfl rfl (by assumption) (by rfl) (by first | rfl | assumption) ?_))
      refine Ex.br (fun hc => ?_) (fun hc => ?_)
      · cases hs : lof lg 7 v p x y none 0 i with
        | none =>
          rw [hs] at k
          (repeat (first | refine Ex.go rfl rfl ?_ | refine Ex.gf rfl rfl (by assumption) (by rfl) (by first | rfl | assumption) ?_))
          refine Ex.ret rfl rfl rfl ?_
          exact k
        | some j =>
          have hj := lof_lt (B := E) (fun k hk => by cases hk) (by omega) hs
          rw [hs] at k
          (repeat (first | refine Ex.go rfl rfl ?_ | refine Ex.gf rfl rfl (by assumption) (by rfl) (by first | rfl | assumption) ?_))
          refine Ex.br (fun hc2 => ?_) (fun hc2 => ?_)
          · (repeat (first | refine Ex.go rfl rfl ?_ | refine Ex.gf rfl rfl (by assumption) (by rfl) (by first | rfl | assumption) ?_))
            refine Ex.cv2 rfl rfl rfl (by assumption) (by rfl) (by decide) rfl ?_
            refine r_number (j := 2) h (by omega) (by omega) ?_
            refine Ex.ret rfl rfl rfl ?_
            exact k
          · exact absurd (nI_pos' (n := j) (by omega)) hc2
      · exact absurd (nI_le (show E ≤ i by omega) (by omega)) hc
    | succ e ih =>
      intro i a b ha hb hi
      subst ha hb
      have hs : ∀ k, lof lg 7 v p x y none 0 i = some k → k < 6000 := fun k hk => by have := lof_lt (B := E) (fun k hk => by cases hk) (by omega) hk; omega
      have ef : (0 : Nat) + i = i := Nat.zero_add i
      (repeat (first | refine Ex.go rfl rfl ?_ | refine Ex.gf rfl rfl (by assumption) (by rfl) (by first | rfl | assumption) ?_))
      refine Ex.br (fun hc => ?_) (fun hc => ?_)
      · have := (n_ge (a := i) (b := E) (by omega) (by omega)).mp hc
        omega
      (repeat (first | refine Ex.go rfl rfl ?_ | refine Ex.gf rfl rfl (by assumption) (by rfl) (by first | rfl | assumption) ?_))
      refine Ex.cv4 rfl rfl rfl (by assumption) (by rfl) (by decide) rfl ?_
      refine r_isOf h (by omega) ?_
      (repeat (first | refine Ex.go rfl rfl ?_ | refine Ex.gf rfl rfl (by assumption) (by rfl) (by first | rfl | assumption) ?_))
      refine Ex.brz (fun h1 => ?_) (fun h1 => ?_); rotate_left
      · have e1 : lof lg 7 v p x y none 0 (i + 1) = lof lg 7 v p x y none 0 i := if_neg fun z => h1 (by have := z.1.1; rw [ef] at this; exact this)
        (repeat (first | exact ih (i + 1) _ _ (nI_1 i) (by rw [e1]) (by omega) | refine Ex.go rfl rfl ?_ | refine Ex.gf rfl rfl (by assumption) (by rfl) (by first | rfl | assumption) ?_))
      (repeat (first | refine Ex.go rfl rfl ?_ | refine Ex.gf rfl rfl (by assumption) (by rfl) (by first | rfl | assumption) ?_))
      refine Ex.cv3 rfl rfl rfl (by assumption) (by rfl) (by decide) rfl ?_
      refine r_stands h (by omega) ?_
      (repeat (first | refine Ex.go rfl rfl ?_ | refine Ex.gf rfl rfl (by assumption) (by rfl) (by first | rfl | assumption) ?_))
      refine Ex.brz (fun h2 => ?_) (fun h2 => ?_); rotate_left
      · have e1 : lof lg 7 v p x y none 0 (i + 1) = lof lg 7 v p x y none 0 i := if_neg fun z => h2 (by have := z.1.2; rw [ef] at this; exact this)
        (repeat (first | exact ih (i + 1) _ _ (nI_1 i) (by rw [e1]) (by omega) | refine Ex.go rfl rfl ?_ | refine Ex.gf rfl rfl (by assumption) (by rfl) (by first | rfl | assumption) ?_))
      (repeat (first | refine Ex.go rfl rfl ?_ | refine Ex.gf rfl rfl (by assumption) (by rfl) (by first | rfl | assumption) ?_))
      refine Ex.cv2 rfl rfl rfl (by assumption) (by rfl) (by decide) rfl ?_
      refine r_isLater h (by omega) hs ?_
      (repeat (first | refine Ex.go rfl rfl ?_ | refine Ex.gf rfl rfl (by assumption) (by rfl) (by first | rfl | assumption) ?_))
      refine Ex.brz (fun h3 => ?_) (fun h3 => ?_); rotate_left
      · have e1 : lof lg 7 v p x y none 0 (i + 1) = lof lg 7 v p x y none 0 i := if_neg fun z => h3 (by have := z.2; rw [ef] at this; exact this)
        (repeat (first | exact ih (i + 1) _ _ (nI_1 i) (by rw [e1]) (by omega) | refine Ex.go rfl rfl ?_ | refine Ex.gf rfl rfl (by assumption) (by rfl) (by first | rfl | assumption) ?_))
      have e1 : lof lg 7 v p x y none 0 (i + 1) = some (0 + i) := if_pos (by rw [ef]; exact ⟨⟨h1, h2⟩, h3⟩)
      rw [ef] at e1
      (repeat (first | exact ih (i + 1) _ _ (nI_1 i) (by rw [e1]; rfl) (by omega) | refine Ex.go rfl rfl ?_ | refine Ex.gf rfl rfl (by assumption) (by rfl) (by first | rfl | assumption) ?_))
  (repeat (first | exact loop E 0 _ _ rfl rfl (by omega) | refine Ex.go rfl rfl ?_ | refine Ex.gf rfl rfl (by assumption) (by rfl) (by first | rfl | assumption) ?_))
theorem r_owner {v : Nat} {a0 : Nat} {x y : Int32} (h : RD G fs lg E td VS pt vl pp va pa wa nn) (hv : v < 30) (ha0 : va v = nI a0) (ha2 : a0 < 6000) (k : Q (some (.int (match lof lg 10 (nI v) 5 x y none 0 E with | none => num lg a0 0 | some i => num lg i 2))) G) : Cx (d + 2) mX11_owner [.ref 364, .int (nI v), .int x, .int y] G Q := by
  have h' := h
  obtain ⟨⟨g0, g1, g2, g3, g4, g5, g6, g7, g8, -⟩, ⟨h0, h1, h2, h3, h4, -⟩, hE, -⟩ := h
  have h := h'
  refine Cx.body rfl rfl ?_
  have loop : ∀ (e i : Nat) (a b : Int32), a = nI i → b = oI (lof lg 10 (nI v) 5 x y none 0 i) → i + e = E → Ex (d + 2) mX11_owner (6, [(0, .ref 364), (1, .int (nI v)), (2, .int x), (3, .int y), (4, .int b), (5, .int a)], [], G) Q := by
    intro e
    induction e with
    | zero =>
      intro i a b ha hb hi
      subst ha hb
      rw [show E = i by omega] at k
      (repeat (first | refine Ex.go rfl rfl ?_ | refine Ex.gf rfl rfl (by assumption) (by rfl) (by first | rfl | assumption) ?_))
      refine Ex.br (fun hc => ?_) (fun hc => ?_)
      · cases hs : lof lg 10 (nI v) 5 x y none 0 i with
        | none =>
          rw [hs] at k
          (repeat (first | refine Ex.go rfl rfl ?_ | refine Ex.gf rfl rfl (by assumption) (by rfl) (by first | rfl | assumption) ?_))
          refine Ex.ialN rfl (j := v) rfl (by assumption) (by omega) (by omega) ?_
          rw [ha0]
          (repeat (first | refine Ex.go rfl rfl ?_ | refine Ex.gf rfl rfl (by assumption) (by rfl) (by first | rfl | assumption) ?_))
          refine Ex.cv2 rfl rfl rfl (by assumption) (by rfl) (by decide) rfl ?_
          refine r_number (j := 0) h (by omega) (by omega) ?_
          (repeat (first | refine Ex.go rfl rfl ?_ | refine Ex.gf rfl rfl (by assumption) (by rfl) (by first | rfl | assumption) ?_))
          refine Ex.ret rfl rfl rfl ?_
          exact k
        | some j =>
          have hj := lof_lt (B := E) (fun k hk => by cases hk) (by omega) hs
          rw [hs] at k
          (repeat (first | refine Ex.go rfl rfl ?_ | refine Ex.gf rfl rfl (by assumption) (by rfl) (by first | rfl | assumption) ?_))
          refine Ex.br (fun hc2 => ?_) (fun hc2 => ?_)
          · (repeat (first | refine Ex.go rfl rfl ?_ | refine Ex.gf rfl rfl (by assumption) (by rfl) (by first | rfl | assumption) ?_))
            refine Ex.cv2 rfl rfl rfl (by assumption) (by rfl) (by decide) rfl ?_
            refine r_number (j := 2) h (by omega) (by omega) ?_
            refine Ex.ret rfl rfl rfl ?_
            exact k
          · exact absurd (nI_pos' (n := j) (by omega)) hc2
      · exact absurd (nI_le (show E ≤ i by omega) (by omega)) hc
    | succ e ih =>
      intro i a b ha hb hi
      subst ha hb
      have hs : ∀ k, lof lg 10 (nI v) 5 x y none 0 i = some k → k < 6000 := fun k hk => by have := lof_lt (B := E) (fun k hk => by cases hk) (by omega) hk; omega
      have ef : (0 : Nat) + i = i := Nat.zero_add i
      (repeat (first | refine Ex.go rfl rfl ?_ | refine Ex.gf rfl rfl (by assumption) (by rfl) (by first | rfl | assumption) ?_))
      refine Ex.br (fun hc => ?_) (fun hc => ?_)
      · have := (n_ge (a := i) (b := E) (by omega) (by omega)).mp hc
        omega
      (repeat (first | refine Ex.go rfl rfl ?_ | refine Ex.gf rfl rfl (by assumption) (by rfl) (by first | rfl | assumption) ?_))
      refine Ex.cv4 rfl rfl rfl (by assumption) (by rfl) (by decide) rfl ?_
      refine r_isOf h (by omega) ?_
      (repeat (first | refine Ex.go rfl rfl ?_ | refine Ex.gf rfl rfl (by assumption) (by rfl) (by first | rfl | assumption) ?_))
      refine Ex.brz (fun h1 => ?_) (fun h1 => ?_); rotate_left
      · have e1 : lof lg 10 (nI v) 5 x y none 0 (i + 1) = lof lg 10 (nI v) 5 x y none 0 i := if_neg fun z => h1 (by have := z.1.1; rw [ef] at this; exact this)
        (repeat (first | exact ih (i + 1) _ _ (nI_1 i) (by rw [e1]) (by omega) | refine Ex.go rfl rfl ?_ | refine Ex.gf rfl rfl (by assumption) (by rfl) (by first | rfl | assumption) ?_))
      (repeat (first | refine Ex.go rfl rfl ?_ | refine Ex.gf rfl rfl (by assumption) (by rfl) (by first | rfl | assumption) ?_))
      refine Ex.cv3 rfl rfl rfl (by assumption) (by rfl) (by decide) rfl ?_
      refine r_stands h (by omega) ?_
      (repeat (first | refine Ex.go rfl rfl ?_ | refine Ex.gf rfl rfl (by assumption) (by rfl) (by first | rfl | assumption) ?_))
      refine Ex.brz (fun h2 => ?_) (fun h2 => ?_); rotate_left
      · have e1 : lof lg 10 (nI v) 5 x y none 0 (i + 1) = lof lg 10 (nI v) 5 x y none 0 i := if_neg fun z => h2 (by have := z.1.2; rw [ef] at this; exact this)
        (repeat (first | exact ih (i + 1) _ _ (nI_1 i) (by rw [e1]) (by omega) | refine Ex.go rfl rfl ?_ | refine Ex.gf rfl rfl (by assumption) (by rfl) (by first | rfl | assumption) ?_))
      (repeat (first | refine Ex.go rfl rfl ?_ | refine Ex.gf rfl rfl (by assumption) (by rfl) (by first | rfl | assumption) ?_))
      refine Ex.cv2 rfl rfl rfl (by assumption) (by rfl) (by decide) rfl ?_
      refine r_isLater h (by omega) hs ?_
      (repeat (first | refine Ex.go rfl rfl ?_ | refine Ex.gf rfl rfl (by assumption) (by rfl) (by first | rfl | assumption) ?_))
      refine Ex.brz (fun h3 => ?_) (fun h3 => ?_); rotate_left
      · have e1 : lof lg 10 (nI v) 5 x y none 0 (i + 1) = lof lg 10 (nI v) 5 x y none 0 i := if_neg fun z => h3 (by have := z.2; rw [ef] at this; exact this)
        (repeat (first | exact ih (i + 1) _ _ (nI_1 i) (by rw [e1]) (by omega) | refine Ex.go rfl rfl ?_ | refine Ex.gf rfl rfl (by assumption) (by rfl) (by first | rfl | assumption) ?_))
      have e1 : lof lg 10 (nI v) 5 x y none 0 (i + 1) = some (0 + i) := if_pos (by rw [ef]; exact ⟨⟨h1, h2⟩, h3⟩)
      rw [ef] at e1
      (repeat (first | exact ih (i + 1) _ _ (nI_1 i) (by rw [e1]; rfl) (by omega) | refine Ex.go rfl rfl ?_ | refine Ex.gf rfl rfl (by assumption) (by rfl) (by first | rfl | assumption) ?_))
  (repeat (first | exact loop E 0 _ _ rfl rfl (by omega) | refine Ex.go rfl rfl ?_ | refine Ex.gf rfl rfl (by assumption) (by rfl) (by first | rfl | assumption) ?_))
theorem r_plateAt {v p a0 : Nat} {x y : Int32} (h : RD G fs lg E td VS pt vl pp va pa wa nn) (hv : 24 * v + p < 720) (ha0 : pa (24 * v + p) = nI a0) (ha2 : a0 < E) (k : Q (some (.int (oI (lof lg 6 (nI v) (nI p) x y (some a0) (a0 + 1) (E - (a0 + 1)))))) G) : Cx (d + 2) mX11_plateAt [.ref 364, .int (nI v), .int (nI p), .int x, .int y] G Q := by
  have h' := h
  obtain ⟨⟨g0, g1, g2, g3, g4, g5, g6, g7, g8, g9, -⟩, ⟨h0, h1, h2, h3, h4, h5, -⟩, hE, -⟩ := h
  have h := h'
  refine Cx.body rfl rfl ?_
  (repeat (first | refine Ex.go rfl rfl ?_ | refine Ex.gf rfl rfl (by assumption) (by rfl) (by first | rfl | assumption) ?_))
  refine Ex.ialN rfl (show nI 24 * nI v + nI p = nI (24 * v + p) by rw [pk_mul, nI_add]) (by assumption) (by omega) (by omega) ?_
  rw [ha0]
  have loop : ∀ (e i : Nat) (a b : Int32), a = nI (a0 + 1 + i) → b = oI (lof lg 6 (nI v) (nI p) x y (some a0) (a0 + 1) i) → a0 + 1 + i + e = E → Ex (d + 2) mX11_plateAt (19, [(0, .ref 364), (1, .int (nI v)), (2, .int (nI p)), (3, .int x), (4, .int y), (5, .int b), (6, .int a)], [], G) Q := by
    intro e
    induction e with
    | zero =>
      intro i a b ha hb hi
      subst ha hb
      (repeat (first | refine Ex.go rfl rfl ?_ | refine Ex.gf rfl rfl (by assumption) (by rfl) (by first | rfl | assumption) ?_))
      refine Ex.br (fun hc => ?_) (fun hc => ?_)
      · rw [show E - (a0 + 1) = i by omega] at k
        (repeat (first | refine Ex.go rfl rfl ?_ | refine Ex.gf rfl rfl (by assumption) (by rfl) (by first | rfl | assumption) ?_))
        refine Ex.ret rfl rfl rfl ?_
        exact k
      · exact absurd (nI_le (show E ≤ a0 + 1 + i by omega) (by omega)) hc
    | succ e ih =>
      intro i a b ha hb hi
      subst ha hb
      have hs : ∀ k, lof lg 6 (nI v) (nI p) x y (some a0) (a0 + 1) i = some k → k < 6000 := fun k hk => by have := lof_lt (B := E) (fun k hk => by cases hk; exact ha2) (by omega) hk; omega
      (repeat (first | refine Ex.go rfl rfl ?_ | refine Ex.gf rfl rfl (by assumption) (by rfl) (by first | rfl | assumption) ?_))
      refine Ex.br (fun hc => ?_) (fun hc => ?_)
      · have := (n_ge (a := a0 + 1 + i) (b := E) (by omega) (by omega)).mp hc
        omega
      (repeat (first | refine Ex.go rfl rfl ?_ | refine Ex.gf rfl rfl (by assumption) (by rfl) (by first | rfl | assumption) ?_))
      refine Ex.cv4 rfl rfl rfl (by assumption) (by rfl) (by decide) rfl ?_
      refine r_isOf h (by omega) ?_
      (repeat (first | refine Ex.go rfl rfl ?_ | refine Ex.gf rfl rfl (by assumption) (by rfl) (by first | rfl | assumption) ?_))
      refine Ex.brz (fun h1 => ?_) (fun h1 => ?_); rotate_left
      · have e1 : lof lg 6 (nI v) (nI p) x y (some a0) (a0 + 1) (i + 1) = lof lg 6 (nI v) (nI p) x y (some a0) (a0 + 1) i := if_neg fun z => h1 z.1.1
        (repeat (first | exact ih (i + 1) _ _ (nI_1 (a0 + 1 + i)) (by rw [e1]) (by omega) | refine Ex.go rfl rfl ?_ | refine Ex.gf rfl rfl (by assumption) (by rfl) (by first | rfl | assumption) ?_))
      (repeat (first | refine Ex.go rfl rfl ?_ | refine Ex.gf rfl rfl (by assumption) (by rfl) (by first | rfl | assumption) ?_))
      refine Ex.cv3 rfl rfl rfl (by assumption) (by rfl) (by decide) rfl ?_
      refine r_stands h (by omega) ?_
      (repeat (first | refine Ex.go rfl rfl ?_ | refine Ex.gf rfl rfl (by assumption) (by rfl) (by first | rfl | assumption) ?_))
      refine Ex.brz (fun h2 => ?_) (fun h2 => ?_); rotate_left
      · have e1 : lof lg 6 (nI v) (nI p) x y (some a0) (a0 + 1) (i + 1) = lof lg 6 (nI v) (nI p) x y (some a0) (a0 + 1) i := if_neg fun z => h2 z.1.2
        (repeat (first | exact ih (i + 1) _ _ (nI_1 (a0 + 1 + i)) (by rw [e1]) (by omega) | refine Ex.go rfl rfl ?_ | refine Ex.gf rfl rfl (by assumption) (by rfl) (by first | rfl | assumption) ?_))
      (repeat (first | refine Ex.go rfl rfl ?_ | refine Ex.gf rfl rfl (by assumption) (by rfl) (by first | rfl | assumption) ?_))
      refine Ex.cv2 rfl rfl rfl (by assumption) (by rfl) (by decide) rfl ?_
      refine r_isLater h (by omega) hs ?_
      (repeat (first | refine Ex.go rfl rfl ?_ | refine Ex.gf rfl rfl (by assumption) (by rfl) (by first | rfl | assumption) ?_))
      refine Ex.brz (fun h3 => ?_) (fun h3 => ?_); rotate_left
      · have e1 : lof lg 6 (nI v) (nI p) x y (some a0) (a0 + 1) (i + 1) = lof lg 6 (nI v) (nI p) x y (some a0) (a0 + 1) i := if_neg fun z => h3 z.2
        (repeat (first | exact ih (i + 1) _ _ (nI_1 (a0 + 1 + i)) (by rw [e1]) (by omega) | refine Ex.go rfl rfl ?_ | refine Ex.gf rfl rfl (by assumption) (by rfl) (by first | rfl | assumption) ?_))
      have e1 : lof lg 6 (nI v) (nI p) x y (some a0) (a0 + 1) (i + 1) = some (a0 + 1 + i) := if_pos ⟨⟨h1, h2⟩, h3⟩
      (repeat (first | exact ih (i + 1) _ _ (nI_1 (a0 + 1 + i)) (by rw [e1]; rfl) (by omega) | refine Ex.go rfl rfl ?_ | refine Ex.gf rfl rfl (by assumption) (by rfl) (by first | rfl | assumption) ?_))
  (repeat (first | exact loop (E - (a0 + 1)) 0 _ _ (nI_1 a0) rfl (by omega) | refine Ex.go rfl rfl ?_ | refine Ex.gf rfl rfl (by assumption) (by rfl) (by first | rfl | assumption) ?_))
end RR
