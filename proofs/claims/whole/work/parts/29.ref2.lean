/-! The reference's readers: what is of a part, what stands, the last of several. -/
def oI : Option Nat → Int32
  | none => -1
  | some k => nI k
theorem oI_neg {s : Option Nat} (hs : ∀ k, s = some k → k < 2 ^ 31) : oI s < 0 ↔ s = none := by
  cases s with
  | none => exact ⟨fun _ => rfl, fun _ => by decide⟩
  | some k => exact ⟨fun h => absurd h (nI_pos (hs k rfl)), fun h => by cases h⟩
/-- the last one below n of which P holds -/
def lst (P : Nat → Prop) [DecidablePred P] : Nat → Option Nat
  | 0 => none
  | n + 1 => if P n then some n else lst P n
theorem lst_lt {P : Nat → Prop} [DecidablePred P] : ∀ {n k : Nat}, lst P n = some k → k < n ∧ P k := by
  intro n
  induction n with
  | zero => intro k h; cases h
  | succ n ih =>
    intro k h
    unfold lst at h
    split at h
    · cases h
      exact ⟨Nat.lt_succ_self _, by assumption⟩
    · exact ⟨Nat.lt_succ_of_lt (ih h).1, (ih h).2⟩
/-- of day not ahead of that of s (none: yes) -/
def ltr (dy : Nat → Int32) (i : Nat) (s : Option Nat) : Prop := ∀ j, s = some j → dy j ≤ dy i
theorem ltr_iff {dy : Nat → Int32} {i : Nat} {s : Option Nat} : ltr dy i s ↔ (match s with | none => True | some j => dy j ≤ dy i) := by
  cases s with
  | none => exact ⟨fun _ => trivial, fun _ j h => by cases h⟩
  | some j => exact ⟨fun h => h j rfl, fun h k hk => by cases hk; exact h⟩
def ltb (dy : Nat → Int32) (i : Nat) (s : Option Nat) : Bool := match s with
  | none => true
  | some j => decide (dy j ≤ dy i)
/-- from f on, n of them: the last of those of which P holds, by day and then by place, and s0 ahead of them -/
def lat (dy : Nat → Int32) (P : Nat → Prop) [DecidablePred P] (s0 : Option Nat) (f : Nat) : Nat → Option Nat
  | 0 => s0
  | n + 1 => if P (f + n) ∧ ltb dy (f + n) (lat dy P s0 f n) = true then some (f + n) else lat dy P s0 f n
theorem lat_lt {dy : Nat → Int32} {P : Nat → Prop} [DecidablePred P] {s0 : Option Nat} {f B : Nat} (h0 : ∀ k, s0 = some k → k < B) : ∀ {n k : Nat}, f + n ≤ B → lat dy P s0 f n = some k → k < B := by
  intro n
  induction n with
  | zero => intro k _ h; exact h0 k h
  | succ n ih =>
    intro k hb h
    unfold lat at h
    split at h
    · cases h; omega
    · exact ih (by omega) h
section RR
variable {d : Nat} {G : bo_G} {Q : Option Value → bo_G → Prop} {fs : List Value} {lg : Nat → Int32} {E : Nat} {td : Int32} {VS : Nat} {pt vl pp va pa wa nn : Nat → Int32}
theorem r_stands {i : Nat} {x y : Int32} (h : RD G fs lg E td VS pt vl pp va pa wa nn) (hi : i < 6000) (k : Q (some (.int (bo_b (ent lg i ≤ y ∧ dyy lg i ≤ x)))) G) : Cx (d + 1) mX11_stands [.ref 364, .int (nI i), .int x, .int y] G Q := by
  have g0 := h.1.1
  refine Cx.body rfl rfl ?_
  (repeat (first | refine Ex.go rfl rfl ?_ | refine Ex.gf rfl rfl (by assumption) (by rfl) (by first | rfl | assumption) ?_))
  refine Ex.cv1 rfl rfl rfl (by assumption) (by rfl) (by decide) rfl ?_
  refine r_entered h hi ?_
  (repeat (first | refine Ex.go rfl rfl ?_ | refine Ex.gf rfl rfl (by assumption) (by rfl) (by first | rfl | assumption) ?_))
  refine Ex.br (fun hb => ?_) (fun hb => ?_)
  · rw [bo_b_f (fun z => absurd z.1 (Int32.not_le.mpr hb))] at k
    (repeat (first | refine Ex.go rfl rfl ?_ | refine Ex.gf rfl rfl (by assumption) (by rfl) (by first | rfl | assumption) ?_))
    refine Ex.retz rfl rfl rfl (Or.inl rfl) ?_
    exact k
  · have h1 := Int32.not_lt.mp hb
    (repeat (first | refine Ex.go rfl rfl ?_ | refine Ex.gf rfl rfl (by assumption) (by rfl) (by first | rfl | assumption) ?_))
    refine Ex.cv1 rfl rfl rfl (by assumption) (by rfl) (by decide) rfl ?_
    refine r_day h hi ?_
    (repeat (first | refine Ex.go rfl rfl ?_ | refine Ex.gf rfl rfl (by assumption) (by rfl) (by first | rfl | assumption) ?_))
    refine Ex.br (fun hb => ?_) (fun hb => ?_)
    · rw [bo_b_f (fun z => absurd z.2 (Int32.not_le.mpr hb))] at k
      (repeat (first | refine Ex.go rfl rfl ?_ | refine Ex.gf rfl rfl (by assumption) (by rfl) (by first | rfl | assumption) ?_))
      refine Ex.retz rfl rfl rfl (Or.inl rfl) ?_
      exact k
    · rw [bo_b_t ⟨h1, Int32.not_lt.mp hb⟩] at k
      (repeat (first | refine Ex.go rfl rfl ?_ | refine Ex.gf rfl rfl (by assumption) (by rfl) (by first | rfl | assumption) ?_))
      refine Ex.retz rfl rfl rfl (Or.inr rfl) ?_
      exact k
theorem r_isLater {i : Nat} {s : Option Nat} (h : RD G fs lg E td VS pt vl pp va pa wa nn) (hi : i < 6000) (hs : ∀ k, s = some k → k < 6000) (k : Q (some (.int (bo_b (ltb (dyy lg) i s = true)))) G) : Cx (d + 1) mX11_isLater [.ref 364, .int (nI i), .int (oI s)] G Q := by
  have g0 := h.1.1
  refine Cx.body rfl rfl ?_
  (repeat (first | refine Ex.go rfl rfl ?_ | refine Ex.gf rfl rfl (by assumption) (by rfl) (by first | rfl | assumption) ?_))
  refine Ex.br (fun hb => ?_) (fun hb => ?_)
  · have := (oI_neg (fun k hk => by have := hs k hk; omega)).mp hb
    subst this
    rw [bo_b_t (P := ltb (dyy lg) i none = true) rfl] at k
    (repeat (first | refine Ex.go rfl rfl ?_ | refine Ex.gf rfl rfl (by assumption) (by rfl) (by first | rfl | assumption) ?_))
    refine Ex.retz rfl rfl rfl (Or.inr rfl) ?_
    exact k
  · cases s with
    | none => exact absurd (by decide) hb
    | some j =>
      have hj := hs j rfl
      (repeat (first | refine Ex.go rfl rfl ?_ | refine Ex.gf rfl rfl (by assumption) (by rfl) (by first | rfl | assumption) ?_))
      refine Ex.cv1 rfl rfl rfl (by assumption) (by rfl) (by decide) rfl ?_
      refine r_day h hi ?_
      (repeat (first | refine Ex.go rfl rfl ?_ | refine Ex.gf rfl rfl (by assumption) (by rfl) (by first | rfl | assumption) ?_))
      refine Ex.cv1 rfl rfl rfl (by assumption) (by rfl) (by decide) rfl ?_
      refine r_day h hj ?_
      (repeat (first | refine Ex.go rfl rfl ?_ | refine Ex.gf rfl rfl (by assumption) (by rfl) (by first | rfl | assumption) ?_))
      refine Ex.br (fun hb => ?_) (fun hb => ?_)
      · rw [bo_b_f (P := ltb (dyy lg) i (some j) = true) (fun z => absurd (of_decide_eq_true z) (Int32.not_le.mpr hb))] at k
        (repeat (first | refine Ex.go rfl rfl ?_ | refine Ex.gf rfl rfl (by assumption) (by rfl) (by first | rfl | assumption) ?_))
        refine Ex.retz rfl rfl rfl (Or.inl rfl) ?_
        exact k
      · rw [bo_b_t (P := ltb (dyy lg) i (some j) = true) (decide_eq_true (Int32.not_lt.mp hb))] at k
        (repeat (first | refine Ex.go rfl rfl ?_ | refine Ex.gf rfl rfl (by assumption) (by rfl) (by first | rfl | assumption) ?_))
        refine Ex.retz rfl rfl rfl (Or.inr rfl) ?_
        exact k
theorem r_isOf {i : Nat} {c v p : Int32} (h : RD G fs lg E td VS pt vl pp va pa wa nn) (hi : i < 6000) (k : Q (some (.int (bo_b (cod lg i = c ∧ num lg i 0 = v ∧ num lg i 1 = p)))) G) : Cx (d + 1) mX11_isOf [.ref 364, .int (nI i), .int c, .int v, .int p] G Q := by
  have g0 := h.1.1
  refine Cx.body rfl rfl ?_
  (repeat (first | refine Ex.go rfl rfl ?_ | refine Ex.gf rfl rfl (by assumption) (by rfl) (by first | rfl | assumption) ?_))
  refine Ex.cv1 rfl rfl rfl (by assumption) (by rfl) (by decide) rfl ?_
  refine r_code h hi ?_
  (repeat (first | refine Ex.go rfl rfl ?_ | refine Ex.gf rfl rfl (by assumption) (by rfl) (by first | rfl | assumption) ?_))
  refine Ex.br (fun hb => ?_) (fun hb => ?_)
  · rw [bo_b_f (fun z => hb z.1)] at k
    (repeat (first | refine Ex.go rfl rfl ?_ | refine Ex.gf rfl rfl (by assumption) (by rfl) (by first | rfl | assumption) ?_))
    refine Ex.retz rfl rfl rfl (Or.inl rfl) ?_
    exact k
  · have h1 := Decidable.not_not.mp hb
    (repeat (first | refine Ex.go rfl rfl ?_ | refine Ex.gf rfl rfl (by assumption) (by rfl) (by first | rfl | assumption) ?_))
    refine Ex.cv2 rfl rfl rfl (by assumption) (by rfl) (by decide) rfl ?_
    refine r_number (j := 0) h hi (by omega) ?_
    (repeat (first | refine Ex.go rfl rfl ?_ | refine Ex.gf rfl rfl (by assumption) (by rfl) (by first | rfl | assumption) ?_))
    refine Ex.br (fun hb => ?_) (fun hb => ?_)
    · rw [bo_b_f (fun z => hb z.2.1)] at k
      (repeat (first | refine Ex.go rfl rfl ?_ | refine Ex.gf rfl rfl (by assumption) (by rfl) (by first | rfl | assumption) ?_))
      refine Ex.retz rfl rfl rfl (Or.inl rfl) ?_
      exact k
    · have h2 := Decidable.not_not.mp hb
      (repeat (first | refine Ex.go rfl rfl ?_ | refine Ex.gf rfl rfl (by assumption) (by rfl) (by first | rfl | assumption) ?_))
      refine Ex.cv2 rfl rfl rfl (by assumption) (by rfl) (by decide) rfl ?_
      refine r_number (j := 1) h hi (by omega) ?_
      (repeat (first | refine Ex.go rfl rfl ?_ | refine Ex.gf rfl rfl (by assumption) (by rfl) (by first | rfl | assumption) ?_))
      refine Ex.br (fun hb => ?_) (fun hb => ?_)
      · rw [bo_b_f (fun z => hb z.2.2)] at k
        (repeat (first | refine Ex.go rfl rfl ?_ | refine Ex.gf rfl rfl (by assumption) (by rfl) (by first | rfl | assumption) ?_))
        refine Ex.retz rfl rfl rfl (Or.inl rfl) ?_
        exact k
      · rw [bo_b_t ⟨h1, h2, Decidable.not_not.mp hb⟩] at k
        (repeat (first | refine Ex.go rfl rfl ?_ | refine Ex.gf rfl rfl (by assumption) (by rfl) (by first | rfl | assumption) ?_))
        refine Ex.retz rfl rfl rfl (Or.inr rfl) ?_
        exact k
/-- the last shape of a part, as known -/
def shp (lg : Nat → Int32) (E : Nat) (v p k : Int32) : Option Nat := lst (fun i => cod lg i = 3 ∧ num lg i 0 = v ∧ num lg i 1 = p ∧ ent lg i ≤ k) E
theorem r_shapeOf {v p y : Int32} (h : RD G fs lg E td VS pt vl pp va pa wa nn) (k : Q (some (.int (oI (shp lg E v p y)))) G) : Cx (d + 1) mX11_shapeOf [.ref 364, .int v, .int p, .int y] G Q := by
  have g0 := h.1.1
  have g2 := h.1.2.2.1
  have hE := h.2.2.1
  refine Cx.body rfl rfl ?_
  have loop : ∀ (e i : Nat) (x z : Int32), x = nI i → z = oI (shp lg i v p y) → i + e = E → Ex (d + 1) mX11_shapeOf (6, [(0, .ref 364), (1, .int v), (2, .int p), (3, .int y), (4, .int z), (5, .int x)], [], G) Q := by
    intro e
    induction e with
    | zero =>
      intro i x z hx hz hi
      subst hx hz
      (repeat (first | refine Ex.go rfl rfl ?_ | refine Ex.gf rfl rfl (by assumption) (by rfl) (by first | rfl | assumption) ?_))
      refine Ex.br (fun hb => ?_) (fun hb => ?_)
      · (repeat (first | refine Ex.go rfl rfl ?_ | refine Ex.gf rfl rfl (by assumption) (by rfl) (by first | rfl | assumption) ?_))
        refine Ex.ret rfl rfl rfl ?_
        rw [show E = i by omega] at k
        exact k
      · exact absurd (nI_le (show E ≤ i by omega) (by omega)) hb
    | succ e ih =>
      intro i x z hx hz hi
      subst hx hz
      (repeat (first | refine Ex.go rfl rfl ?_ | refine Ex.gf rfl rfl (by assumption) (by rfl) (by first | rfl | assumption) ?_))
      refine Ex.br (fun hb => ?_) (fun hb => ?_)
      · have := (n_ge (a := i) (b := E) (by omega) (by omega)).mp hb
        omega
      · (repeat (first | refine Ex.go rfl rfl ?_ | refine Ex.gf rfl rfl (by assumption) (by rfl) (by first | rfl | assumption) ?_))
        refine Ex.cv1 rfl rfl rfl (by assumption) (by rfl) (by decide) rfl ?_
        refine r_code h (by omega) ?_
        (repeat (first | refine Ex.go rfl rfl ?_ | refine Ex.gf rfl rfl (by assumption) (by rfl) (by first | rfl | assumption) ?_))
        refine Ex.br (fun hb => ?_) (fun hb => ?_)
        · have e1 : shp lg (i + 1) v p y = shp lg i v p y := if_neg fun z => hb z.1
          (repeat (first | exact ih (i + 1) _ _ (nI_1 i) (by rw [e1]) (by omega) | refine Ex.go rfl rfl ?_ | refine Ex.gf rfl rfl (by assumption) (by rfl) (by first | rfl | assumption) ?_))
        · have h1 := Decidable.not_not.mp hb
          (repeat (first | refine Ex.go rfl rfl ?_ | refine Ex.gf rfl rfl (by assumption) (by rfl) (by first | rfl | assumption) ?_))
          refine Ex.cv2 rfl rfl rfl (by assumption) (by rfl) (by decide) rfl ?_
          refine r_number (j := 0) h (by omega) (by omega) ?_
          (repeat (first | refine Ex.go rfl rfl ?_ | refine Ex.gf rfl rfl (by assumption) (by rfl) (by first | rfl | assumption) ?_))
          refine Ex.br (fun hb => ?_) (fun hb => ?_)
          · have e1 : shp lg (i + 1) v p y = shp lg i v p y := if_neg fun z => hb z.2.1
            (repeat (first | exact ih (i + 1) _ _ (nI_1 i) (by rw [e1]) (by omega) | refine Ex.go rfl rfl ?_ | refine Ex.gf rfl rfl (by assumption) (by rfl) (by first | rfl | assumption) ?_))
          · have h2 := Decidable.not_not.mp hb
            (repeat (first | refine Ex.go rfl rfl ?_ | refine Ex.gf rfl rfl (by assumption) (by rfl) (by first | rfl | assumption) ?_))
            refine Ex.cv2 rfl rfl rfl (by assumption) (by rfl) (by decide) rfl ?_
            refine r_number (j := 1) h (by omega) (by omega) ?_
            (repeat (first | refine Ex.go rfl rfl ?_ | refine Ex.gf rfl rfl (by assumption) (by rfl) (by first | rfl | assumption) ?_))
            refine Ex.br (fun hb => ?_) (fun hb => ?_)
            · have e1 : shp lg (i + 1) v p y = shp lg i v p y := if_neg fun z => hb z.2.2.1
              (repeat (first | exact ih (i + 1) _ _ (nI_1 i) (by rw [e1]) (by omega) | refine Ex.go rfl rfl ?_ | refine Ex.gf rfl rfl (by assumption) (by rfl) (by first | rfl | assumption) ?_))
            · have h3 := Decidable.not_not.mp hb
              (repeat (first | refine Ex.go rfl rfl ?_ | refine Ex.gf rfl rfl (by assumption) (by rfl) (by first | rfl | assumption) ?_))
              refine Ex.cv1 rfl rfl rfl (by assumption) (by rfl) (by decide) rfl ?_
              refine r_entered h (by omega) ?_
              (repeat (first | refine Ex.go rfl rfl ?_ | refine Ex.gf rfl rfl (by assumption) (by rfl) (by first | rfl | assumption) ?_))
              refine Ex.br (fun hb => ?_) (fun hb => ?_)
              · have e1 : shp lg (i + 1) v p y = shp lg i v p y := if_neg fun z => absurd z.2.2.2 (Int32.not_le.mpr hb)
                (repeat (first | exact ih (i + 1) _ _ (nI_1 i) (by rw [e1]) (by omega) | refine Ex.go rfl rfl ?_ | refine Ex.gf rfl rfl (by assumption) (by rfl) (by first | rfl | assumption) ?_))
              · have e1 : shp lg (i + 1) v p y = some i := if_pos ⟨h1, h2, h3, Int32.not_lt.mp hb⟩
                (repeat (first | exact ih (i + 1) _ _ (nI_1 i) (by rw [e1]; rfl) (by omega) | refine Ex.go rfl rfl ?_ | refine Ex.gf rfl rfl (by assumption) (by rfl) (by first | rfl | assumption) ?_))
  (repeat (first | exact loop E 0 _ _ rfl rfl (by omega) | refine Ex.go rfl rfl ?_ | refine Ex.gf rfl rfl (by assumption) (by rfl) (by first | rfl | assumption) ?_))
theorem shp_lt {v p y : Int32} {k : Nat} (hk : shp lg E v p y = some k) : k < E := (lst_lt hk).1
/-- what a shape tells (j: which number), d without -/
def sho (lg : Nat → Int32) (E : Nat) (v p y : Int32) (j : Nat) (d : Int32) : Int32 := match shp lg E v p y with
  | none => d
  | some i => num lg i j
theorem r_spots {v p y : Int32} (h : RD G fs lg E td VS pt vl pp va pa wa nn) (k : Q (some (.int (sho lg E v p y 2 1))) G) : Cx (d + 2) mX11_spots [.ref 364, .int v, .int p, .int y] G Q := by
  have g0 := h.1.1
  have hE := h.2.2.1
  refine Cx.body rfl rfl ?_
  (repeat (first | refine Ex.go rfl rfl ?_ | refine Ex.gf rfl rfl (by assumption) (by rfl) (by first | rfl | assumption) ?_))
  refine Ex.cv3 rfl rfl rfl (by assumption) (by rfl) (by decide) rfl ?_
  refine r_shapeOf h ?_
  unfold sho at k
  cases hs : shp lg E v p y with
  | none =>
    rw [hs] at k
    (repeat (first | refine Ex.go rfl rfl ?_ | refine Ex.gf rfl rfl (by assumption) (by rfl) (by first | rfl | assumption) ?_))
    refine Ex.ret rfl rfl rfl ?_
    exact k
  | some i =>
    have hi := shp_lt hs
    rw [hs] at k
    (repeat (first | refine Ex.go rfl rfl ?_ | refine Ex.gf rfl rfl (by assumption) (by rfl) (by first | rfl | assumption) ?_))
    refine Ex.br (fun hb => ?_) (fun hb => ?_)
    · (repeat (first | refine Ex.go rfl rfl ?_ | refine Ex.gf rfl rfl (by assumption) (by rfl) (by first | rfl | assumption) ?_))
      refine Ex.cv2 rfl rfl rfl (by assumption) (by rfl) (by decide) rfl ?_
      refine r_number (j := 2) h (by omega) (by omega) ?_
      refine Ex.ret rfl rfl rfl ?_
      exact k
    · exact absurd (nI_pos' (n := i) (by omega)) hb
theorem r_wear {v p y : Int32} (h : RD G fs lg E td VS pt vl pp va pa wa nn) (k : Q (some (.int (sho lg E v p y 3 0))) G) : Cx (d + 2) mX11_wear [.ref 364, .int v, .int p, .int y] G Q := by
  have g0 := h.1.1
  have hE := h.2.2.1
  refine Cx.body rfl rfl ?_
  (repeat (first | refine Ex.go rfl rfl ?_ | refine Ex.gf rfl rfl (by assumption) (by rfl) (by first | rfl | assumption) ?_))
  refine Ex.cv3 rfl rfl rfl (by assumption) (by rfl) (by decide) rfl ?_
  refine r_shapeOf h ?_
  unfold sho at k
  cases hs : shp lg E v p y with
  | none =>
    rw [hs] at k
    (repeat (first | refine Ex.go rfl rfl ?_ | refine Ex.gf rfl rfl (by assumption) (by rfl) (by first | rfl | assumption) ?_))
    refine Ex.ret rfl rfl rfl ?_
    exact k
  | some i =>
    have hi := shp_lt hs
    rw [hs] at k
    (repeat (first | refine Ex.go rfl rfl ?_ | refine Ex.gf rfl rfl (by assumption) (by rfl) (by first | rfl | assumption) ?_))
    refine Ex.br (fun hb => ?_) (fun hb => ?_)
    · (repeat (first | refine Ex.go rfl rfl ?_ | refine Ex.gf rfl rfl (by assumption) (by rfl) (by first | rfl | assumption) ?_))
      refine Ex.cv2 rfl rfl rfl (by assumption) (by rfl) (by decide) rfl ?_
      refine r_number (j := 3) h (by omega) (by omega) ?_
      refine Ex.ret rfl rfl rfl ?_
      exact k
    · exact absurd (nI_pos' (n := i) (by omega)) hb
theorem r_many {v p y : Int32} (h : RD G fs lg E td VS pt vl pp va pa wa nn) (k : Q (some (.int (sho lg E v p y 4 1))) G) : Cx (d + 2) mX11_many [.ref 364, .int v, .int p, .int y] G Q := by
  have g0 := h.1.1
  have hE := h.2.2.1
  refine Cx.body rfl rfl ?_
  (repeat (first | refine Ex.go rfl rfl ?_ | refine Ex.gf rfl rfl (by assumption) (by rfl) (by first | rfl | assumption) ?_))
  refine Ex.cv3 rfl rfl rfl (by assumption) (by rfl) (by decide) rfl ?_
  refine r_shapeOf h ?_
  unfold sho at k
  cases hs : shp lg E v p y with
  | none =>
    rw [hs] at k
    (repeat (first | refine Ex.go rfl rfl ?_ | refine Ex.gf rfl rfl (by assumption) (by rfl) (by first | rfl | assumption) ?_))
    refine Ex.ret rfl rfl rfl ?_
    exact k
  | some i =>
    have hi := shp_lt hs
    rw [hs] at k
    (repeat (first | refine Ex.go rfl rfl ?_ | refine Ex.gf rfl rfl (by assumption) (by rfl) (by first | rfl | assumption) ?_))
    refine Ex.br (fun hb => ?_) (fun hb => ?_)
    · (repeat (first | refine Ex.go rfl rfl ?_ | refine Ex.gf rfl rfl (by assumption) (by rfl) (by first | rfl | assumption) ?_))
      refine Ex.cv2 rfl rfl rfl (by assumption) (by rfl) (by decide) rfl ?_
      refine r_number (j := 4) h (by omega) (by omega) ?_
      refine Ex.ret rfl rfl rfl ?_
      exact k
    · exact absurd (nI_pos' (n := i) (by omega)) hb
end RR
