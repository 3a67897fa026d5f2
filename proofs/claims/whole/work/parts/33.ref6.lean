/-! The reference's readers: papers, mends, stops, measures. -/
abbrev tsP (lg : Nat → Int32) (v t x y : Int32) (i : Nat) : Prop := goP lg v 2 i ∧ stP lg x y i ∧ t ≤ dyy lg i
abbrev sgP (lg : Nat → Int32) (E : Nat) (v : Int32) (j : Nat) (x y : Int32) (i : Nat) : Prop := stP lg x y i ∧ dyy lg j ≤ dyy lg i ∧ ((isP lg 10 v 4 i ∧ j < i) ∨ (meP lg v i ∧ exi (tsP lg v (dyy lg i) x y) E = true))
abbrev spP (lg : Nat → Int32) (E : Nat) (v x y : Int32) (i : Nat) : Prop := cod lg i = 10 ∧ num lg i 0 = v ∧ stP lg x y i ∧ (num lg i 1 = 3 ∨ (num lg i 1 < 3 ∧ ¬ num lg i 3 = 0)) ∧ ¬ exi (sgP lg E v i x y) E = true
def mnd (lg : Nat → Int32) (v x y : Int32) : Nat → Int32
  | 0 => -1
  | i + 1 => if meP lg v i ∧ stP lg x y i then mxI (mnd lg v x y i) (dyy lg i) else mnd lg v x y i
/-- the day that a due counts from; the due -/
def dgo (lg : Nat → Int32) (E v : Nat) (kd x y : Int32) : Int32 := match lat (dyy lg) (fun i => goP lg (nI v) kd i ∧ stP lg x y i) none 0 E with
  | none => dyy lg (vat lg E v)
  | some i => dyy lg i
def dru (lg : Nat → Int32) (kd y : Int32) (E : Nat) : Option Nat := lst (fun i => cod lg i = 11 ∧ num lg i 0 = kd ∧ ent lg i ≤ y) E
def duo (lg : Nat → Int32) (E v : Nat) (kd x y : Int32) : Int32 := dgo lg E v kd x y + (match dru lg kd y E with
  | none => 365
  | some i => if dgo lg E v kd x y - dyy lg (vat lg E v) < 7300 then num lg i 1 else num lg i 2)
def pthk (lg : Nat → Int32) (i : Nat) : Int32 := if cod lg i = 2 then num lg i 4 else num lg i 2
abbrev msP (lg : Nat → Int32) (v p : Int32) (s : Nat) (x y : Int32) (i : Nat) : Prop := isP lg 4 v p i ∧ 0 ≤ num lg i (3 + s) ∧ stP lg x y i
def gtb (dy : Nat → Int32) (i : Nat) (s : Option Nat) : Bool := match s with
  | none => true
  | some j => decide (dy j < dy i)
def mdn (dy : Nat → Int32) (P : Nat → Prop) [DecidablePred P] : Nat → Option Nat → Option Nat
  | 0, s => s
  | n + 1, s => mdn dy P n (if P n ∧ gtb dy n s = true then some n else s)
def meaU (lg : Nat → Int32) (v p : Int32) (s : Nat) (x y : Int32) (a0 : Nat) (bf : Int32) (n : Nat) : Option Nat := lat (dyy lg) (fun i => msP lg v p s x y i ∧ dyy lg a0 ≤ dyy lg i ∧ dyy lg i < bf) none (a0 + 1) n
def meaD (lg : Nat → Int32) (v p : Int32) (s : Nat) (x y : Int32) (a0 : Nat) (bf : Int32) (n : Nat) (o : Option Nat) : Option Nat := mdn (dyy lg) (fun i => msP lg v p s x y i ∧ dyy lg a0 < dyy lg i ∧ dyy lg i < bf) n o
def mea (lg : Nat → Int32) (E : Nat) (v p : Int32) (s : Nat) (x y : Int32) (a0 : Nat) (bf : Int32) : Option Nat := meaD lg v p s x y a0 bf a0 (meaU lg v p s x y a0 bf (E - (a0 + 1)))
theorem mdn_lt {dy : Nat → Int32} {P : Nat → Prop} [DecidablePred P] {B : Nat} : ∀ {n : Nat} {o : Option Nat}, n ≤ B → (∀ k, o = some k → k < B) → ∀ k, mdn dy P n o = some k → k < B := by
  intro n
  induction n with
  | zero => intro o _ ho k h; exact ho k h
  | succ n ih =>
    intro o hn ho k h
    refine ih (by omega) ?_ k h
    intro j hj
    split at hj
    · cases hj; omega
    · exact ho j hj
theorem mea_lt {lg : Nat → Int32} {E : Nat} {v p : Int32} {s : Nat} {x y : Int32} {a0 : Nat} {bf : Int32} (ha : a0 < E) {k : Nat} (h : mea lg E v p s x y a0 bf = some k) : k < E :=
  mdn_lt (by omega) (fun k hk => lat_lt (B := E) (fun k hk => by cases hk) (by omega) hk) k h
section RR
variable {d : Nat} {G : bo_G} {Q : Option Value → bo_G → Prop} {fs : List Value} {lg : Nat → Int32} {E : Nat} {td : Int32} {VS : Nat} {pt vl pp va pa wa nn : Nat → Int32}
theorem j_max {a b : Int32} (k : Q (some (.int (mxI a b))) G) : Cx d mJ9_max_7cf53 [.int a, .int b] G Q := by
  refine Cx.body rfl rfl ?_
  (repeat (first | refine Ex.go rfl rfl ?_ | refine Ex.gf rfl rfl (by assumption) (by rfl) (by first | rfl | assumption) ?_))
  refine Ex.br (fun hc => ?_) (fun hc => ?_)
  · have e : mxI a b = b := if_neg (Int32.not_le.mpr hc)
    rw [e] at k
    (repeat (first | refine Ex.go rfl rfl ?_ | refine Ex.gf rfl rfl (by assumption) (by rfl) (by first | rfl | assumption) ?_))
    refine Ex.ret rfl rfl rfl ?_
    exact k
  · have e : mxI a b = a := if_pos (Int32.not_lt.mp hc)
    rw [e] at k
    (repeat (first | refine Ex.go rfl rfl ?_ | refine Ex.gf rfl rfl (by assumption) (by rfl) (by first | rfl | assumption) ?_))
    refine Ex.ret rfl rfl rfl ?_
    exact k
theorem j_min {a b : Int32} (k : Q (some (.int (mnI a b))) G) : Cx d mJ9_min_7cf53 [.int a, .int b] G Q := by
  refine Cx.body rfl rfl ?_
  (repeat (first | refine Ex.go rfl rfl ?_ | refine Ex.gf rfl rfl (by assumption) (by rfl) (by first | rfl | assumption) ?_))
  refine Ex.br (fun hc => ?_) (fun hc => ?_)
  · have e : mnI a b = b := if_neg (Int32.not_le.mpr hc)
    rw [e] at k
    (repeat (first | refine Ex.go rfl rfl ?_ | refine Ex.gf rfl rfl (by assumption) (by rfl) (by first | rfl | assumption) ?_))
    refine Ex.ret rfl rfl rfl ?_
    exact k
  · have e : mnI a b = a := if_pos (Int32.not_lt.mp hc)
    rw [e] at k
    (repeat (first | refine Ex.go rfl rfl ?_ | refine Ex.gf rfl rfl (by assumption) (by rfl) (by first | rfl | assumption) ?_))
    refine Ex.ret rfl rfl rfl ?_
    exact k
theorem r_isGood {i : Nat} {v kd : Int32} (h : RD G fs lg E td VS pt vl pp va pa wa nn) (hi : i < 6000) (k : Q (some (.int (bo_b (goP lg v kd i)))) G) : Cx (d + 2) mX11_isGood [.ref 364, .int (nI i), .int v, .int kd] G Q := by
  have g0 := h.1.1
  refine Cx.body rfl rfl ?_
  (repeat (first | refine Ex.go rfl rfl ?_ | refine Ex.gf rfl rfl (by assumption) (by rfl) (by first | rfl | assumption) ?_))
  refine Ex.cv4 rfl rfl rfl (by assumption) (by rfl) (by decide) rfl ?_
  refine r_isOf h hi ?_
  (repeat (first | refine Ex.go rfl rfl ?_ | refine Ex.gf rfl rfl (by assumption) (by rfl) (by first | rfl | assumption) ?_))
  refine Ex.brz (fun h1 => ?_) (fun h1 => ?_); rotate_left
  · rw [bo_b_f (fun z => h1 z.1)] at k
    (repeat (first | refine Ex.go rfl rfl ?_ | refine Ex.gf rfl rfl (by assumption) (by rfl) (by first | rfl | assumption) ?_))
    refine Ex.retz rfl rfl rfl (Or.inl rfl) ?_
    exact k
  (repeat (first | refine Ex.go rfl rfl ?_ | refine Ex.gf rfl rfl (by assumption) (by rfl) (by first | rfl | assumption) ?_))
  refine Ex.cv2 rfl rfl rfl (by assumption) (by rfl) (by decide) rfl ?_
  refine r_number (j := 3) h hi (by omega) ?_
  (repeat (first | refine Ex.go rfl rfl ?_ | refine Ex.gf rfl rfl (by assumption) (by rfl) (by first | rfl | assumption) ?_))
  refine Ex.br (fun h2 => ?_) (fun h2 => ?_)
  · rw [bo_b_f (fun z => h2 z.2)] at k
    (repeat (first | refine Ex.go rfl rfl ?_ | refine Ex.gf rfl rfl (by assumption) (by rfl) (by first | rfl | assumption) ?_))
    refine Ex.retz rfl rfl rfl (Or.inl rfl) ?_
    exact k
  · rw [bo_b_t ⟨h1, Decidable.not_not.mp h2⟩] at k
    (repeat (first | refine Ex.go rfl rfl ?_ | refine Ex.gf rfl rfl (by assumption) (by rfl) (by first | rfl | assumption) ?_))
    refine Ex.retz rfl rfl rfl (Or.inr rfl) ?_
    exact k
theorem r_isMend {i : Nat} {v : Int32} (h : RD G fs lg E td VS pt vl pp va pa wa nn) (hi : i < 6000) (k : Q (some (.int (bo_b (meP lg v i)))) G) : Cx (d + 1) mX11_isMend [.ref 364, .int (nI i), .int v] G Q := by
  have g0 := h.1.1
  have tail : (cod lg i = 5 ∨ cod lg i = 6) → Ex (d + 1) mX11_isMend (19, [(0, .ref 364), (1, .int (nI i)), (2, .int v)], [], G) Q := by
    intro h3
    (repeat (first | refine Ex.go rfl rfl ?_ | refine Ex.gf rfl rfl (by assumption) (by rfl) (by first | rfl | assumption) ?_))
    refine Ex.cv2 rfl rfl rfl (by assumption) (by rfl) (by decide) rfl ?_
    refine r_number (j := 0) h hi (by omega) ?_
    (repeat (first | refine Ex.go rfl rfl ?_ | refine Ex.gf rfl rfl (by assumption) (by rfl) (by first | rfl | assumption) ?_))
    refine Ex.br (fun h2 => ?_) (fun h2 => ?_)
    · rw [bo_b_f (fun z => h2 z.2)] at k
      (repeat (first | refine Ex.go rfl rfl ?_ | refine Ex.gf rfl rfl (by assumption) (by rfl) (by first | rfl | assumption) ?_))
      refine Ex.retz rfl rfl rfl (Or.inl rfl) ?_
      exact k
    · rw [bo_b_t ⟨h3, Decidable.not_not.mp h2⟩] at k
      (repeat (first | refine Ex.go rfl rfl ?_ | refine Ex.gf rfl rfl (by assumption) (by rfl) (by first | rfl | assumption) ?_))
      refine Ex.retz rfl rfl rfl (Or.inr rfl) ?_
      exact k
  refine Cx.body rfl rfl ?_
  (repeat (first | refine Ex.go rfl rfl ?_ | refine Ex.gf rfl rfl (by assumption) (by rfl) (by first | rfl | assumption) ?_))
  refine Ex.cv1 rfl rfl rfl (by assumption) (by rfl) (by decide) rfl ?_
  refine r_code h hi ?_
  (repeat (first | refine Ex.go rfl rfl ?_ | refine Ex.gf rfl rfl (by assumption) (by rfl) (by first | rfl | assumption) ?_))
  refine Ex.br (fun h1 => ?_) (fun h1 => ?_)
  · exact tail (Or.inl h1)
  (repeat (first | refine Ex.go rfl rfl ?_ | refine Ex.gf rfl rfl (by assumption) (by rfl) (by first | rfl | assumption) ?_))
  refine Ex.cv1 rfl rfl rfl (by assumption) (by rfl) (by decide) rfl ?_
  refine r_code h hi ?_
  (repeat (first | refine Ex.go rfl rfl ?_ | refine Ex.gf rfl rfl (by assumption) (by rfl) (by first | rfl | assumption) ?_))
  refine Ex.br (fun h2 => ?_) (fun h2 => ?_)
  · rw [bo_b_f (fun z => z.1.elim h1 h2)] at k
    (repeat (first | refine Ex.go rfl rfl ?_ | refine Ex.gf rfl rfl (by assumption) (by rfl) (by first | rfl | assumption) ?_))
    refine Ex.retz rfl rfl rfl (Or.inl rfl) ?_
    exact k
  · exact tail (Or.inr (Decidable.not_not.mp h2))
theorem r_isTested {v t x y : Int32} (h : RD G fs lg E td VS pt vl pp va pa wa nn) (k : Q (some (.int (bo_b (exi (tsP lg v t x y) E = true)))) G) : Cx (d + 3) mX11_isTested [.ref 364, .int v, .int t, .int x, .int y] G Q := by
  have g0 := h.1.1
  have g2 := h.1.2.2.1
  have hE := h.2.2.1
  refine Cx.body rfl rfl ?_
  have loop : ∀ (e i : Nat) (a : Int32), a = nI i → (∀ j, j < i → ¬ tsP lg v t x y j) → i + e = E → Ex (d + 3) mX11_isTested (3, [(0, .ref 364), (1, .int v), (2, .int t), (3, .int x), (4, .int y), (5, .int a)], [], G) Q := by
    intro e
    induction e with
    | zero =>
      intro i a ha hn hi
      subst ha
      rw [show E = i by omega, bo_b_f (exi_not hn)] at k
      (repeat (first | refine Ex.go rfl rfl ?_ | refine Ex.gf rfl rfl (by assumption) (by rfl) (by first | rfl | assumption) ?_))
      refine Ex.br (fun hc => ?_) (fun hc => ?_)
      · (repeat (first | refine Ex.go rfl rfl ?_ | refine Ex.gf rfl rfl (by assumption) (by rfl) (by first | rfl | assumption) ?_))
        refine Ex.retz rfl rfl rfl (Or.inl rfl) ?_
        exact k
      · exact absurd (nI_le (show E ≤ i by omega) (by omega)) hc
    | succ e ih =>
      intro i a ha hn hi
      subst ha
      have next : ¬ tsP lg v t x y i → ∀ j, j < i + 1 → ¬ tsP lg v t x y j := fun z j hj => by
        by_cases hji : j = i
        · subst hji; exact z
        · exact hn j (by omega)
      (repeat (first | refine Ex.go rfl rfl ?_ | refine Ex.gf rfl rfl (by assumption) (by rfl) (by first | rfl | assumption) ?_))
      refine Ex.br (fun hc => ?_) (fun hc => ?_)
      · have := (n_ge (a := i) (b := E) (by omega) (by omega)).mp hc
        omega
      (repeat (first | refine Ex.go rfl rfl ?_ | refine Ex.gf rfl rfl (by assumption) (by rfl) (by first | rfl | assumption) ?_))
      refine Ex.cv3 rfl rfl rfl (by assumption) (by rfl) (by decide) rfl ?_
      refine r_isGood h (by omega) ?_
      (repeat (first | refine Ex.go rfl rfl ?_ | refine Ex.gf rfl rfl (by assumption) (by rfl) (by first | rfl | assumption) ?_))
      refine Ex.brz (fun h1 => ?_) (fun h1 => ?_); rotate_left
      · (repeat (first | exact ih (i + 1) _ (nI_1 i) (next fun z => h1 z.1) (by omega) | refine Ex.go rfl rfl ?_ | refine Ex.gf rfl rfl (by assumption) (by rfl) (by first | rfl | assumption) ?_))
      (repeat (first | refine Ex.go rfl rfl ?_ | refine Ex.gf rfl rfl (by assumption) (by rfl) (by first | rfl | assumption) ?_))
      refine Ex.cv3 rfl rfl rfl (by assumption) (by rfl) (by decide) rfl ?_
      refine r_stands h (by omega) ?_
      (repeat (first | refine Ex.go rfl rfl ?_ | refine Ex.gf rfl rfl (by assumption) (by rfl) (by first | rfl | assumption) ?_))
      refine Ex.brz (fun h2 => ?_) (fun h2 => ?_); rotate_left
      · (repeat (first | exact ih (i + 1) _ (nI_1 i) (next fun z => h2 z.2.1) (by omega) | refine Ex.go rfl rfl ?_ | refine Ex.gf rfl rfl (by assumption) (by rfl) (by first | rfl | assumption) ?_))
      (repeat (first | refine Ex.go rfl rfl ?_ | refine Ex.gf rfl rfl (by assumption) (by rfl) (by first | rfl | assumption) ?_))
      refine Ex.cv1 rfl rfl rfl (by assumption) (by rfl) (by decide) rfl ?_
      refine r_day h (by omega) ?_
      (repeat (first | refine Ex.go rfl rfl ?_ | refine Ex.gf rfl rfl (by assumption) (by rfl) (by first | rfl | assumption) ?_))
      refine Ex.br (fun h3 => ?_) (fun h3 => ?_)
      · (repeat (first | exact ih (i + 1) _ (nI_1 i) (next fun z => absurd z.2.2 (Int32.not_le.mpr h3)) (by omega) | refine Ex.go rfl rfl ?_ | refine Ex.gf rfl rfl (by assumption) (by rfl) (by first | rfl | assumption) ?_))
      rw [bo_b_t (exi_iff.mpr ⟨i, by omega, h1, h2, Int32.not_lt.mp h3⟩)] at k
      (repeat (first | refine Ex.go rfl rfl ?_ | refine Ex.gf rfl rfl (by assumption) (by rfl) (by first | rfl | assumption) ?_))
      refine Ex.retz rfl rfl rfl (Or.inr rfl) ?_
      exact k
  (repeat (first | exact loop E 0 _ rfl (fun j hj => absurd hj (Nat.not_lt_zero _)) (by omega) | refine Ex.go rfl rfl ?_ | refine Ex.gf rfl rfl (by assumption) (by rfl) (by first | rfl | assumption) ?_))
theorem r_isStopping {v x y : Int32} {j : Nat} (h : RD G fs lg E td VS pt vl pp va pa wa nn) (hj : j < E) (k : Q (some (.int (bo_b (¬ exi (sgP lg E v j x y) E = true)))) G) : Cx (d + 4) mX11_isStopping [.ref 364, .int (nI j), .int v, .int x, .int y] G Q := by
  have g0 := h.1.1
  have g2 := h.1.2.2.1
  have hE := h.2.2.1
  refine Cx.body rfl rfl ?_
  have loop : ∀ (e i : Nat) (a : Int32), a = nI i → (∀ l, l < i → ¬ sgP lg E v j x y l) → i + e = E → Ex (d + 4) mX11_isStopping (3, [(0, .ref 364), (1, .int (nI j)), (2, .int v), (3, .int x), (4, .int y), (5, .int a)], [], G) Q := by
    intro e
    induction e with
    | zero =>
      intro i a ha hn hi
      subst ha
      have hn2 : ¬ exi (sgP lg E v j x y) E = true := by rw [show E = i by omega] at hn ⊢; exact exi_not hn
      rw [bo_b_t hn2] at k
      (repeat (first | refine Ex.go rfl rfl ?_ | refine Ex.gf rfl rfl (by assumption) (by rfl) (by first | rfl | assumption) ?_))
      refine Ex.br (fun hc => ?_) (fun hc => ?_)
      · (repeat (first | refine Ex.go rfl rfl ?_ | refine Ex.gf rfl rfl (by assumption) (by rfl) (by first | rfl | assumption) ?_))
        refine Ex.retz rfl rfl rfl (Or.inr rfl) ?_
        exact k
      · exact absurd (nI_le (show E ≤ i by omega) (by omega)) hc
    | succ e ih =>
      intro i a ha hn hi
      subst ha
      have next : ¬ sgP lg E v j x y i → ∀ l, l < i + 1 → ¬ sgP lg E v j x y l := fun z l hl => by
        by_cases hji : l = i
        · subst hji; exact z
        · exact hn l (by omega)
      have found : sgP lg E v j x y i → Q (some (.int 0)) G := fun z => by
        rw [bo_b_f (fun q => q (exi_iff.mpr ⟨i, by omega, z⟩))] at k
        exact k
      (repeat (first | refine Ex.go rfl rfl ?_ | refine Ex.gf rfl rfl (by assumption) (by rfl) (by first | rfl | assumption) ?_))
      refine Ex.br (fun hc => ?_) (fun hc => ?_)
      · have := (n_ge (a := i) (b := E) (by omega) (by omega)).mp hc
        omega
      (repeat (first | refine Ex.go rfl rfl ?_ | refine Ex.gf rfl rfl (by assumption) (by rfl) (by first | rfl | assumption) ?_))
      refine Ex.cv3 rfl rfl rfl (by assumption) (by rfl) (by decide) rfl ?_
      refine r_stands h (by omega) ?_
      (repeat (first | refine Ex.go rfl rfl ?_ | refine Ex.gf rfl rfl (by assumption) (by rfl) (by first | rfl | assumption) ?_))
      refine Ex.brz (fun h1 => ?_) (fun h1 => ?_); rotate_left
      · (repeat (first | exact ih (i + 1) _ (nI_1 i) (next fun z => h1 z.1) (by omega) | refine Ex.go rfl rfl ?_ | refine Ex.gf rfl rfl (by assumption) (by rfl) (by first | rfl | assumption) ?_))
      (repeat (first | refine Ex.go rfl rfl ?_ | refine Ex.gf rfl rfl (by assumption) (by rfl) (by first | rfl | assumption) ?_))
      refine Ex.cv1 rfl rfl rfl (by assumption) (by rfl) (by decide) rfl ?_
      refine r_day h (by omega) ?_
      (repeat (first | refine Ex.go rfl rfl ?_ | refine Ex.gf rfl rfl (by assumption) (by rfl) (by first | rfl | assumption) ?_))
      refine Ex.cv1 rfl rfl rfl (by assumption) (by rfl) (by decide) rfl ?_
      refine r_day h (by omega) ?_
      (repeat (first | refine Ex.go rfl rfl ?_ | refine Ex.gf rfl rfl (by assumption) (by rfl) (by first | rfl | assumption) ?_))
      refine Ex.br (fun h2 => ?_) (fun h2 => ?_); rotate_left
      · (repeat (first | exact ih (i + 1) _ (nI_1 i) (next fun z => h2 z.2.1) (by omega) | refine Ex.go rfl rfl ?_ | refine Ex.gf rfl rfl (by assumption) (by rfl) (by first | rfl | assumption) ?_))
      have mend : ¬ (isP lg 10 v 4 i ∧ j < i) → Ex (d + 4) mX11_isStopping (60, [(0, .ref 364), (1, .int (nI j)), (2, .int v), (3, .int x), (4, .int y), (5, .int (nI i))], [], G) Q := by
        intro h3
        (repeat (first | refine Ex.go rfl rfl ?_ | refine Ex.gf rfl rfl (by assumption) (by rfl) (by first | rfl | assumption) ?_))
        refine Ex.cv2 rfl rfl rfl (by assumption) (by rfl) (by decide) rfl ?_
        refine r_isMend h (by omega) ?_
        (repeat (first | refine Ex.go rfl rfl ?_ | refine Ex.gf rfl rfl (by assumption) (by rfl) (by first | rfl | assumption) ?_))
        refine Ex.brz (fun h4 => ?_) (fun h4 => ?_); rotate_left
        · (repeat (first | exact ih (i + 1) _ (nI_1 i) (next fun z => z.2.2.elim h3 (fun q => h4 q.1)) (by omega) | refine Ex.go rfl rfl ?_ | refine Ex.gf rfl rfl (by assumption) (by rfl) (by first | rfl | assumption) ?_))
        (repeat (first | refine Ex.go rfl rfl ?_ | refine Ex.gf rfl rfl (by assumption) (by rfl) (by first | rfl | assumption) ?_))
        refine Ex.cv1 rfl rfl rfl (by assumption) (by rfl) (by decide) rfl ?_
        refine r_day h (by omega) ?_
        (repeat (first | refine Ex.go rfl rfl ?_ | refine Ex.gf rfl rfl (by assumption) (by rfl) (by first | rfl | assumption) ?_))
        refine Ex.cv4 rfl rfl rfl (by assumption) (by rfl) (by decide) rfl ?_
        refine r_isTested h ?_
        (repeat (first | refine Ex.go rfl rfl ?_ | refine Ex.gf rfl rfl (by assumption) (by rfl) (by first | rfl | assumption) ?_))
        refine Ex.brz (fun h5 => ?_) (fun h5 => ?_); rotate_left
        · (repeat (first | exact ih (i + 1) _ (nI_1 i) (next fun z => z.2.2.elim h3 (fun q => h5 q.2)) (by omega) | refine Ex.go rfl rfl ?_ | refine Ex.gf rfl rfl (by assumption) (by rfl) (by first | rfl | assumption) ?_))
        have k := found ⟨h1, h2, Or.inr ⟨h4, h5⟩⟩
        (repeat (first | refine Ex.go rfl rfl ?_ | refine Ex.gf rfl rfl (by assumption) (by rfl) (by first | rfl | assumption) ?_))
        refine Ex.retz rfl rfl rfl (Or.inl rfl) ?_
        exact k
      (repeat (first | refine Ex.go rfl rfl ?_ | refine Ex.gf rfl rfl (by assumption) (by rfl) (by first | rfl | assumption) ?_))
      refine Ex.cv4 rfl rfl rfl (by assumption) (by rfl) (by decide) rfl ?_
      refine r_isOf h (by omega) ?_
      (repeat (first | refine Ex.go rfl rfl ?_ | refine Ex.gf rfl rfl (by assumption) (by rfl) (by first | rfl | assumption) ?_))
      refine Ex.brz (fun h6 => ?_) (fun h6 => ?_); rotate_left
      · (repeat (first | exact mend (fun z => h6 z.1) | refine Ex.go rfl rfl ?_ | refine Ex.gf rfl rfl (by assumption) (by rfl) (by first | rfl | assumption) ?_))
      (repeat (first | refine Ex.go rfl rfl ?_ | refine Ex.gf rfl rfl (by assumption) (by rfl) (by first | rfl | assumption) ?_))
      refine Ex.br (fun h7 => ?_) (fun h7 => ?_)
      · have k := found ⟨h1, h2, Or.inl ⟨h6, Nat.not_le.mp fun z => absurd (nI_le z (by omega)) (Int32.not_le.mpr h7)⟩⟩
        (repeat (first | refine Ex.go rfl rfl ?_ | refine Ex.gf rfl rfl (by assumption) (by rfl) (by first | rfl | assumption) ?_))
        refine Ex.retz rfl rfl rfl (Or.inl rfl) ?_
        exact k
      · (repeat (first | exact mend (fun z => h7 (nI_lt z.2 (by omega))) | refine Ex.go rfl rfl ?_ | refine Ex.gf rfl rfl (by assumption) (by rfl) (by first | rfl | assumption) ?_))
  (repeat (first | exact loop E 0 _ rfl (fun j hj => absurd hj (Nat.not_lt_zero _)) (by omega) | refine Ex.go rfl rfl ?_ | refine Ex.gf rfl rfl (by assumption) (by rfl) (by first | rfl | assumption) ?_))
theorem r_isStopped {v x y : Int32} (h : RD G fs lg E td VS pt vl pp va pa wa nn) (k : Q (some (.int (bo_b (exi (spP lg E v x y) E = true)))) G) : Cx (d + 5) mX11_isStopped [.ref 364, .int v, .int x, .int y] G Q := by
  have g0 := h.1.1
  have g2 := h.1.2.2.1
  have hE := h.2.2.1
  refine Cx.body rfl rfl ?_
  have loop : ∀ (e i : Nat) (a : Int32), a = nI i → (∀ j, j < i → ¬ spP lg E v x y j) → i + e = E → Ex (d + 5) mX11_isStopped (3, [(0, .ref 364), (1, .int v), (2, .int x), (3, .int y), (4, .int a)], [], G) Q := by
    intro e
    induction e with
    | zero =>
      intro i a ha hn hi
      subst ha
      have hn2 : ¬ exi (spP lg E v x y) E = true := by rw [show E = i by omega] at hn ⊢; exact exi_not hn
      rw [bo_b_f hn2] at k
      (repeat (first | refine Ex.go rfl rfl ?_ | refine Ex.gf rfl rfl (by assumption) (by rfl) (by first | rfl | assumption) ?_))
      refine Ex.br (fun hc => ?_) (fun hc => ?_)
      · (repeat (first | refine Ex.go rfl rfl ?_ | refine Ex.gf rfl rfl (by assumption) (by rfl) (by first | rfl | assumption) ?_))
        refine Ex.retz rfl rfl rfl (Or.inl rfl) ?_
        exact k
      · exact absurd (nI_le (show E ≤ i by omega) (by omega)) hc
    | succ e ih =>
      intro i a ha hn hi
      subst ha
      have next : ¬ spP lg E v x y i → ∀ j, j < i + 1 → ¬ spP lg E v x y j := fun z j hj => by
        by_cases hji : j = i
        · subst hji; exact z
        · exact hn j (by omega)
      (repeat (first | refine Ex.go rfl rfl ?_ | refine Ex.gf rfl rfl (by assumption) (by rfl) (by first | rfl | assumption) ?_))
      refine Ex.br (fun hc => ?_) (fun hc => ?_)
      · have := (n_ge (a := i) (b := E) (by omega) (by omega)).mp hc
        omega
      (repeat (first | refine Ex.go rfl rfl ?_ | refine Ex.gf rfl rfl (by assumption) (by rfl) (by first | rfl | assumption) ?_))
      refine Ex.cv1 rfl rfl rfl (by assumption) (by rfl) (by decide) rfl ?_
      refine r_code h (by omega) ?_
      (repeat (first | refine Ex.go rfl rfl ?_ | refine Ex.gf rfl rfl (by assumption) (by rfl) (by first | rfl | assumption) ?_))
      refine Ex.br (fun h1 => ?_) (fun h1 => ?_)
      · (repeat (first | exact ih (i + 1) _ (nI_1 i) (next fun z => h1 z.1) (by omega) | refine Ex.go rfl rfl ?_ | refine Ex.gf rfl rfl (by assumption) (by rfl) (by first | rfl | assumption) ?_))
      have h1 := Decidable.not_not.mp h1
      (repeat (first | refine Ex.go rfl rfl ?_ | refine Ex.gf rfl rfl (by assumption) (by rfl) (by first | rfl | assumption) ?_))
      refine Ex.cv2 rfl rfl rfl (by assumption) (by rfl) (by decide) rfl ?_
      refine r_number (j := 0) h (by omega) (by omega) ?_
      (repeat (first | refine Ex.go rfl rfl ?_ | refine Ex.gf rfl rfl (by assumption) (by rfl) (by first | rfl | assumption) ?_))
      refine Ex.br (fun h2 => ?_) (fun h2 => ?_)
      · (repeat (first | exact ih (i + 1) _ (nI_1 i) (next fun z => h2 z.2.1) (by omega) | refine Ex.go rfl rfl ?_ | refine Ex.gf rfl rfl (by assumption) (by rfl) (by first | rfl | assumption) ?_))
      have h2 := Decidable.not_not.mp h2
      (repeat (first | refine Ex.go rfl rfl ?_ | refine Ex.gf rfl rfl (by assumption) (by rfl) (by first | rfl | assumption) ?_))
      refine Ex.cv3 rfl rfl rfl (by assumption) (by rfl) (by decide) rfl ?_
      refine r_stands h (by omega) ?_
      (repeat (first | refine Ex.go rfl rfl ?_ | refine Ex.gf rfl rfl (by assumption) (by rfl) (by first | rfl | assumption) ?_))
      refine Ex.brn (fun h3 => ?_) (fun h3 => ?_); rotate_left
      · (repeat (first | exact ih (i + 1) _ (nI_1 i) (next fun z => h3 z.2.2.1) (by omega) | refine Ex.go rfl rfl ?_ | refine Ex.gf rfl rfl (by assumption) (by rfl) (by first | rfl | assumption) ?_))
      have bad : (num lg i 1 = 3 ∨ (num lg i 1 < 3 ∧ ¬ num lg i 3 = 0)) → Ex (d + 5) mX11_isStopped (80, [(0, .ref 364), (1, .int v), (2, .int x), (3, .int y), (4, .int (nI i))], [], G) Q := by
        intro h4
        (repeat (first | refine Ex.go rfl rfl ?_ | refine Ex.gf rfl rfl (by assumption) (by rfl) (by first | rfl | assumption) ?_))
        refine Ex.cv4 rfl rfl rfl (by assumption) (by rfl) (by decide) rfl ?_
        refine r_isStopping h (by omega) ?_
        (repeat (first | refine Ex.go rfl rfl ?_ | refine Ex.gf rfl rfl (by assumption) (by rfl) (by first | rfl | assumption) ?_))
        refine Ex.brz (fun h5 => ?_) (fun h5 => ?_); rotate_left
        · (repeat (first | exact ih (i + 1) _ (nI_1 i) (next fun z => h5 z.2.2.2.2) (by omega) | refine Ex.go rfl rfl ?_ | refine Ex.gf rfl rfl (by assumption) (by rfl) (by first | rfl | assumption) ?_))
        rw [bo_b_t (exi_iff.mpr ⟨i, by omega, h1, h2, h3, h4, h5⟩)] at k
        (repeat (first | refine Ex.go rfl rfl ?_ | refine Ex.gf rfl rfl (by assumption) (by rfl) (by first | rfl | assumption) ?_))
        refine Ex.retz rfl rfl rfl (Or.inr rfl) ?_
        exact k
      (repeat (first | refine Ex.go rfl rfl ?_ | refine Ex.gf rfl rfl (by assumption) (by rfl) (by first | rfl | assumption) ?_))
      refine Ex.cv2 rfl rfl rfl (by assumption) (by rfl) (by decide) rfl ?_
      refine r_number (j := 1) h (by omega) (by omega) ?_
      (repeat (first | refine Ex.go rfl rfl ?_ | refine Ex.gf rfl rfl (by assumption) (by rfl) (by first | rfl | assumption) ?_))
      refine Ex.br (fun h4 => ?_) (fun h4 => ?_)
      · (repeat (first | exact bad (Or.inl h4) | refine Ex.go rfl rfl ?_ | refine Ex.gf rfl rfl (by assumption) (by rfl) (by first | rfl | assumption) ?_))
      (repeat (first | refine Ex.go rfl rfl ?_ | refine Ex.gf rfl rfl (by assumption) (by rfl) (by first | rfl | assumption) ?_))
      refine Ex.cv2 rfl rfl rfl (by assumption) (by rfl) (by decide) rfl ?_
      refine r_number (j := 1) h (by omega) (by omega) ?_
      (repeat (first | refine Ex.go rfl rfl ?_ | refine Ex.gf rfl rfl (by assumption) (by rfl) (by first | rfl | assumption) ?_))
      refine Ex.br (fun h5 => ?_) (fun h5 => ?_)
      · (repeat (first | exact ih (i + 1) _ (nI_1 i) (next fun z => z.2.2.2.1.elim h4 (fun q => absurd q.1 (Int32.not_lt.mpr h5))) (by omega) | refine Ex.go rfl rfl ?_ | refine Ex.gf rfl rfl (by assumption) (by rfl) (by first | rfl | assumption) ?_))
      (repeat (first | refine Ex.go rfl rfl ?_ | refine Ex.gf rfl rfl (by assumption) (by rfl) (by first | rfl | assumption) ?_))
      refine Ex.cv2 rfl rfl rfl (by assumption) (by rfl) (by decide) rfl ?_
      refine r_number (j := 3) h (by omega) (by omega) ?_
      (repeat (first | refine Ex.go rfl rfl ?_ | refine Ex.gf rfl rfl (by assumption) (by rfl) (by first | rfl | assumption) ?_))
      refine Ex.br (fun h6 => ?_) (fun h6 => ?_)
      · (repeat (first | exact ih (i + 1) _ (nI_1 i) (next fun z => z.2.2.2.1.elim h4 (fun q => q.2 h6)) (by omega) | refine Ex.go rfl rfl ?_ | refine Ex.gf rfl rfl (by assumption) (by rfl) (by first | rfl | assumption) ?_))
      (repeat (first | exact bad (Or.inr ⟨Int32.not_le.mp h5, h6⟩) | refine Ex.go rfl rfl ?_ | refine Ex.gf rfl rfl (by assumption) (by rfl) (by first | rfl | assumption) ?_))
  (repeat (first | exact loop E 0 _ rfl (fun j hj => absurd hj (Nat.not_lt_zero _)) (by omega) | refine Ex.go rfl rfl ?_ | refine Ex.gf rfl rfl (by assumption) (by rfl) (by first | rfl | assumption) ?_))
theorem r_mended {v x y : Int32} (h : RD G fs lg E td VS pt vl pp va pa wa nn) (k : Q (some (.int (mnd lg v x y E))) G) : Cx (d + 2) mX11_mended [.ref 364, .int v, .int x, .int y] G Q := by
  have g0 := h.1.1
  have g2 := h.1.2.2.1
  have hE := h.2.2.1
  refine Cx.body rfl rfl ?_
  have loop : ∀ (e i : Nat) (a s : Int32), a = nI i → s = mnd lg v x y i → i + e = E → Ex (d + 2) mX11_mended (6, [(0, .ref 364), (1, .int v), (2, .int x), (3, .int y), (4, .int s), (5, .int a)], [], G) Q := by
    intro e
    induction e with
    | zero =>
      intro i a s ha hs hi
      subst ha hs
      rw [show E = i by omega] at k
      (repeat (first | refine Ex.go rfl rfl ?_ | refine Ex.gf rfl rfl (by assumption) (by rfl) (by first | rfl | assumption) ?_))
      refine Ex.br (fun hc => ?_) (fun hc => ?_)
      · (repeat (first | refine Ex.go rfl rfl ?_ | refine Ex.gf rfl rfl (by assumption) (by rfl) (by first | rfl | assumption) ?_))
        refine Ex.ret rfl rfl rfl ?_
        exact k
      · exact absurd (nI_le (show E ≤ i by omega) (by omega)) hc
    | succ e ih =>
      intro i a s ha hs hi
      subst ha hs
      (repeat (first | refine Ex.go rfl rfl ?_ | refine Ex.gf rfl rfl (by assumption) (by rfl) (by first | rfl | assumption) ?_))
      refine Ex.br (fun hc => ?_) (fun hc => ?_)
      · have := (n_ge (a := i) (b := E) (by omega) (by omega)).mp hc
        omega
      (repeat (first | refine Ex.go rfl rfl ?_ | refine Ex.gf rfl rfl (by assumption) (by rfl) (by first | rfl | assumption) ?_))
      refine Ex.cv2 rfl rfl rfl (by assumption) (by rfl) (by decide) rfl ?_
      refine r_isMend h (by omega) ?_
      (repeat (first | refine Ex.go rfl rfl ?_ | refine Ex.gf rfl rfl (by assumption) (by rfl) (by first | rfl | assumption) ?_))
      refine Ex.brz (fun h1 => ?_) (fun h1 => ?_); rotate_left
      · have e1 : mnd lg v x y (i + 1) = mnd lg v x y i := if_neg fun z => h1 z.1
        (repeat (first | exact ih (i + 1) _ _ (nI_1 i) (by rw [e1]) (by omega) | refine Ex.go rfl rfl ?_ | refine Ex.gf rfl rfl (by assumption) (by rfl) (by first | rfl | assumption) ?_))
      (repeat (first | refine Ex.go rfl rfl ?_ | refine Ex.gf rfl rfl (by assumption) (by rfl) (by first | rfl | assumption) ?_))
      refine Ex.cv3 rfl rfl rfl (by assumption) (by rfl) (by decide) rfl ?_
      refine r_stands h (by omega) ?_
      (repeat (first | refine Ex.go rfl rfl ?_ | refine Ex.gf rfl rfl (by assumption) (by rfl) (by first | rfl | assumption) ?_))
      refine Ex.brz (fun h2 => ?_) (fun h2 => ?_); rotate_left
      · have e1 : mnd lg v x y (i + 1) = mnd lg v x y i := if_neg fun z => h2 z.2
        (repeat (first | exact ih (i + 1) _ _ (nI_1 i) (by rw [e1]) (by omega) | refine Ex.go rfl rfl ?_ | refine Ex.gf rfl rfl (by assumption) (by rfl) (by first | rfl | assumption) ?_))
      (repeat (first | refine Ex.go rfl rfl ?_ | refine Ex.gf rfl rfl (by assumption) (by rfl) (by first | rfl | assumption) ?_))
      refine Ex.cv1 rfl rfl rfl (by assumption) (by rfl) (by decide) rfl ?_
      refine r_day h (by omega) ?_
      (repeat (first | refine Ex.go rfl rfl ?_ | refine Ex.gf rfl rfl (by assumption) (by rfl) (by first | rfl | assumption) ?_))
      refine Ex.cs2 rfl rfl rfl rfl rfl rfl ?_
      refine j_max ?_
      have e1 : mnd lg v x y (i + 1) = mxI (mnd lg v x y i) (dyy lg i) := if_pos ⟨h1, h2⟩
      (repeat (first | exact ih (i + 1) _ _ (nI_1 i) (by rw [e1]; rfl) (by omega) | refine Ex.go rfl rfl ?_ | refine Ex.gf rfl rfl (by assumption) (by rfl) (by first | rfl | assumption) ?_))
  (repeat (first | exact loop E 0 _ _ rfl rfl (by omega) | refine Ex.go rfl rfl ?_ | refine Ex.gf rfl rfl (by assumption) (by rfl) (by first | rfl | assumption) ?_))
theorem r_plateOf {i : Nat} (h : RD G fs lg E td VS pt vl pp va pa wa nn) (hi : i < 6000) (k : Q (some (.int (pthk lg i))) G) : Cx (d + 1) mX11_plateOf [.ref 364, .int (nI i)] G Q := by
  have g0 := h.1.1
  refine Cx.body rfl rfl ?_
  (repeat (first | refine Ex.go rfl rfl ?_ | refine Ex.gf rfl rfl (by assumption) (by rfl) (by first | rfl | assumption) ?_))
  refine Ex.cv1 rfl rfl rfl (by assumption) (by rfl) (by decide) rfl ?_
  refine r_code h hi ?_
  (repeat (first | refine Ex.go rfl rfl ?_ | refine Ex.gf rfl rfl (by assumption) (by rfl) (by first | rfl | assumption) ?_))
  refine Ex.br (fun h1 => ?_) (fun h1 => ?_)
  · have e : pthk lg i = num lg i 2 := if_neg h1
    rw [e] at k
    (repeat (first | refine Ex.go rfl rfl ?_ | refine Ex.gf rfl rfl (by assumption) (by rfl) (by first | rfl | assumption) ?_))
    refine Ex.cv2 rfl rfl rfl (by assumption) (by rfl) (by decide) rfl ?_
    refine r_number (j := 2) h hi (by omega) ?_
    (repeat (first | refine Ex.go rfl rfl ?_ | refine Ex.gf rfl rfl (by assumption) (by rfl) (by first | rfl | assumption) ?_))
    refine Ex.ret rfl rfl rfl ?_
    exact k
  · have e : pthk lg i = num lg i 4 := if_pos (Decidable.not_not.mp h1)
    rw [e] at k
    (repeat (first | refine Ex.go rfl rfl ?_ | refine Ex.gf rfl rfl (by assumption) (by rfl) (by first | rfl | assumption) ?_))
    refine Ex.cv2 rfl rfl rfl (by assumption) (by rfl) (by decide) rfl ?_
    refine r_number (j := 4) h hi (by omega) ?_
    (repeat (first | refine Ex.go rfl rfl ?_ | refine Ex.gf rfl rfl (by assumption) (by rfl) (by first | rfl | assumption) ?_))
    refine Ex.ret rfl rfl rfl ?_
    exact k
end RR
