/-! The class's view of a part, as the log tells it: entry by entry. -/
theorem latf_s {dy : Nat → Int32} {P : Nat → Prop} [DecidablePred P] {s0 : Option Nat} {f n : Nat} (h : f ≤ n) : lat dy P s0 f (n + 1 - f) = if P n ∧ ltb dy n (lat dy P s0 f (n - f)) = true then some n else lat dy P s0 f (n - f) := by
  obtain ⟨m, rfl⟩ : ∃ m, n = f + m := ⟨n - f, by omega⟩
  rw [show f + m + 1 - f = m + 1 by omega, show f + m - f = m by omega]
  rfl
theorem lat0_s {dy : Nat → Int32} {P : Nat → Prop} [DecidablePred P] {s0 : Option Nat} {n : Nat} : lat dy P s0 0 (n + 1) = if P n ∧ ltb dy n (lat dy P s0 0 n) = true then some n else lat dy P s0 0 n := latf_s (f := 0) (Nat.zero_le n)
def mdI (lg : Nat → Int32) (i v p : Nat) (x y : Int32) : Int32 := match menO lg (nI v) (nI p) x y i with
  | none => -1
  | some j => dyy lg j
def pwI (lg : Nat → Int32) (i v p : Nat) (x y : Int32) : Int64 := match menO lg (nI v) (nI p) x y i with
  | none => 0
  | some j => if cod lg j = 5 then (num lg j 2).toInt64 * (num lg j 3).toInt64 * (num lg j 4).toInt64 else 0
def gdI (lg : Nat → Int32) (i v p : Nat) (x y : Int32) : Int32 := match lof lg 7 (nI v) (nI p) x y none 0 i with
  | none => -1
  | some j => dyy lg j
def plA (lg : Nat → Int32) (i v p : Nat) (x y : Int32) : Int32 := nI (acl lg (plt lg i v p x y)).length
def pvI (lg : Nat → Int32) (i v p : Nat) (x y : Int32) : bo_C := pvC (22 + 14 * p) (num lg (pat lg i v p) 1) (num lg (pat lg i v p) 2) (num lg (pat lg i v p) 3) (num lg (pat lg i v p) 5) (sho lg i (nI v) (nI p) y 2 1) (sho lg i (nI v) (nI p) y 3 0) (sho lg i (nI v) (nI p) y 4 1) (plA lg i v p x y) (dyy lg (plt lg i v p x y)) (pthk lg (plt lg i v p x y)) (mdI lg i v p x y) (pwI lg i v p x y) (gdI lg i v p x y) (plg lg i (nI v) (nI p) x y)
section PI
variable {lg : Nat → Int32} {i v p : Nat} {x y : Int32}
theorem plt_s (hp : p < (psl lg i v).length) : plt lg (i + 1) v p x y = if (isP lg 6 (nI v) (nI p) i ∧ stP lg x y i) ∧ dyy lg (plt lg i v p x y) ≤ dyy lg i then i else plt lg i v p x y := by
  have h1 := (pat_pre (lg := lg) (Nat.le_succ i) hp).1
  have h2 := pat_lt hp
  have e1 := plt_eq (lg := lg) (E := i) (v := v) (p := p) (x := x) (y := y)
  have e2 : lof lg 6 (nI v) (nI p) x y (some (pat lg i v p)) (pat lg i v p + 1) (i + 1 - (pat lg i v p + 1)) = if (isP lg 6 (nI v) (nI p) i ∧ stP lg x y i) ∧ ltb (dyy lg) i (lof lg 6 (nI v) (nI p) x y (some (pat lg i v p)) (pat lg i v p + 1) (i - (pat lg i v p + 1))) = true then some i else lof lg 6 (nI v) (nI p) x y (some (pat lg i v p)) (pat lg i v p + 1) (i - (pat lg i v p + 1)) := latf_s (by omega)
  rw [e1] at e2
  have e3 : (ltb (dyy lg) i (some (plt lg i v p x y)) = true) ↔ dyy lg (plt lg i v p x y) ≤ dyy lg i := decide_eq_true_iff
  have e4 : plt lg (i + 1) v p x y = (lof lg 6 (nI v) (nI p) x y (some (pat lg i v p)) (pat lg i v p + 1) (i + 1 - (pat lg i v p + 1))).getD 0 := by
    show (lof lg 6 (nI v) (nI p) x y (some (pat lg (i + 1) v p)) (pat lg (i + 1) v p + 1) (i + 1 - (pat lg (i + 1) v p + 1))).getD 0 = _
    rw [h1]
  rw [e4, e2]
  by_cases q : (isP lg 6 (nI v) (nI p) i ∧ stP lg x y i) ∧ dyy lg (plt lg i v p x y) ≤ dyy lg i
  · rw [if_pos q, if_pos ⟨q.1, e3.mpr q.2⟩]; rfl
  · rw [if_neg q, if_neg fun z => q ⟨z.1, e3.mp z.2⟩]; rfl
theorem menO_s {a b : Int32} : menO lg a b x y (i + 1) = if ((isP lg 5 a b i ∨ isP lg 6 a b i) ∧ stP lg x y i) ∧ ltb (dyy lg) i (menO lg a b x y i) = true then some i else menO lg a b x y i := lat0_s
theorem lof0_s {c a b : Int32} : lof lg c a b x y none 0 (i + 1) = if (isP lg c a b i ∧ stP lg x y i) ∧ ltb (dyy lg) i (lof lg c a b x y none 0 i) = true then some i else lof lg c a b x y none 0 i := lat0_s
/-- of a choice, its day, -1 without: whether another one is later -/
theorem ltb_day {dy : Nat → Int32} {o : Option Nat} (h0 : 0 ≤ (dy i).toInt) : ltb dy i o = true ↔ (match o with | none => (-1 : Int32) | some j => dy j) ≤ dy i := by
  cases o with
  | none => exact ⟨fun _ => Int32.le_iff_toInt_le.mpr (by show (-1 : Int) ≤ _; omega), fun _ => rfl⟩
  | some j => exact decide_eq_true_iff
theorem md_s (h : (isP lg 5 (nI v) (nI p) i ∨ isP lg 6 (nI v) (nI p) i) ∧ stP lg x y i) (h0 : 0 ≤ (dyy lg i).toInt) : mdI lg (i + 1) v p x y = (if mdI lg i v p x y ≤ dyy lg i then dyy lg i else mdI lg i v p x y) ∧ pwI lg (i + 1) v p x y = (if mdI lg i v p x y ≤ dyy lg i then (if cod lg i = 5 then (num lg i 2).toInt64 * (num lg i 3).toInt64 * (num lg i 4).toInt64 else 0) else pwI lg i v p x y) := by
  have e := ltb_day (i := i) (o := menO lg (nI v) (nI p) x y i) h0
  have e : ltb (dyy lg) i (menO lg (nI v) (nI p) x y i) = true ↔ mdI lg i v p x y ≤ dyy lg i := e
  by_cases q : mdI lg i v p x y ≤ dyy lg i
  · have e1 : menO lg (nI v) (nI p) x y (i + 1) = some i := by rw [menO_s, if_pos ⟨h, e.mpr q⟩]
    rw [if_pos q, if_pos q]
    unfold mdI pwI
    rw [e1]
    exact ⟨rfl, rfl⟩
  · have e1 : menO lg (nI v) (nI p) x y (i + 1) = menO lg (nI v) (nI p) x y i := by rw [menO_s, if_neg fun z => q (e.mp z.2)]
    rw [if_neg q, if_neg q]
    unfold mdI pwI
    rw [e1]
    exact ⟨rfl, rfl⟩
theorem md_no (h : ¬ ((isP lg 5 (nI v) (nI p) i ∨ isP lg 6 (nI v) (nI p) i) ∧ stP lg x y i)) : mdI lg (i + 1) v p x y = mdI lg i v p x y ∧ pwI lg (i + 1) v p x y = pwI lg i v p x y := by
  have e1 : menO lg (nI v) (nI p) x y (i + 1) = menO lg (nI v) (nI p) x y i := by rw [menO_s, if_neg fun z => h z.1]
  unfold mdI pwI
  rw [e1]
  exact ⟨rfl, rfl⟩
theorem gd_s (h : isP lg 7 (nI v) (nI p) i ∧ stP lg x y i) (h0 : 0 ≤ (dyy lg i).toInt) : gdI lg (i + 1) v p x y = (if gdI lg i v p x y ≤ dyy lg i then dyy lg i else gdI lg i v p x y) ∧ plg lg (i + 1) (nI v) (nI p) x y = (if gdI lg i v p x y ≤ dyy lg i then num lg i 2 else plg lg i (nI v) (nI p) x y) := by
  have e := ltb_day (i := i) (o := lof lg 7 (nI v) (nI p) x y none 0 i) h0
  have e : ltb (dyy lg) i (lof lg 7 (nI v) (nI p) x y none 0 i) = true ↔ gdI lg i v p x y ≤ dyy lg i := e
  by_cases q : gdI lg i v p x y ≤ dyy lg i
  · have e1 : lof lg 7 (nI v) (nI p) x y none 0 (i + 1) = some i := by rw [lof0_s, if_pos ⟨h, e.mpr q⟩]
    rw [if_pos q, if_pos q]
    unfold gdI plg
    rw [e1]
    exact ⟨rfl, rfl⟩
  · have e1 : lof lg 7 (nI v) (nI p) x y none 0 (i + 1) = lof lg 7 (nI v) (nI p) x y none 0 i := by rw [lof0_s, if_neg fun z => q (e.mp z.2)]
    rw [if_neg q, if_neg q]
    unfold gdI plg
    rw [e1]
    exact ⟨rfl, rfl⟩
theorem gd_no (h : ¬ (isP lg 7 (nI v) (nI p) i ∧ stP lg x y i)) : gdI lg (i + 1) v p x y = gdI lg i v p x y ∧ plg lg (i + 1) (nI v) (nI p) x y = plg lg i (nI v) (nI p) x y := by
  have e1 : lof lg 7 (nI v) (nI p) x y none 0 (i + 1) = lof lg 7 (nI v) (nI p) x y none 0 i := by rw [lof0_s, if_neg fun z => h z.1]
  unfold gdI plg
  rw [e1]
  exact ⟨rfl, rfl⟩
theorem plt_no (hp : p < (psl lg i v).length) (h : ¬ (isP lg 6 (nI v) (nI p) i ∧ stP lg x y i)) : plt lg (i + 1) v p x y = plt lg i v p x y := by
  rw [plt_s hp, if_neg fun z => h z.1]
theorem pat_s (hp : p < (psl lg i v).length) : pat lg (i + 1) v p = pat lg i v p := (pat_pre (lg := lg) (Nat.le_succ i) hp).1
theorem pvI_same (hp : p < (psl lg i v).length) (h3 : ¬ isP lg 3 (nI v) (nI p) i) (h5 : ¬ (isP lg 5 (nI v) (nI p) i ∧ stP lg x y i)) (h6 : ¬ (isP lg 6 (nI v) (nI p) i ∧ stP lg x y i)) (h7 : ¬ (isP lg 7 (nI v) (nI p) i ∧ stP lg x y i)) : pvI lg (i + 1) v p x y = pvI lg i v p x y := by
  obtain ⟨a1, a2⟩ := md_no (lg := lg) (i := i) (v := v) (p := p) (x := x) (y := y) fun z => z.1.elim (fun q => h5 ⟨q, z.2⟩) fun q => h6 ⟨q, z.2⟩
  obtain ⟨b1, b2⟩ := gd_no h7
  unfold pvI plA
  rw [pat_s hp, sho_s h3, sho_s h3, sho_s h3, plt_no hp h6, a1, a2, b1, b2]
theorem isP_ne {c c' a b : Int32} (h : isP lg c a b i) (hne : ¬ c' = c) : ¬ isP lg c' a b i := fun z => hne (z.1.symm.trans h.1)
theorem pvI_3 (hp : p < (psl lg i v).length) (h : isP lg 3 (nI v) (nI p) i) (he : ent lg i ≤ y) : pvI lg (i + 1) v p x y = pvC (22 + 14 * p) (num lg (pat lg i v p) 1) (num lg (pat lg i v p) 2) (num lg (pat lg i v p) 3) (num lg (pat lg i v p) 5) (num lg i 2) (num lg i 3) (num lg i 4) (plA lg i v p x y) (dyy lg (plt lg i v p x y)) (pthk lg (plt lg i v p x y)) (mdI lg i v p x y) (pwI lg i v p x y) (gdI lg i v p x y) (plg lg i (nI v) (nI p) x y) := by
  have n5 := isP_ne h (show ¬ (5 : Int32) = 3 by decide)
  have n6 := isP_ne h (show ¬ (6 : Int32) = 3 by decide)
  have n7 := isP_ne h (show ¬ (7 : Int32) = 3 by decide)
  obtain ⟨a1, a2⟩ := md_no (lg := lg) (i := i) (v := v) (p := p) (x := x) (y := y) fun z => z.1.elim n5 n6
  obtain ⟨b1, b2⟩ := gd_no (lg := lg) (i := i) (v := v) (p := p) (x := x) (y := y) fun z => n7 z.1
  have hs : cod lg i = 3 ∧ num lg i 0 = nI v ∧ num lg i 1 = nI p ∧ ent lg i ≤ y := ⟨h.1, h.2.1, h.2.2, he⟩
  unfold pvI plA
  rw [pat_s hp, sho_s1 hs, sho_s1 hs, sho_s1 hs, plt_no hp fun z => n6 z.1, a1, a2, b1, b2]
theorem pvI_5 (hp : p < (psl lg i v).length) (h : isP lg 5 (nI v) (nI p) i) (hs : stP lg x y i) (h0 : 0 ≤ (dyy lg i).toInt) : pvI lg (i + 1) v p x y = pvC (22 + 14 * p) (num lg (pat lg i v p) 1) (num lg (pat lg i v p) 2) (num lg (pat lg i v p) 3) (num lg (pat lg i v p) 5) (sho lg i (nI v) (nI p) y 2 1) (sho lg i (nI v) (nI p) y 3 0) (sho lg i (nI v) (nI p) y 4 1) (plA lg i v p x y) (dyy lg (plt lg i v p x y)) (pthk lg (plt lg i v p x y)) (if mdI lg i v p x y ≤ dyy lg i then dyy lg i else mdI lg i v p x y) (if mdI lg i v p x y ≤ dyy lg i then (num lg i 2).toInt64 * (num lg i 3).toInt64 * (num lg i 4).toInt64 else pwI lg i v p x y) (gdI lg i v p x y) (plg lg i (nI v) (nI p) x y) := by
  have n3 := isP_ne h (show ¬ (3 : Int32) = 5 by decide)
  have n6 := isP_ne h (show ¬ (6 : Int32) = 5 by decide)
  have n7 := isP_ne h (show ¬ (7 : Int32) = 5 by decide)
  obtain ⟨a1, a2⟩ := md_s (lg := lg) (i := i) (v := v) (p := p) (x := x) (y := y) ⟨Or.inl h, hs⟩ h0
  rw [if_pos h.1] at a2
  obtain ⟨b1, b2⟩ := gd_no (lg := lg) (i := i) (v := v) (p := p) (x := x) (y := y) fun z => n7 z.1
  unfold pvI plA
  rw [pat_s hp, sho_s n3, sho_s n3, sho_s n3, plt_no hp fun z => n6 z.1, a1, a2, b1, b2]
theorem pvI_6 (hp : p < (psl lg i v).length) (h : isP lg 6 (nI v) (nI p) i) (hs : stP lg x y i) (h0 : 0 ≤ (dyy lg i).toInt) : pvI lg (i + 1) v p x y = pvC (22 + 14 * p) (num lg (pat lg i v p) 1) (num lg (pat lg i v p) 2) (num lg (pat lg i v p) 3) (num lg (pat lg i v p) 5) (sho lg i (nI v) (nI p) y 2 1) (sho lg i (nI v) (nI p) y 3 0) (sho lg i (nI v) (nI p) y 4 1) (if dyy lg (plt lg i v p x y) ≤ dyy lg i then nI (acl lg i).length else plA lg i v p x y) (if dyy lg (plt lg i v p x y) ≤ dyy lg i then dyy lg i else dyy lg (plt lg i v p x y)) (if dyy lg (plt lg i v p x y) ≤ dyy lg i then num lg i 2 else pthk lg (plt lg i v p x y)) (if mdI lg i v p x y ≤ dyy lg i then dyy lg i else mdI lg i v p x y) (if mdI lg i v p x y ≤ dyy lg i then 0 else pwI lg i v p x y) (gdI lg i v p x y) (plg lg i (nI v) (nI p) x y) := by
  have n3 := isP_ne h (show ¬ (3 : Int32) = 6 by decide)
  have n7 := isP_ne h (show ¬ (7 : Int32) = 6 by decide)
  obtain ⟨a1, a2⟩ := md_s (lg := lg) (i := i) (v := v) (p := p) (x := x) (y := y) ⟨Or.inr h, hs⟩ h0
  rw [if_neg (show ¬ cod lg i = 5 by rw [h.1]; decide)] at a2
  obtain ⟨b1, b2⟩ := gd_no (lg := lg) (i := i) (v := v) (p := p) (x := x) (y := y) fun z => n7 z.1
  have ep := plt_s (x := x) (y := y) hp
  have et : pthk lg i = num lg i 2 := if_neg (by rw [h.1]; decide)
  unfold pvI plA
  rw [pat_s hp, sho_s n3, sho_s n3, sho_s n3, a1, a2, b1, b2, ep]
  by_cases q : dyy lg (plt lg i v p x y) ≤ dyy lg i
  · rw [if_pos ⟨⟨h, hs⟩, q⟩, if_pos q, if_pos q, if_pos q, et]
  · rw [if_neg fun z => q z.2, if_neg q, if_neg q, if_neg q]
theorem pvI_7 (hp : p < (psl lg i v).length) (h : isP lg 7 (nI v) (nI p) i) (hs : stP lg x y i) (h0 : 0 ≤ (dyy lg i).toInt) : pvI lg (i + 1) v p x y = pvC (22 + 14 * p) (num lg (pat lg i v p) 1) (num lg (pat lg i v p) 2) (num lg (pat lg i v p) 3) (num lg (pat lg i v p) 5) (sho lg i (nI v) (nI p) y 2 1) (sho lg i (nI v) (nI p) y 3 0) (sho lg i (nI v) (nI p) y 4 1) (plA lg i v p x y) (dyy lg (plt lg i v p x y)) (pthk lg (plt lg i v p x y)) (mdI lg i v p x y) (pwI lg i v p x y) (if gdI lg i v p x y ≤ dyy lg i then dyy lg i else gdI lg i v p x y) (if gdI lg i v p x y ≤ dyy lg i then num lg i 2 else plg lg i (nI v) (nI p) x y) := by
  have n3 := isP_ne h (show ¬ (3 : Int32) = 7 by decide)
  have n5 := isP_ne h (show ¬ (5 : Int32) = 7 by decide)
  have n6 := isP_ne h (show ¬ (6 : Int32) = 7 by decide)
  obtain ⟨a1, a2⟩ := md_no (lg := lg) (i := i) (v := v) (p := p) (x := x) (y := y) fun z => z.1.elim n5 n6
  obtain ⟨b1, b2⟩ := gd_s ⟨h, hs⟩ h0
  unfold pvI plA
  rw [pat_s hp, sho_s n3, sho_s n3, sho_s n3, plt_no hp fun z => n6 z.1, a1, a2, b1, b2]
theorem lat_none {dy : Nat → Int32} {P : Nat → Prop} [DecidablePred P] {n : Nat} (h : ∀ j, j < n → ¬ P j) : lat dy P none 0 n = none := lat_cut (n := 0) (Nat.zero_le n) fun j _ hj => by rw [Nat.zero_add]; exact h j hj
theorem pvI_new (hW : ∀ k, k < i → wfE lg k) (hi : i ≤ 6000) (hv : v < 2 ^ 31) (hp : p = (psl lg i v).length) (hc : cod lg i = 2) (h0 : num lg i 0 = nI v) : pvI lg (i + 1) v p x y = pvC (22 + 14 * p) (num lg i 1) (num lg i 2) (num lg i 3) (num lg i 5) 1 0 1 (nI (acl lg i).length) (dyy lg i) (num lg i 4) (-1) 0 (-1) 0 := by
  have hl := sel_len i fun k => cod lg k == 2 && num lg k 0 == nI v
  have hl : (psl lg i v).length ≤ i := hl
  have es : psl lg (i + 1) v = psl lg i v ++ [i] := by rw [psl_s, if_pos ⟨hc, h0⟩]
  have ep : pat lg (i + 1) v p = i := by
    unfold pat
    rw [es, hp, List.getElem?_append_right (Nat.le_refl _), Nat.sub_self]
    rfl
  have e3 : ¬ isP lg 3 (nI v) (nI p) i := fun z => absurd (z.1.symm.trans hc) (by decide)
  have esh : ∀ m dd, sho lg (i + 1) (nI v) (nI p) y m dd = dd := fun m dd => by rw [sho_s e3, sho_new hW hi (by omega) (by omega) hv]
  have no : ∀ c : Int32, 3 ≤ c.toInt ∧ c.toInt ≤ 7 → ∀ k, k < i + 1 → ¬ isP lg c (nI v) (nI p) k := fun c hcc k hk z => by
    by_cases q : k = i
    · rw [q] at z
      have := z.1.symm.trans hc
      rw [this] at hcc
      exact absurd hcc.1 (by decide)
    · exact no_part hW hi hcc (show k < i by omega) (by omega) (by omega) hv ⟨z.1, z.2.1, z.2.2⟩
  have el : plt lg (i + 1) v p x y = i := by
    unfold plt
    rw [ep, Nat.sub_self]
    rfl
  have em : menO lg (nI v) (nI p) x y (i + 1) = none := lat_none fun k hk z => z.1.elim (no 5 (by decide) k hk) (no 6 (by decide) k hk)
  have eg : lof lg 7 (nI v) (nI p) x y none 0 (i + 1) = none := lat_none fun k hk z => no 7 (by decide) k hk z.1
  have et : pthk lg i = num lg i 4 := if_pos hc
  unfold pvI plA mdI pwI gdI plg
  rw [ep, el, em, eg, esh, esh, esh, et]
end PI
