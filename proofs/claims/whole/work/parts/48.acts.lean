/-! Acts: what refuses them, what they answer, the day that they tell. -/
def fulI (lg : Nat → Int32) (E : Nat) : Int32 := if (acl lg E).length = 2000 then -4 else 0
def rf0 (lg : Nat → Int32) (E : Nat) (nn : Nat → Int32) : Int32 := if ¬ rng (nn 0) (tdy lg E).toInt 40000 then -2 else if (osl lg E).length = 4000 then -4 else 0
def rf1 (lg : Nat → Int32) (E : Nat) (nn : Nat → Int32) : Int32 := if ¬ (rng (nn 0) 0 999 ∧ rng (nn 1) 1 20 ∧ rng (nn 2) 0 100000 ∧ rng (nn 3) 0 (tdy lg E).toInt) then -2 else if (vsl lg E).length = 30 then -4 else fulI lg E
def rf11 (lg : Nat → Int32) (E : Nat) (nn : Nat → Int32) : Int32 := if ¬ (rng (nn 0) 0 2 ∧ rng (nn 1) 1 4000 ∧ rng (nn 2) 1 4000) then -2 else fulI lg E
def rf2 (lg : Nat → Int32) (E v : Nat) (nn : Nat → Int32) : Int32 := if ¬ (rng (nn 1) 0 4 ∧ rng (nn 2) 1 100000 ∧ rng (nn 3) 1 100000 ∧ rng (nn 4) 1 10000 ∧ rng (nn 5) 1 1000) then -2 else if (psl lg E v).length = 24 then -4 else fulI lg E
def rf8 (lg : Nat → Int32) (E v : Nat) (nn : Nat → Int32) : Int32 := if ¬ (rng (nn 1) 1 10000 ∧ rng (nn 2) 1 100000 ∧ dok lg E v (nn 3)) then -2 else if (wsl lg E v).length = 6 then -4 else fulI lg E
def rf9 (lg : Nat → Int32) (E v : Nat) (nn : Nat → Int32) : Int32 := if ¬ (0 ≤ (nn 1).toInt ∧ (nn 1).toInt < (wsl lg E v).length) then -1 else if ¬ (rng (nn 2) 1 10000 ∧ dok lg E v (nn 3) ∧ dyy lg (wat lg E v (nn 1).toNatClampNeg) ≤ nn 3) then -2 else fulI lg E
def rf10 (lg : Nat → Int32) (E v : Nat) (nn : Nat → Int32) : Int32 := if ¬ (rng (nn 1) 0 5 ∧ rng (nn 2) 0 999 ∧ rng (nn 3) 0 9999 ∧ dok lg E v (nn 4)) then -2 else fulI lg E
def rf3 (lg : Nat → Int32) (E v p : Nat) (nn : Nat → Int32) : Int32 := if ¬ (rng (nn 2) 1 12 ∧ rng (nn 3) 0 1000 ∧ rng (nn 4) 1 (if num lg (pat lg E v p) 1 = 2 then 500 else 1)) then -2 else if exi (shdP lg (nI v) (nI p)) E = true then -3 else fulI lg E
def rf4 (lg : Nat → Int32) (E v p : Nat) (nn : Nat → Int32) : Int32 := if ¬ dok lg E v (nn 2) then -2 else if ¬ (∀ k, k < 12 → rng (nn (3 + k)) (-1) (if (k : Int) < (sho lg E (nI v) (nI p) 40000 2 1).toInt then 10000 else -1)) then -2 else fulI lg E
def rf5 (lg : Nat → Int32) (E v : Nat) (nn : Nat → Int32) : Int32 := if ¬ (rng (nn 2) 1 100000 ∧ rng (nn 3) 1 10000 ∧ rng (nn 4) 1 1000 ∧ dok lg E v (nn 5)) then -2 else fulI lg E
def rf6 (lg : Nat → Int32) (E v : Nat) (nn : Nat → Int32) : Int32 := if ¬ (rng (nn 2) 1 10000 ∧ dok lg E v (nn 3)) then -2 else fulI lg E
def rf7 (lg : Nat → Int32) (E v p : Nat) (nn : Nat → Int32) : Int32 := if ¬ num lg (pat lg E v p) 1 = 2 then -1 else if ¬ (rng (nn 2) 0 (sho lg E (nI v) (nI p) 40000 4 1).toInt ∧ dok lg E v (nn 3)) then -2 else fulI lg E
def rfP (lg : Nat → Int32) (E v p : Nat) (c : Nat) (nn : Nat → Int32) : Int32 := match c with
  | 3 => rf3 lg E v p nn
  | 4 => rf4 lg E v p nn
  | 5 => rf5 lg E v nn
  | 6 => rf6 lg E v nn
  | _ => rf7 lg E v p nn
def rfV (lg : Nat → Int32) (E v : Nat) (c : Nat) (nn : Nat → Int32) : Int32 := match c with
  | 2 => rf2 lg E v nn
  | 8 => rf8 lg E v nn
  | 9 => rf9 lg E v nn
  | 10 => rf10 lg E v nn
  | c => if ¬ (0 ≤ (nn 1).toInt ∧ (nn 1).toInt < (psl lg E v).length) then -1 else rfP lg E v (nn 1).toNatClampNeg c nn
/-- what a call with code c and numbers nn is refused with; 0: it isn't -/
def rfs (lg : Nat → Int32) (E : Nat) (c : Nat) (nn : Nat → Int32) : Int32 := match c with
  | 0 => rf0 lg E nn
  | 1 => rf1 lg E nn
  | 11 => rf11 lg E nn
  | c => if ¬ (0 ≤ (nn 0).toInt ∧ (nn 0).toInt < (vsl lg E).length) then -1 else rfV lg E (nn 0).toNatClampNeg c nn
def msdN (nn : Nat → Int32) : Nat → Nat
  | 0 => 0
  | k + 1 => msdN nn k + (if 0 ≤ nn (3 + k) then 1 else 0)
/-- what it answers -/
def ansI (lg : Nat → Int32) (E : Nat) (c : Nat) (nn : Nat → Int32) : Int32 := match c with
  | 0 => nn 0
  | 1 => nI (vsl lg E).length
  | 2 => nI (psl lg E (nn 0).toNatClampNeg).length
  | 3 => nn 2
  | 4 => nI (msdN nn 12)
  | 5 => 1
  | 6 => 1
  | 7 => nn 2
  | 8 => nI (wsl lg E (nn 0).toNatClampNeg).length
  | 9 => nn 2
  | 10 => nI ((qsl lg E (nn 0).toNatClampNeg).length + 1)
  | _ => nI ((rsl lg E).length + 1)
/-- the day that it tells -/
def dofI (lg : Nat → Int32) (E : Nat) (c : Nat) (nn : Nat → Int32) : Int32 := match c with
  | 0 => 0
  | 1 => nn 3
  | 2 => dyy lg (vat lg E (nn 0).toNatClampNeg)
  | 3 => dyy lg (vat lg E (nn 0).toNatClampNeg)
  | 4 => nn 2
  | 5 => nn 5
  | 6 => nn 3
  | 7 => nn 3
  | 8 => nn 3
  | 9 => nn 3
  | 10 => nn 4
  | _ => 0
def lgN (lg : Nat → Int32) (E : Nat) (c : Nat) (nn : Nat → Int32) : Nat → Int32 := lgw lg E (nI c) (tdy lg E) (dofI lg E c nn) nn
/-- the reference's fields -/
abbrev rF (E fx : Nat) (td : Int32) (A P VS RU : Nat) (st sh shs : Int32) (w : Value × Value × Value × Value × Value) (mn im tp rs : Int32) : List Value := [.ref 365, .ref 366, .int (nI E), .int (nI fx), .int td, .int (nI A), .int (nI P), .int (nI VS), .int (nI RU), .ref 367, .ref 368, .ref 369, .ref 370, .ref 371, .ref 372, .int st, .ref 373, .int sh, .int shs, .ref 374, w.1, w.2.1, w.2.2.1, w.2.2.2.1, w.2.2.2.2, .ref 375, .int mn, .ref 376, .int im, .ref 377, .int tp, .int rs]
section RR
variable {d : Nat} {G : bo_G} {Q : Option Value → bo_G → Prop} {lg : Nat → Int32} {E fx A P RU : Nat} {td : Int32} {VS : Nat} {pt vl pp va pa wa nn : Nat → Int32} {st sh shs mn im tp rs : Int32} {w : Value × Value × Value × Value × Value}
theorem r_full (h : RD G (rF E fx (tdy lg E) A P VS RU st sh shs w mn im tp rs) lg E (tdy lg E) VS pt vl pp va pa wa nn) (hA : A = (acl lg E).length) (k : Q (some (.int (fulI lg E))) G) : Cx d mX11_full [.ref 364] G Q := by
  have g0 := h.1.1
  have hE := h.2.2.1
  have hA2 : A ≤ E := by rw [hA]; exact sel_len _ _
  unfold fulI at k
  rw [← hA] at k
  refine Cx.body rfl rfl ?_
  (repeat (first | refine Ex.go rfl rfl ?_ | refine Ex.gf rfl rfl (by assumption) (by rfl) (by first | rfl | assumption) ?_))
  refine Ex.br (fun h1 => ?_) (fun h1 => ?_)
  · have h2 : ¬ A = 2000 := fun z => h1 (by rw [z]; rfl)
    rw [if_neg h2] at k
    (repeat (first | refine Ex.go rfl rfl ?_ | refine Ex.gf rfl rfl (by assumption) (by rfl) (by first | rfl | assumption) ?_))
    refine Ex.ret rfl rfl rfl ?_
    exact k
  · have h2 : A = 2000 := (nI_eq (b := 2000) (by omega) (by omega)).mp (Decidable.not_not.mp h1)
    rw [if_pos h2] at k
    (repeat (first | refine Ex.go rfl rfl ?_ | refine Ex.gf rfl rfl (by assumption) (by rfl) (by first | rfl | assumption) ?_))
    refine Ex.ret rfl rfl rfl ?_
    exact k
theorem r_ofPartA {v p : Nat} {c : Int32} (h : RD G (rF E fx (tdy lg E) A P VS RU st sh shs w mn im tp rs) lg E (tdy lg E) VS pt vl pp va pa wa nn) (hI : RI lg E VS pt vl pp va pa wa) (hv : v < VS) (hp : p < (psl lg E v).length) (e0 : nn 0 = nI v) (e1 : nn 1 = nI p) (k : Ex (d + 2) mX11_ofPart (31, [(0, .ref 364), (1, .int c), (2, .int (nI v)), (3, .int (nI p)), (4, .int (bo_b (num lg (pat lg E v p) 1 = 2)))], [], G) Q) : Cx (d + 2) mX11_ofPart [.ref 364, .int c] G Q := by
  have g0 := h.1.1
  have g8 := h.2.1.2.2.2.2.2.2.2
  refine Cx.body rfl rfl ?_
  (repeat (first | refine Ex.go rfl rfl ?_ | refine Ex.gf rfl rfl (by assumption) (by rfl) (by first | rfl | assumption) ?_))
  refine Ex.ialN rfl (j := 0) rfl (by assumption) (by omega) (by omega) ?_
  rw [e0]
  (repeat (first | refine Ex.go rfl rfl ?_ | refine Ex.gf rfl rfl (by assumption) (by rfl) (by first | rfl | assumption) ?_))
  refine Ex.ialN rfl (j := 1) rfl (by assumption) (by omega) (by omega) ?_
  rw [e1]
  (repeat (first | refine Ex.go rfl rfl ?_ | refine Ex.gf rfl rfl (by assumption) (by rfl) (by first | rfl | assumption) ?_))
  refine Ex.cv2 rfl rfl rfl (by assumption) (by rfl) (by decide) rfl ?_
  refine r_kindOf h hI hv hp ?_
  (repeat (first | refine Ex.go rfl rfl ?_ | refine Ex.gf rfl rfl (by assumption) (by rfl) (by first | rfl | assumption) ?_))
  refine Ex.br (fun h1 => ?_) (fun h1 => ?_)
  · rw [bo_b_f (P := num lg (pat lg E v p) 1 = 2) h1] at k
    (repeat (first | exact k | refine Ex.go rfl rfl ?_ | refine Ex.gf rfl rfl (by assumption) (by rfl) (by first | rfl | assumption) ?_))
  · rw [bo_b_t (P := num lg (pat lg E v p) 1 = 2) (Decidable.not_not.mp h1)] at k
    (repeat (first | exact k | refine Ex.go rfl rfl ?_ | refine Ex.gf rfl rfl (by assumption) (by rfl) (by first | rfl | assumption) ?_))
theorem r_ofPart3 {v p : Nat} (h : RD G (rF E fx (tdy lg E) A P VS RU st sh shs w mn im tp rs) lg E (tdy lg E) VS pt vl pp va pa wa nn) (hI : RI lg E VS pt vl pp va pa wa) (hA : A = (acl lg E).length) (hv : v < VS) (hp : p < (psl lg E v).length) (e0 : nn 0 = nI v) (e1 : nn 1 = nI p) (k : Q (some (.int (rf3 lg E v p nn))) G) : Cx (d + 3) mX11_ofPart [.ref 364, .int 3] G Q := by
  have g0 := h.1.1
  have g8 := h.2.1.2.2.2.2.2.2.2
  unfold rf3 at k
  refine r_ofPartA h hI hv hp e0 e1 ?_
  (repeat (first | refine Ex.go rfl rfl ?_ | refine Ex.gf rfl rfl (by assumption) (by rfl) (by first | rfl | assumption) ?_))
  refine Ex.ialN rfl (j := 2) rfl (by assumption) (by omega) (by omega) ?_
  (repeat (first | refine Ex.go rfl rfl ?_ | refine Ex.gf rfl rfl (by assumption) (by rfl) (by first | rfl | assumption) ?_))
  refine Ex.cs3 rfl rfl rfl rfl rfl rfl ?_
  refine r_inP (lo := 1) (hi := 12) (by decide +kernel) (by decide +kernel) (fun Pc1 dc1 ic1 => ?_)
  (repeat (first | refine Ex.go rfl rfl ?_ | refine Ex.gf rfl rfl (by assumption) (by rfl) (by first | rfl | assumption) ?_))
  first | (refine Ex.brz (fun c1 => ?_) (fun c1 => ?_); rotate_left) | (refine Ex.brn (fun c1 => ?_) (fun c1 => ?_); rotate_left)
  · rw [if_pos (fun q => c1 (ic1.mpr (q.1)))] at k
    (repeat (first | refine Ex.go rfl rfl ?_ | refine Ex.gf rfl rfl (by assumption) (by rfl) (by first | rfl | assumption) ?_))
    refine Ex.ret rfl rfl rfl ?_
    exact k
  have c1 := ic1.mp c1
  (repeat (first | refine Ex.go rfl rfl ?_ | refine Ex.gf rfl rfl (by assumption) (by rfl) (by first | rfl | assumption) ?_))
  refine Ex.ialN rfl (j := 3) rfl (by assumption) (by omega) (by omega) ?_
  (repeat (first | refine Ex.go rfl rfl ?_ | refine Ex.gf rfl rfl (by assumption) (by rfl) (by first | rfl | assumption) ?_))
  refine Ex.cs3 rfl rfl rfl rfl rfl rfl ?_
  refine r_inP (lo := 0) (hi := 1000) (by decide +kernel) (by decide +kernel) (fun Pc2 dc2 ic2 => ?_)
  (repeat (first | refine Ex.go rfl rfl ?_ | refine Ex.gf rfl rfl (by assumption) (by rfl) (by first | rfl | assumption) ?_))
  first | (refine Ex.brz (fun c2 => ?_) (fun c2 => ?_); rotate_left) | (refine Ex.brn (fun c2 => ?_) (fun c2 => ?_); rotate_left)
  · rw [if_pos (fun q => c2 (ic2.mpr (q.2.1)))] at k
    (repeat (first | refine Ex.go rfl rfl ?_ | refine Ex.gf rfl rfl (by assumption) (by rfl) (by first | rfl | assumption) ?_))
    refine Ex.ret rfl rfl rfl ?_
    exact k
  have c2 := ic2.mp c2
  (repeat (first | refine Ex.go rfl rfl ?_ | refine Ex.gf rfl rfl (by assumption) (by rfl) (by first | rfl | assumption) ?_))
  refine Ex.ialN rfl (j := 4) rfl (by assumption) (by omega) (by omega) ?_
  have fin : ∀ B : Int64, B.toInt = (if num lg (pat lg E v p) 1 = 2 then 500 else 1) → Ex (d + 3) mX11_ofPart (122, [(0, .ref 364), (1, .int 3), (2, .int (nI v)), (3, .int (nI p)), (4, .int (bo_b (num lg (pat lg E v p) 1 = 2)))], [.long B, .long 1, .long (nn 4).toInt64], G) Q := by
    intro B hB
    refine Ex.cs3 rfl rfl rfl rfl rfl rfl ?_
    refine r_inP (lo := 1) (by decide +kernel) hB (fun Pc dc ic => ?_)
    (repeat (first | refine Ex.go rfl rfl ?_ | refine Ex.gf rfl rfl (by assumption) (by rfl) (by first | rfl | assumption) ?_))
    first | (refine Ex.brz (fun c3 => ?_) (fun c3 => ?_); rotate_left) | (refine Ex.brn (fun c3 => ?_) (fun c3 => ?_); rotate_left)
    · rw [if_pos (fun q => c3 (ic.mpr q.2.2))] at k
      (repeat (first | refine Ex.go rfl rfl ?_ | refine Ex.gf rfl rfl (by assumption) (by rfl) (by first | rfl | assumption) ?_))
      refine Ex.ret rfl rfl rfl ?_
      exact k
    rw [if_neg (fun z => z ⟨c1, c2, ic.mp c3⟩)] at k
    (repeat (first | refine Ex.go rfl rfl ?_ | refine Ex.gf rfl rfl (by assumption) (by rfl) (by first | rfl | assumption) ?_))
    refine Ex.cv2 rfl rfl rfl (by assumption) (by rfl) (by decide) rfl ?_
    refine r_isShaped h ?_
    (repeat (first | refine Ex.go rfl rfl ?_ | refine Ex.gf rfl rfl (by assumption) (by rfl) (by first | rfl | assumption) ?_))
    refine Ex.brz (fun c4 => ?_) (fun c4 => ?_); rotate_left
    · rw [if_neg c4] at k
      (repeat (first | refine Ex.go rfl rfl ?_ | refine Ex.gf rfl rfl (by assumption) (by rfl) (by first | rfl | assumption) ?_))
      refine Ex.cv0 rfl rfl rfl (by assumption) (by rfl) (by decide) rfl ?_
      refine r_full h hA ?_
      (repeat (first | refine Ex.go rfl rfl ?_ | refine Ex.gf rfl rfl (by assumption) (by rfl) (by first | rfl | assumption) ?_))
      refine Ex.ret rfl rfl rfl ?_
      exact k
    · rw [if_pos c4] at k
      (repeat (first | refine Ex.go rfl rfl ?_ | refine Ex.gf rfl rfl (by assumption) (by rfl) (by first | rfl | assumption) ?_))
      refine Ex.ret rfl rfl rfl ?_
      exact k
  (repeat (first | refine Ex.go rfl rfl ?_ | refine Ex.gf rfl rfl (by assumption) (by rfl) (by first | rfl | assumption) ?_))
  refine Ex.brz (fun h1 => ?_) (fun h1 => ?_); rotate_left
  · (repeat (first | exact fin 1 (by rw [if_neg h1]; rfl) | refine Ex.go rfl rfl ?_ | refine Ex.gf rfl rfl (by assumption) (by rfl) (by first | rfl | assumption) ?_))
  · (repeat (first | exact fin 500 (by rw [if_pos h1]; decide +kernel) | refine Ex.go rfl rfl ?_ | refine Ex.gf rfl rfl (by assumption) (by rfl) (by first | rfl | assumption) ?_))
theorem r_ofPart5 {v p : Nat} (h : RD G (rF E fx (tdy lg E) A P VS RU st sh shs w mn im tp rs) lg E (tdy lg E) VS pt vl pp va pa wa nn) (hI : RI lg E VS pt vl pp va pa wa) (hA : A = (acl lg E).length) (hv : v < VS) (hp : p < (psl lg E v).length) (e0 : nn 0 = nI v) (e1 : nn 1 = nI p) (k : Q (some (.int (rf5 lg E v nn))) G) : Cx (d + 3) mX11_ofPart [.ref 364, .int 5] G Q := by
  have g0 := h.1.1
  have g8 := h.2.1.2.2.2.2.2.2.2
  unfold rf5 at k
  refine r_ofPartA h hI hv hp e0 e1 ?_
  (repeat (first | refine Ex.go rfl rfl ?_ | refine Ex.gf rfl rfl (by assumption) (by rfl) (by first | rfl | assumption) ?_))
  refine Ex.ialN rfl (j := 2) rfl (by assumption) (by omega) (by omega) ?_
  (repeat (first | refine Ex.go rfl rfl ?_ | refine Ex.gf rfl rfl (by assumption) (by rfl) (by first | rfl | assumption) ?_))
  refine Ex.cs3 rfl rfl rfl rfl rfl rfl ?_
  refine r_inP (lo := 1) (hi := 100000) (by decide +kernel) (by decide +kernel) (fun Pc1 dc1 ic1 => ?_)
  (repeat (first | refine Ex.go rfl rfl ?_ | refine Ex.gf rfl rfl (by assumption) (by rfl) (by first | rfl | assumption) ?_))
  first | (refine Ex.brz (fun c1 => ?_) (fun c1 => ?_); rotate_left) | (refine Ex.brn (fun c1 => ?_) (fun c1 => ?_); rotate_left)
  · rw [if_pos (fun q => c1 (ic1.mpr (q.1)))] at k
    (repeat (first | refine Ex.go rfl rfl ?_ | refine Ex.gf rfl rfl (by assumption) (by rfl) (by first | rfl | assumption) ?_))
    refine Ex.ret rfl rfl rfl ?_
    exact k
  have c1 := ic1.mp c1
  (repeat (first | refine Ex.go rfl rfl ?_ | refine Ex.gf rfl rfl (by assumption) (by rfl) (by first | rfl | assumption) ?_))
  refine Ex.ialN rfl (j := 3) rfl (by assumption) (by omega) (by omega) ?_
  (repeat (first | refine Ex.go rfl rfl ?_ | refine Ex.gf rfl rfl (by assumption) (by rfl) (by first | rfl | assumption) ?_))
  refine Ex.cs3 rfl rfl rfl rfl rfl rfl ?_
  refine r_inP (lo := 1) (hi := 10000) (by decide +kernel) (by decide +kernel) (fun Pc2 dc2 ic2 => ?_)
  (repeat (first | refine Ex.go rfl rfl ?_ | refine Ex.gf rfl rfl (by assumption) (by rfl) (by first | rfl | assumption) ?_))
  first | (refine Ex.brz (fun c2 => ?_) (fun c2 => ?_); rotate_left) | (refine Ex.brn (fun c2 => ?_) (fun c2 => ?_); rotate_left)
  · rw [if_pos (fun q => c2 (ic2.mpr (q.2.1)))] at k
    (repeat (first | refine Ex.go rfl rfl ?_ | refine Ex.gf rfl rfl (by assumption) (by rfl) (by first | rfl | assumption) ?_))
    refine Ex.ret rfl rfl rfl ?_
    exact k
  have c2 := ic2.mp c2
  (repeat (first | refine Ex.go rfl rfl ?_ | refine Ex.gf rfl rfl (by assumption) (by rfl) (by first | rfl | assumption) ?_))
  refine Ex.ialN rfl (j := 4) rfl (by assumption) (by omega) (by omega) ?_
  (repeat (first | refine Ex.go rfl rfl ?_ | refine Ex.gf rfl rfl (by assumption) (by rfl) (by first | rfl | assumption) ?_))
  refine Ex.cs3 rfl rfl rfl rfl rfl rfl ?_
  refine r_inP (lo := 1) (hi := 1000) (by decide +kernel) (by decide +kernel) (fun Pc3 dc3 ic3 => ?_)
  (repeat (first | refine Ex.go rfl rfl ?_ | refine Ex.gf rfl rfl (by assumption) (by rfl) (by first | rfl | assumption) ?_))
  first | (refine Ex.brz (fun c3 => ?_) (fun c3 => ?_); rotate_left) | (refine Ex.brn (fun c3 => ?_) (fun c3 => ?_); rotate_left)
  · rw [if_pos (fun q => c3 (ic3.mpr (q.2.2.1)))] at k
    (repeat (first | refine Ex.go rfl rfl ?_ | refine Ex.gf rfl rfl (by assumption) (by rfl) (by first | rfl | assumption) ?_))
    refine Ex.ret rfl rfl rfl ?_
    exact k
  have c3 := ic3.mp c3
  (repeat (first | refine Ex.go rfl rfl ?_ | refine Ex.gf rfl rfl (by assumption) (by rfl) (by first | rfl | assumption) ?_))
  refine Ex.ialN rfl (j := 5) rfl (by assumption) (by omega) (by omega) ?_
  (repeat (first | refine Ex.go rfl rfl ?_ | refine Ex.gf rfl rfl (by assumption) (by rfl) (by first | rfl | assumption) ?_))
  refine Ex.cv2 rfl rfl rfl (by assumption) (by rfl) (by decide) rfl ?_
  refine r_isDay h hI hv ?_
  (repeat (first | refine Ex.go rfl rfl ?_ | refine Ex.gf rfl rfl (by assumption) (by rfl) (by first | rfl | assumption) ?_))
  first | (refine Ex.brz (fun c4 => ?_) (fun c4 => ?_); rotate_left) | (refine Ex.brn (fun c4 => ?_) (fun c4 => ?_); rotate_left)
  · rw [if_pos (fun q => c4 (q.2.2.2))] at k
    (repeat (first | refine Ex.go rfl rfl ?_ | refine Ex.gf rfl rfl (by assumption) (by rfl) (by first | rfl | assumption) ?_))
    refine Ex.ret rfl rfl rfl ?_
    exact k
  rw [if_neg (fun z => z ⟨c1, c2, c3, c4⟩)] at k
  (repeat (first | refine Ex.go rfl rfl ?_ | refine Ex.gf rfl rfl (by assumption) (by rfl) (by first | rfl | assumption) ?_))
  refine Ex.cv0 rfl rfl rfl (by assumption) (by rfl) (by decide) rfl ?_
  refine r_full h hA ?_
  (repeat (first | refine Ex.go rfl rfl ?_ | refine Ex.gf rfl rfl (by assumption) (by rfl) (by first | rfl | assumption) ?_))
  refine Ex.ret rfl rfl rfl ?_
  exact k
theorem r_ofPart6 {v p : Nat} (h : RD G (rF E fx (tdy lg E) A P VS RU st sh shs w mn im tp rs) lg E (tdy lg E) VS pt vl pp va pa wa nn) (hI : RI lg E VS pt vl pp va pa wa) (hA : A = (acl lg E).length) (hv : v < VS) (hp : p < (psl lg E v).length) (e0 : nn 0 = nI v) (e1 : nn 1 = nI p) (k : Q (some (.int (rf6 lg E v nn))) G) : Cx (d + 3) mX11_ofPart [.ref 364, .int 6] G Q := by
  have g0 := h.1.1
  have g8 := h.2.1.2.2.2.2.2.2.2
  unfold rf6 at k
  refine r_ofPartA h hI hv hp e0 e1 ?_
  (repeat (first | refine Ex.go rfl rfl ?_ | refine Ex.gf rfl rfl (by assumption) (by rfl) (by first | rfl | assumption) ?_))
  refine Ex.ialN rfl (j := 2) rfl (by assumption) (by omega) (by omega) ?_
  (repeat (first | refine Ex.go rfl rfl ?_ | refine Ex.gf rfl rfl (by assumption) (by rfl) (by first | rfl | assumption) ?_))
  refine Ex.cs3 rfl rfl rfl rfl rfl rfl ?_
  refine r_inP (lo := 1) (hi := 10000) (by decide +kernel) (by decide +kernel) (fun Pc1 dc1 ic1 => ?_)
  (repeat (first | refine Ex.go rfl rfl ?_ | refine Ex.gf rfl rfl (by assumption) (by rfl) (by first | rfl | assumption) ?_))
  first | (refine Ex.brz (fun c1 => ?_) (fun c1 => ?_); rotate_left) | (refine Ex.brn (fun c1 => ?_) (fun c1 => ?_); rotate_left)
  · rw [if_pos (fun q => c1 (ic1.mpr (q.1)))] at k
    (repeat (first | refine Ex.go rfl rfl ?_ | refine Ex.gf rfl rfl (by assumption) (by rfl) (by first | rfl | assumption) ?_))
    refine Ex.ret rfl rfl rfl ?_
    exact k
  have c1 := ic1.mp c1
  (repeat (first | refine Ex.go rfl rfl ?_ | refine Ex.gf rfl rfl (by assumption) (by rfl) (by first | rfl | assumption) ?_))
  refine Ex.ialN rfl (j := 3) rfl (by assumption) (by omega) (by omega) ?_
  (repeat (first | refine Ex.go rfl rfl ?_ | refine Ex.gf rfl rfl (by assumption) (by rfl) (by first | rfl | assumption) ?_))
  refine Ex.cv2 rfl rfl rfl (by assumption) (by rfl) (by decide) rfl ?_
  refine r_isDay h hI hv ?_
  (repeat (first | refine Ex.go rfl rfl ?_ | refine Ex.gf rfl rfl (by assumption) (by rfl) (by first | rfl | assumption) ?_))
  first | (refine Ex.brz (fun c4 => ?_) (fun c4 => ?_); rotate_left) | (refine Ex.brn (fun c4 => ?_) (fun c4 => ?_); rotate_left)
  · rw [if_pos (fun q => c4 (q.2))] at k
    (repeat (first | refine Ex.go rfl rfl ?_ | refine Ex.gf rfl rfl (by assumption) (by rfl) (by first | rfl | assumption) ?_))
    refine Ex.ret rfl rfl rfl ?_
    exact k
  rw [if_neg (fun z => z ⟨c1, c4⟩)] at k
  (repeat (first | refine Ex.go rfl rfl ?_ | refine Ex.gf rfl rfl (by assumption) (by rfl) (by first | rfl | assumption) ?_))
  refine Ex.cv0 rfl rfl rfl (by assumption) (by rfl) (by decide) rfl ?_
  refine r_full h hA ?_
  (repeat (first | refine Ex.go rfl rfl ?_ | refine Ex.gf rfl rfl (by assumption) (by rfl) (by first | rfl | assumption) ?_))
  refine Ex.ret rfl rfl rfl ?_
  exact k
theorem r_ofPart7 {v p : Nat} (h : RD G (rF E fx (tdy lg E) A P VS RU st sh shs w mn im tp rs) lg E (tdy lg E) VS pt vl pp va pa wa nn) (hI : RI lg E VS pt vl pp va pa wa) (hA : A = (acl lg E).length) (hv : v < VS) (hp : p < (psl lg E v).length) (e0 : nn 0 = nI v) (e1 : nn 1 = nI p) (k : Q (some (.int (rf7 lg E v p nn))) G) : Cx (d + 3) mX11_ofPart [.ref 364, .int 7] G Q := by
  have g0 := h.1.1
  have g8 := h.2.1.2.2.2.2.2.2.2
  unfold rf7 at k
  refine r_ofPartA h hI hv hp e0 e1 ?_
  (repeat (first | refine Ex.go rfl rfl ?_ | refine Ex.gf rfl rfl (by assumption) (by rfl) (by first | rfl | assumption) ?_))
  first | (refine Ex.brz (fun c0 => ?_) (fun c0 => ?_); rotate_left) | (refine Ex.brn (fun c0 => ?_) (fun c0 => ?_); rotate_left)
  · rw [if_pos c0] at k
    (repeat (first | refine Ex.go rfl rfl ?_ | refine Ex.gf rfl rfl (by assumption) (by rfl) (by first | rfl | assumption) ?_))
    refine Ex.ret rfl rfl rfl ?_
    exact k
  rw [if_neg (fun z => z c0)] at k
  (repeat (first | refine Ex.go rfl rfl ?_ | refine Ex.gf rfl rfl (by assumption) (by rfl) (by first | rfl | assumption) ?_))
  refine Ex.ialN rfl (j := 2) rfl (by assumption) (by omega) (by omega) ?_
  (repeat (first | refine Ex.go rfl rfl ?_ | refine Ex.gf rfl rfl (by assumption) (by rfl) (by first | rfl | assumption) ?_))
  refine Ex.cv3 rfl rfl rfl (by assumption) (by rfl) (by decide) rfl ?_
  refine r_many h ?_
  (repeat (first | refine Ex.go rfl rfl ?_ | refine Ex.gf rfl rfl (by assumption) (by rfl) (by first | rfl | assumption) ?_))
  refine Ex.cs3 rfl rfl rfl rfl rfl rfl ?_
  refine r_inP (lo := 0) (by decide +kernel) (l_of rfl) (fun Pc dc ic => ?_)
  (repeat (first | refine Ex.go rfl rfl ?_ | refine Ex.gf rfl rfl (by assumption) (by rfl) (by first | rfl | assumption) ?_))
  first | (refine Ex.brz (fun c1 => ?_) (fun c1 => ?_); rotate_left) | (refine Ex.brn (fun c1 => ?_) (fun c1 => ?_); rotate_left)
  · rw [if_pos (fun q => c1 (ic.mpr q.1))] at k
    (repeat (first | refine Ex.go rfl rfl ?_ | refine Ex.gf rfl rfl (by assumption) (by rfl) (by first | rfl | assumption) ?_))
    refine Ex.ret rfl rfl rfl ?_
    exact k
  (repeat (first | refine Ex.go rfl rfl ?_ | refine Ex.gf rfl rfl (by assumption) (by rfl) (by first | rfl | assumption) ?_))
  refine Ex.ialN rfl (j := 3) rfl (by assumption) (by omega) (by omega) ?_
  (repeat (first | refine Ex.go rfl rfl ?_ | refine Ex.gf rfl rfl (by assumption) (by rfl) (by first | rfl | assumption) ?_))
  refine Ex.cv2 rfl rfl rfl (by assumption) (by rfl) (by decide) rfl ?_
  refine r_isDay h hI hv ?_
  (repeat (first | refine Ex.go rfl rfl ?_ | refine Ex.gf rfl rfl (by assumption) (by rfl) (by first | rfl | assumption) ?_))
  first | (refine Ex.brz (fun c4 => ?_) (fun c4 => ?_); rotate_left) | (refine Ex.brn (fun c4 => ?_) (fun c4 => ?_); rotate_left)
  · rw [if_pos (fun q => c4 (q.2))] at k
    (repeat (first | refine Ex.go rfl rfl ?_ | refine Ex.gf rfl rfl (by assumption) (by rfl) (by first | rfl | assumption) ?_))
    refine Ex.ret rfl rfl rfl ?_
    exact k
  rw [if_neg (fun z => z ⟨ic.mp c1, c4⟩)] at k
  (repeat (first | refine Ex.go rfl rfl ?_ | refine Ex.gf rfl rfl (by assumption) (by rfl) (by first | rfl | assumption) ?_))
  refine Ex.cv0 rfl rfl rfl (by assumption) (by rfl) (by decide) rfl ?_
  refine r_full h hA ?_
  (repeat (first | refine Ex.go rfl rfl ?_ | refine Ex.gf rfl rfl (by assumption) (by rfl) (by first | rfl | assumption) ?_))
  refine Ex.ret rfl rfl rfl ?_
  exact k
theorem r_ofMeasure {v p : Nat} (h : RD G (rF E fx (tdy lg E) A P VS RU st sh shs w mn im tp rs) lg E (tdy lg E) VS pt vl pp va pa wa nn) (hI : RI lg E VS pt vl pp va pa wa) (hA : A = (acl lg E).length) (hv : v < VS) (k : Q (some (.int (rf4 lg E v p nn))) G) : Cx (d + 3) mX11_ofMeasure [.ref 364, .int (nI v), .int (nI p)] G Q := by
  have g0 := h.1.1
  have g8 := h.2.1.2.2.2.2.2.2.2
  unfold rf4 at k
  refine Cx.body rfl rfl ?_
  (repeat (first | refine Ex.go rfl rfl ?_ | refine Ex.gf rfl rfl (by assumption) (by rfl) (by first | rfl | assumption) ?_))
  refine Ex.ialN rfl (j := 2) rfl (by assumption) (by omega) (by omega) ?_
  (repeat (first | refine Ex.go rfl rfl ?_ | refine Ex.gf rfl rfl (by assumption) (by rfl) (by first | rfl | assumption) ?_))
  refine Ex.cv2 rfl rfl rfl (by assumption) (by rfl) (by decide) rfl ?_
  refine r_isDay h hI hv ?_
  (repeat (first | refine Ex.go rfl rfl ?_ | refine Ex.gf rfl rfl (by assumption) (by rfl) (by first | rfl | assumption) ?_))
  first | (refine Ex.brz (fun c4 => ?_) (fun c4 => ?_); rotate_left) | (refine Ex.brn (fun c4 => ?_) (fun c4 => ?_); rotate_left)
  · rw [if_pos (fun q => c4 (q))] at k
    (repeat (first | refine Ex.go rfl rfl ?_ | refine Ex.gf rfl rfl (by assumption) (by rfl) (by first | rfl | assumption) ?_))
    refine Ex.ret rfl rfl rfl ?_
    exact k
  rw [if_neg (fun z => z c4)] at k
  (repeat (first | refine Ex.go rfl rfl ?_ | refine Ex.gf rfl rfl (by assumption) (by rfl) (by first | rfl | assumption) ?_))
  refine Ex.cv3 rfl rfl rfl (by assumption) (by rfl) (by decide) rfl ?_
  refine r_spots h ?_
  have loop : ∀ (e i : Nat) (a : Int32), a = nI i → i + e = 12 → (∀ j, j < i → rng (nn (3 + j)) (-1) (if (j : Int) < (sho lg E (nI v) (nI p) 40000 2 1).toInt then 10000 else -1)) → Ex (d + 3) mX11_ofMeasure (29, [(0, .ref 364), (1, .int (nI v)), (2, .int (nI p)), (3, .int (sho lg E (nI v) (nI p) 40000 2 1)), (4, .int a)], [], G) Q := by
    intro e
    induction e with
    | zero =>
      intro i a ha hi hj
      subst ha
      rw [if_neg (fun z => z fun j hj2 => hj j (by omega))] at k
      (repeat (first | refine Ex.go rfl rfl ?_ | refine Ex.gf rfl rfl (by assumption) (by rfl) (by first | rfl | assumption) ?_))
      refine Ex.br (fun hc => ?_) (fun hc => ?_); rotate_left
      · exact absurd (nI_le (show 12 ≤ i by omega) (by omega)) hc
      (repeat (first | refine Ex.go rfl rfl ?_ | refine Ex.gf rfl rfl (by assumption) (by rfl) (by first | rfl | assumption) ?_))
      refine Ex.cv0 rfl rfl rfl (by assumption) (by rfl) (by decide) rfl ?_
      refine r_full h hA ?_
      (repeat (first | refine Ex.go rfl rfl ?_ | refine Ex.gf rfl rfl (by assumption) (by rfl) (by first | rfl | assumption) ?_))
      refine Ex.ret rfl rfl rfl ?_
      exact k
    | succ e ih =>
      intro i a ha hi hj
      subst ha
      have fin : ∀ B : Int64, B.toInt = (if (i : Int) < (sho lg E (nI v) (nI p) 40000 2 1).toInt then 10000 else -1) → Ex (d + 3) mX11_ofMeasure (64, [(0, .ref 364), (1, .int (nI v)), (2, .int (nI p)), (3, .int (sho lg E (nI v) (nI p) 40000 2 1)), (4, .int (nI i))], [.long B, .long (-1), .long (nn (3 + i)).toInt64], G) Q := by
        intro B hB
        refine Ex.cs3 rfl rfl rfl rfl rfl rfl ?_
        refine r_inP (lo := -1) (by decide +kernel) hB (fun Pc dc ic => ?_)
        (repeat (first | refine Ex.go rfl rfl ?_ | refine Ex.gf rfl rfl (by assumption) (by rfl) (by first | rfl | assumption) ?_))
        first | (refine Ex.brz (fun c1 => ?_) (fun c1 => ?_); rotate_left) | (refine Ex.brn (fun c1 => ?_) (fun c1 => ?_); rotate_left)
        · rw [if_pos (fun q => c1 (ic.mpr (q i (by omega))))] at k
          (repeat (first | refine Ex.go rfl rfl ?_ | refine Ex.gf rfl rfl (by assumption) (by rfl) (by first | rfl | assumption) ?_))
          refine Ex.ret rfl rfl rfl ?_
          exact k
        (repeat (first | exact ih (i + 1) _ (nI_1 i) (by omega) (fun j hj2 => if hji : j = i then by rw [hji]; exact ic.mp c1 else hj j (by omega)) | refine Ex.go rfl rfl ?_ | refine Ex.gf rfl rfl (by assumption) (by rfl) (by first | rfl | assumption) ?_))
      (repeat (first | refine Ex.go rfl rfl ?_ | refine Ex.gf rfl rfl (by assumption) (by rfl) (by first | rfl | assumption) ?_))
      refine Ex.br (fun hc => ?_) (fun hc => ?_)
      · have := (n_ge (a := i) (b := 12) (by omega) (by omega)).mp hc
        omega
      (repeat (first | refine Ex.go rfl rfl ?_ | refine Ex.gf rfl rfl (by assumption) (by rfl) (by first | rfl | assumption) ?_))
      refine Ex.ialN rfl (show nI 3 + nI i = nI (3 + i) by rw [nI_add]) (by assumption) (by omega) (by omega) ?_
      (repeat (first | refine Ex.go rfl rfl ?_ | refine Ex.gf rfl rfl (by assumption) (by rfl) (by first | rfl | assumption) ?_))
      refine Ex.br (fun h1 => ?_) (fun h1 => ?_)
      · have h2 := Int32.le_iff_toInt_le.mp h1
        rw [nI_toInt (by omega)] at h2
        (repeat (first | exact fin (-1) (by rw [if_neg (by omega)]; decide +kernel) | refine Ex.go rfl rfl ?_ | refine Ex.gf rfl rfl (by assumption) (by rfl) (by first | rfl | assumption) ?_))
      · have h2 : ¬ (sho lg E (nI v) (nI p) 40000 2 1).toInt ≤ (nI i).toInt := fun z => h1 (Int32.le_iff_toInt_le.mpr z)
        rw [nI_toInt (by omega)] at h2
        (repeat (first | exact fin 10000 (by rw [if_pos (by omega)]; decide +kernel) | refine Ex.go rfl rfl ?_ | refine Ex.gf rfl rfl (by assumption) (by rfl) (by first | rfl | assumption) ?_))
  (repeat (first | exact loop 12 0 _ rfl (by omega) (fun j hj => absurd hj (Nat.not_lt_zero _)) | refine Ex.go rfl rfl ?_ | refine Ex.gf rfl rfl (by assumption) (by rfl) (by first | rfl | assumption) ?_))
theorem r_ofPart4 {v p : Nat} (h : RD G (rF E fx (tdy lg E) A P VS RU st sh shs w mn im tp rs) lg E (tdy lg E) VS pt vl pp va pa wa nn) (hI : RI lg E VS pt vl pp va pa wa) (hA : A = (acl lg E).length) (hv : v < VS) (hp : p < (psl lg E v).length) (e0 : nn 0 = nI v) (e1 : nn 1 = nI p) (k : Q (some (.int (rf4 lg E v p nn))) G) : Cx (d + 4) mX11_ofPart [.ref 364, .int 4] G Q := by
  have g0 := h.1.1
  refine r_ofPartA h hI hv hp e0 e1 ?_
  (repeat (first | refine Ex.go rfl rfl ?_ | refine Ex.gf rfl rfl (by assumption) (by rfl) (by first | rfl | assumption) ?_))
  refine Ex.cv2 rfl rfl rfl (by assumption) (by rfl) (by decide) rfl ?_
  refine r_ofMeasure h hI hA hv ?_
  (repeat (first | refine Ex.go rfl rfl ?_ | refine Ex.gf rfl rfl (by assumption) (by rfl) (by first | rfl | assumption) ?_))
  refine Ex.ret rfl rfl rfl ?_
  exact k
theorem r_ofPart {v p c : Nat} (h : RD G (rF E fx (tdy lg E) A P VS RU st sh shs w mn im tp rs) lg E (tdy lg E) VS pt vl pp va pa wa nn) (hI : RI lg E VS pt vl pp va pa wa) (hA : A = (acl lg E).length) (hv : v < VS) (hp : p < (psl lg E v).length) (e0 : nn 0 = nI v) (e1 : nn 1 = nI p) (h3 : 3 ≤ c) (h7 : c ≤ 7) (k : Q (some (.int (rfP lg E v p c nn))) G) : Cx (d + 4) mX11_ofPart [.ref 364, .int (nI c)] G Q := by
  match c, h3, h7 with
  | 3, _, _ => exact r_ofPart3 h hI hA hv hp e0 e1 k
  | 4, _, _ => exact r_ofPart4 h hI hA hv hp e0 e1 k
  | 5, _, _ => exact r_ofPart5 h hI hA hv hp e0 e1 k
  | 6, _, _ => exact r_ofPart6 h hI hA hv hp e0 e1 k
  | 7, _, _ => exact r_ofPart7 h hI hA hv hp e0 e1 k
  | c + 8, _, h => exact absurd h (by omega)
end RR
