/-! The reference's enter. -/
theorem Ex.iasN {d : Nat} {m : bo_M} {pc : Nat} {lv : bo_LV} {G : bo_G} {Q : Option Value → bo_G → Prop} {a nx tg kp n j : Nat} {i x : Int32} {f : Nat → Int32} {r : List Value} (he : bo_cd m pc = some (.iastore, nx, tg, kp)) (hj : i = nI j) (hG : G[a]? = some (cI n f)) (hi : j < n) (hn : n < 2 ^ 31) (k1 : Ex d m (nx, lv, r, G.set a (cI n (upd f j x))) Q) : Ex d m (pc, lv, .int x :: .int i :: .ref a :: r, G) Q := by
  subst hj
  have e : (nI j).toNatClampNeg = j := nI_clamp (by omega)
  refine Ex.ias he hG ⟨nI_pos' (by omega), by rw [e]; exact hi⟩ ?_
  rw [e]
  exact k1
theorem Ex.cs1 {d : Nat} {m y : bo_M} {pc : Nat} {lv : bo_LV} {G : bo_G} {Q : Option Value → bo_G → Prop} {k nx tg kp : Nat} {x1 : Value} {r : List Value} (he : bo_cd m pc = some (.invokestatic k, nx, tg, kp)) (h0 : bo_step m pc (.invokestatic k, nx, tg, kp) lv (x1 :: r) G = none) (h1 : bo_ret m (.invokestatic k) (x1 :: r) = none) (h2 : bo_nat m (.invokestatic k) (x1 :: r) = none) (h3 : bo_cal m (.invokestatic k) (x1 :: r) G = some (y, [x1], r)) (hc : bo_cat r = true) (k1 : Cx d y [x1] G (fun v G' => Ex (d + 1) m (nx, lv, v.toList ++ r, G') Q)) : Ex (d + 1) m (pc, lv, x1 :: r, G) Q := Ex.cs he h0 h1 h2 h3 hc k1
def numc (c : Nat) : Nat := nums (nI c)
theorem numc_le (c : Nat) : numc c ≤ 15 := nums_le _
theorem r_numbers {d c : Nat} {G : bo_G} {Q : Option Value → bo_G → Prop} (hc : c < 12) (k : Q (some (.int (nI (numc c)))) G) : Cx d mX11_numbers [.int (nI c)] G Q := by
  match c, hc with
  | 0, _ =>
    rw [show numc 0 = 1 by decide] at k
    refine Cx.body rfl rfl ?_
    (repeat (first | refine Ex.go rfl rfl ?_ | refine Ex.gf rfl rfl (by assumption) (by rfl) (by first | rfl | assumption) ?_))
    refine Ex.ret rfl rfl rfl ?_
    exact k
  | 1, _ =>
    rw [show numc 1 = 4 by decide] at k
    refine Cx.body rfl rfl ?_
    (repeat (first | refine Ex.go rfl rfl ?_ | refine Ex.gf rfl rfl (by assumption) (by rfl) (by first | rfl | assumption) ?_))
    refine Ex.ret rfl rfl rfl ?_
    exact k
  | 2, _ =>
    rw [show numc 2 = 6 by decide] at k
    refine Cx.body rfl rfl ?_
    (repeat (first | refine Ex.go rfl rfl ?_ | refine Ex.gf rfl rfl (by assumption) (by rfl) (by first | rfl | assumption) ?_))
    refine Ex.ret rfl rfl rfl ?_
    exact k
  | 3, _ =>
    rw [show numc 3 = 5 by decide] at k
    refine Cx.body rfl rfl ?_
    (repeat (first | refine Ex.go rfl rfl ?_ | refine Ex.gf rfl rfl (by assumption) (by rfl) (by first | rfl | assumption) ?_))
    refine Ex.ret rfl rfl rfl ?_
    exact k
  | 4, _ =>
    rw [show numc 4 = 15 by decide] at k
    refine Cx.body rfl rfl ?_
    (repeat (first | refine Ex.go rfl rfl ?_ | refine Ex.gf rfl rfl (by assumption) (by rfl) (by first | rfl | assumption) ?_))
    refine Ex.ret rfl rfl rfl ?_
    exact k
  | 5, _ =>
    rw [show numc 5 = 6 by decide] at k
    refine Cx.body rfl rfl ?_
    (repeat (first | refine Ex.go rfl rfl ?_ | refine Ex.gf rfl rfl (by assumption) (by rfl) (by first | rfl | assumption) ?_))
    refine Ex.ret rfl rfl rfl ?_
    exact k
  | 6, _ =>
    rw [show numc 6 = 4 by decide] at k
    refine Cx.body rfl rfl ?_
    (repeat (first | refine Ex.go rfl rfl ?_ | refine Ex.gf rfl rfl (by assumption) (by rfl) (by first | rfl | assumption) ?_))
    refine Ex.ret rfl rfl rfl ?_
    exact k
  | 7, _ =>
    rw [show numc 7 = 4 by decide] at k
    refine Cx.body rfl rfl ?_
    (repeat (first | refine Ex.go rfl rfl ?_ | refine Ex.gf rfl rfl (by assumption) (by rfl) (by first | rfl | assumption) ?_))
    refine Ex.ret rfl rfl rfl ?_
    exact k
  | 8, _ =>
    rw [show numc 8 = 4 by decide] at k
    refine Cx.body rfl rfl ?_
    (repeat (first | refine Ex.go rfl rfl ?_ | refine Ex.gf rfl rfl (by assumption) (by rfl) (by first | rfl | assumption) ?_))
    refine Ex.ret rfl rfl rfl ?_
    exact k
  | 9, _ =>
    rw [show numc 9 = 4 by decide] at k
    refine Cx.body rfl rfl ?_
    (repeat (first | refine Ex.go rfl rfl ?_ | refine Ex.gf rfl rfl (by assumption) (by rfl) (by first | rfl | assumption) ?_))
    refine Ex.ret rfl rfl rfl ?_
    exact k
  | 10, _ =>
    rw [show numc 10 = 5 by decide] at k
    refine Cx.body rfl rfl ?_
    (repeat (first | refine Ex.go rfl rfl ?_ | refine Ex.gf rfl rfl (by assumption) (by rfl) (by first | rfl | assumption) ?_))
    refine Ex.ret rfl rfl rfl ?_
    exact k
  | 11, _ =>
    rw [show numc 11 = 3 by decide] at k
    refine Cx.body rfl rfl ?_
    (repeat (first | refine Ex.go rfl rfl ?_ | refine Ex.gf rfl rfl (by assumption) (by rfl) (by first | rfl | assumption) ?_))
    refine Ex.ret rfl rfl rfl ?_
    exact k
  | c + 12, h => exact absurd h (by omega)
section RR
variable {d : Nat} {G : bo_G} {Q : Option Value → bo_G → Prop} {lg : Nat → Int32} {E fx A P RU : Nat} {td : Int32} {VS : Nat} {pt vl pp va pa wa nn : Nat → Int32} {st sh shs mn im tp rs : Int32} {w : Value × Value × Value × Value × Value} {fs : List Value}
theorem RD_log {f g : Nat → Int32} (h : RD (G.set 365 (cI 108000 g)) fs g E td VS pt vl pp va pa wa nn) : RD (G.set 365 (cI 108000 f)) fs f E td VS pt vl pp va pa wa nn := by
  obtain ⟨⟨g0, a0, a2, a4, a7, a9, a10, a11, a12, a13, a14, a16⟩, ⟨b0, b1, b2, b3, b4, b5, b6, b7⟩, hE, hV⟩ := h
  have q : ∀ {j : Nat} {c : bo_C}, j ≠ 365 → (G.set 365 (cI 108000 g))[j]? = some c → (G.set 365 (cI 108000 f))[j]? = some c := fun hj hc => by
    rw [List.getElem?_set_ne (fun z => hj z.symm)] at hc ⊢
    exact hc
  have hb : (G.set 365 (cI 108000 f))[365]? = some (cI 108000 f) := by
    have := (List.getElem?_eq_some_iff.mp b0).1
    rw [List.length_set] at this
    exact List.getElem?_set_self this
  exact ⟨⟨q (by omega) g0, a0, a2, a4, a7, a9, a10, a11, a12, a13, a14, a16⟩, ⟨hb, q (by omega) b1, q (by omega) b2, q (by omega) b3, q (by omega) b4, q (by omega) b5, q (by omega) b6, q (by omega) b7⟩, hE, hV⟩
theorem RD_log0 (h : RD G fs lg E td VS pt vl pp va pa wa nn) : G = G.set 365 (cI 108000 lg) := (set_self h.2.1.1).symm
theorem r_dayOf {c : Nat} {f : Nat → Int32} (h : RD G fs f E td VS pt vl pp va pa wa nn) (hf : lgE lg f E) (hI : RI lg E VS pt vl pp va pa wa) (hc : c < 12) (hv : c = 2 ∨ c = 3 → ∃ v, v < VS ∧ nn 0 = nI v) (k : Q (some (.int (dofI lg E c nn))) G) : Cx (d + 2) mX11_dayOf [.ref 364, .int (nI c)] G Q := by
  have g0 := h.1.1
  obtain ⟨⟨-, a0, a2, a4, a7, a9, a10, a11, a12, a13, a14, a16⟩, ⟨b0, b1, b2, b3, b4, b5, b6, b7⟩, hE, hV⟩ := id h
  have two : (c = 2 ∨ c = 3) → Q (some (.int (dyy lg (vat lg E (nn 0).toNatClampNeg)))) G → Ex (d + 2) mX11_dayOf (63, [(0, .ref 364), (1, .int (nI c))], [], G) Q := by
    intro h2 k
    obtain ⟨v, hv, e⟩ := hv h2
    have hv2 := vat_lt (lg := lg) (E := E) (v := v) (by have := hI.hv; omega)
    rw [e, nI_clamp (by omega)] at k
    (repeat (first | refine Ex.go rfl rfl ?_ | refine Ex.gf rfl rfl (by assumption) (by rfl) (by first | rfl | assumption) ?_))
    refine Ex.ialN rfl (j := 0) rfl (by assumption) (by omega) (by omega) ?_
    rw [e]
    (repeat (first | refine Ex.go rfl rfl ?_ | refine Ex.gf rfl rfl (by assumption) (by rfl) (by first | rfl | assumption) ?_))
    refine Ex.cv1 rfl rfl rfl (by assumption) (by rfl) (by decide) rfl ?_
    refine r_built h (by omega) (hI.hva v hv) (by omega) ?_
    rw [← lgE_dyy hf hv2] at k
    (repeat (first | refine Ex.go rfl rfl ?_ | refine Ex.gf rfl rfl (by assumption) (by rfl) (by first | rfl | assumption) ?_))
    refine Ex.ret rfl rfl rfl ?_
    exact k
  have four : ∀ j, j = 3 → Q (some (.int (nn j))) G → Ex (d + 2) mX11_dayOf (56, [(0, .ref 364), (1, .int (nI c))], [], G) Q := by
    intro j hj k
    subst hj
    (repeat (first | refine Ex.go rfl rfl ?_ | refine Ex.gf rfl rfl (by assumption) (by rfl) (by first | rfl | assumption) ?_))
    refine Ex.ialN rfl (j := 3) rfl (by assumption) (by omega) (by omega) ?_
    refine Ex.ret rfl rfl rfl ?_
    exact k
  refine Cx.body rfl rfl ?_
  match c, hc with
  | 0, _ =>
    (repeat (first | refine Ex.go rfl rfl ?_ | refine Ex.gf rfl rfl (by assumption) (by rfl) (by first | rfl | assumption) ?_))
    refine Ex.ret rfl rfl rfl ?_
    exact k
  | 1, _ =>
    (repeat (first | exact four 3 rfl k | refine Ex.go rfl rfl ?_ | refine Ex.gf rfl rfl (by assumption) (by rfl) (by first | rfl | assumption) ?_))
  | 2, _ =>
    (repeat (first | exact two (Or.inl rfl) k | refine Ex.go rfl rfl ?_ | refine Ex.gf rfl rfl (by assumption) (by rfl) (by first | rfl | assumption) ?_))
  | 3, _ =>
    (repeat (first | exact two (Or.inr rfl) k | refine Ex.go rfl rfl ?_ | refine Ex.gf rfl rfl (by assumption) (by rfl) (by first | rfl | assumption) ?_))
  | 4, _ =>
    (repeat (first | refine Ex.go rfl rfl ?_ | refine Ex.gf rfl rfl (by assumption) (by rfl) (by first | rfl | assumption) ?_))
    refine Ex.ialN rfl (j := 2) rfl (by assumption) (by omega) (by omega) ?_
    refine Ex.ret rfl rfl rfl ?_
    exact k
  | 5, _ =>
    (repeat (first | refine Ex.go rfl rfl ?_ | refine Ex.gf rfl rfl (by assumption) (by rfl) (by first | rfl | assumption) ?_))
    refine Ex.ialN rfl (j := 5) rfl (by assumption) (by omega) (by omega) ?_
    refine Ex.ret rfl rfl rfl ?_
    exact k
  | 6, _ =>
    (repeat (first | exact four 3 rfl k | refine Ex.go rfl rfl ?_ | refine Ex.gf rfl rfl (by assumption) (by rfl) (by first | rfl | assumption) ?_))
  | 7, _ =>
    (repeat (first | exact four 3 rfl k | refine Ex.go rfl rfl ?_ | refine Ex.gf rfl rfl (by assumption) (by rfl) (by first | rfl | assumption) ?_))
  | 8, _ =>
    (repeat (first | exact four 3 rfl k | refine Ex.go rfl rfl ?_ | refine Ex.gf rfl rfl (by assumption) (by rfl) (by first | rfl | assumption) ?_))
  | 9, _ =>
    (repeat (first | exact four 3 rfl k | refine Ex.go rfl rfl ?_ | refine Ex.gf rfl rfl (by assumption) (by rfl) (by first | rfl | assumption) ?_))
  | 10, _ =>
    (repeat (first | refine Ex.go rfl rfl ?_ | refine Ex.gf rfl rfl (by assumption) (by rfl) (by first | rfl | assumption) ?_))
    refine Ex.ialN rfl (j := 4) rfl (by assumption) (by omega) (by omega) ?_
    refine Ex.ret rfl rfl rfl ?_
    exact k
  | 11, _ =>
    (repeat (first | refine Ex.go rfl rfl ?_ | refine Ex.gf rfl rfl (by assumption) (by rfl) (by first | rfl | assumption) ?_))
    refine Ex.ret rfl rfl rfl ?_
    exact k
  | c + 12, h => exact absurd h (by omega)
theorem msd_le : ∀ n, msdN nn n ≤ n := by
  intro n
  induction n with
  | zero => exact Nat.le_refl 0
  | succ n ih => show msdN nn n + _ ≤ n + 1; split <;> omega
theorem r_measured (h : RD G fs lg E td VS pt vl pp va pa wa nn) (k : Q (some (.int (nI (msdN nn 12)))) G) : Cx d mX11_measured [.ref 364] G Q := by
  have g0 := h.1.1
  obtain ⟨⟨-, a0, a2, a4, a7, a9, a10, a11, a12, a13, a14, a16⟩, ⟨b0, b1, b2, b3, b4, b5, b6, b7⟩, hE, hV⟩ := id h
  refine Cx.body rfl rfl ?_
  have loop : ∀ (e i : Nat) (a b : Int32), a = nI i → b = nI (msdN nn i) → i + e = 12 → Ex d mX11_measured (4, [(0, .ref 364), (1, .int b), (2, .int a)], [], G) Q := by
    intro e
    induction e with
    | zero =>
      intro i a b ha hb hi
      have hi12 : i = 12 := by omega
      rw [← hi12] at k
      clear hi12
      subst ha hb
      (repeat (first | refine Ex.go rfl rfl ?_ | refine Ex.gf rfl rfl (by assumption) (by rfl) (by first | rfl | assumption) ?_))
      refine Ex.br (fun hc => ?_) (fun hc => ?_); rotate_left
      · exact absurd (nI_le (show 12 ≤ i by omega) (by omega)) hc
      (repeat (first | refine Ex.go rfl rfl ?_ | refine Ex.gf rfl rfl (by assumption) (by rfl) (by first | rfl | assumption) ?_))
      refine Ex.ret rfl rfl rfl ?_
      exact k
    | succ e ih =>
      intro i a b ha hb hi
      subst ha hb
      (repeat (first | refine Ex.go rfl rfl ?_ | refine Ex.gf rfl rfl (by assumption) (by rfl) (by first | rfl | assumption) ?_))
      refine Ex.br (fun hc => ?_) (fun hc => ?_)
      · have := (n_ge (a := i) (b := 12) (by omega) (by omega)).mp hc
        omega
      (repeat (first | refine Ex.go rfl rfl ?_ | refine Ex.gf rfl rfl (by assumption) (by rfl) (by first | rfl | assumption) ?_))
      refine Ex.ialN rfl (show nI 3 + nI i = nI (3 + i) by rw [nI_add]) (by assumption) (by omega) (by omega) ?_
      (repeat (first | refine Ex.go rfl rfl ?_ | refine Ex.gf rfl rfl (by assumption) (by rfl) (by first | rfl | assumption) ?_))
      refine Ex.br (fun h1 => ?_) (fun h1 => ?_)
      · have e1 : msdN nn (i + 1) = msdN nn i + 0 := by show msdN nn i + (if 0 ≤ nn (3 + i) then 1 else 0) = _; rw [if_neg (Int32.not_le.mpr h1)]
        (repeat (first | exact ih (i + 1) _ _ (nI_1 i) (by rw [e1, ← nI_add]; rfl) (by omega) | refine Ex.go rfl rfl ?_ | refine Ex.gf rfl rfl (by assumption) (by rfl) (by first | rfl | assumption) ?_))
      · have e1 : msdN nn (i + 1) = msdN nn i + 1 := by show msdN nn i + (if 0 ≤ nn (3 + i) then 1 else 0) = _; rw [if_pos (Int32.not_lt.mp h1)]
        (repeat (first | exact ih (i + 1) _ _ (nI_1 i) (by rw [e1, ← nI_add]; rfl) (by omega) | refine Ex.go rfl rfl ?_ | refine Ex.gf rfl rfl (by assumption) (by rfl) (by first | rfl | assumption) ?_))
  (repeat (first | exact loop 12 0 _ _ rfl rfl (by omega) | refine Ex.go rfl rfl ?_ | refine Ex.gf rfl rfl (by assumption) (by rfl) (by first | rfl | assumption) ?_))
/-- the log while an entry's numbers come -/
def lgM (lg : Nat → Int32) (E c : Nat) (t : Int32) (nn : Nat → Int32) (i : Nat) : Nat → Int32 := fun j => if j < 18 * E then lg j else if j = 18 * E then nI c else if j = 18 * E + 1 then t else if 18 * E + 3 ≤ j ∧ j < 18 * E + 3 + i then (if j - (18 * E + 3) < numc c then nn (j - (18 * E + 3)) else 0) else lg j
theorem lgM_0 {c : Nat} {t : Int32} : upd (upd lg (18 * E) (nI c)) (18 * E + 1) t = lgM lg E c t nn 0 := by
  funext j
  unfold lgM
  by_cases h1 : j < 18 * E
  · rw [if_pos h1, pk_un (by omega), pk_un (by omega)]
  · rw [if_neg h1]
    by_cases h2 : j = 18 * E
    · rw [if_pos h2, pk_un (by omega), h2, pk_us]
    · rw [if_neg h2]
      by_cases h3 : j = 18 * E + 1
      · rw [if_pos h3, h3, pk_us]
      · rw [if_neg h3, if_neg (by omega), pk_un h3, pk_un h2]
theorem lgM_s {c i : Nat} {t x : Int32} (hx : x = if i < numc c then nn i else 0) : upd (lgM lg E c t nn i) (18 * E + 3 + i) x = lgM lg E c t nn (i + 1) := by
  funext j
  by_cases h : j = 18 * E + 3 + i
  · rw [h, pk_us]
    unfold lgM
    rw [if_neg (by omega), if_neg (by omega), if_neg (by omega), if_pos (by omega), show 18 * E + 3 + i - (18 * E + 3) = i by omega]
    exact hx
  · rw [pk_un h]
    unfold lgM
    by_cases h1 : j < 18 * E
    · rw [if_pos h1, if_pos h1]
    · rw [if_neg h1, if_neg h1]
      by_cases h2 : j = 18 * E
      · rw [if_pos h2, if_pos h2]
      · rw [if_neg h2, if_neg h2]
        by_cases h3 : j = 18 * E + 1
        · rw [if_pos h3, if_pos h3]
        · rw [if_neg h3, if_neg h3]
          by_cases h4 : 18 * E + 3 ≤ j ∧ j < 18 * E + 3 + i
          · rw [if_pos h4, if_pos (show 18 * E + 3 ≤ j ∧ j < 18 * E + 3 + (i + 1) by omega)]
          · rw [if_neg h4, if_neg (show ¬ (18 * E + 3 ≤ j ∧ j < 18 * E + 3 + (i + 1)) by omega)]
theorem lgM_end {c : Nat} {t y : Int32} : upd (lgM lg E c t nn 15) (18 * E + 2) y = lgw lg E (nI c) t y nn := by
  funext j
  unfold lgw
  by_cases h : j = 18 * E + 2
  · rw [h, pk_us, if_neg (by omega), if_neg (by omega), if_neg (by omega), if_pos rfl]
  · rw [pk_un h]
    unfold lgM
    by_cases h1 : j < 18 * E
    · rw [if_pos h1, if_pos h1]
    · rw [if_neg h1, if_neg h1]
      by_cases h2 : j = 18 * E
      · rw [if_pos h2, if_pos h2]
      · rw [if_neg h2, if_neg h2]
        by_cases h3 : j = 18 * E + 1
        · rw [if_pos h3, if_pos h3]
        · rw [if_neg h3, if_neg h3, if_neg h]
          by_cases h4 : j < 18 * E + 18
          · rw [if_pos (show 18 * E + 3 ≤ j ∧ j < 18 * E + 3 + 15 by omega), if_pos h4]
            rfl
          · rw [if_neg (show ¬ (18 * E + 3 ≤ j ∧ j < 18 * E + 3 + 15) by omega), if_neg h4]
theorem lgM_lt {c i : Nat} {t : Int32} : lgE lg (lgM lg E c t nn i) E := fun _ hj => if_pos hj
/-- enter's first half: the log has the entry -/
theorem r_enterA {c : Nat} (h : RD G (rF E fx (tdy lg E) A P VS RU st sh shs w mn im tp rs) lg E (tdy lg E) VS pt vl pp va pa wa nn) (hI : RI lg E VS pt vl pp va pa wa) (hE6 : E < 6000) (hc : c < 12) (hv : c = 2 ∨ c = 3 → ∃ v, v < VS ∧ nn 0 = nI v) (k : ∀ G1, G1 = (G.set 365 (cI 108000 (lgN lg E c nn))).set 364 (cO 11 (rF (E + 1) fx (tdy lg E) (A + if c = 0 then 0 else 1) P VS RU st sh shs w mn im tp rs)) → RD G1 (rF (E + 1) fx (tdy lg E) (A + if c = 0 then 0 else 1) P VS RU st sh shs w mn im tp rs) (lgN lg E c nn) (E + 1) (tdy lg E) VS pt vl pp va pa wa nn → Ex (d + 3) mX11_enter (125, [(0, .ref 364), (1, .int (nI c)), (2, .int (nI (18 * E))), (3, .int (nn 0)), (4, .int (nI 15))], [], G1) Q) : Cx (d + 3) mX11_enter [.ref 364, .int (nI c)] G Q := by
  have eG := RD_log0 h
  have R0 : RD (G.set 365 (cI 108000 lg)) (rF E fx (tdy lg E) A P VS RU st sh shs w mn im tp rs) lg E (tdy lg E) VS pt vl pp va pa wa nn := by rw [← eG]; exact h
  have RM : ∀ f, RD (G.set 365 (cI 108000 f)) (rF E fx (tdy lg E) A P VS RU st sh shs w mn im tp rs) f E (tdy lg E) VS pt vl pp va pa wa nn := fun f => RD_log R0
  have g0 := h.1.1
  obtain ⟨-, ⟨b0, b1, b2, b3, b4, b5, b6, b7⟩, hE, hV⟩ := id h
  have el : ∀ j, nI 18 * nI E = nI (18 * E) ∧ nI (18 * E) + nI j = nI (18 * E + j) := fun j => ⟨pk_mul 18 E, nI_add _ _⟩
  have loop : ∀ (e i : Nat) (a : Int32), a = nI i → i + e = 15 → Ex (d + 3) mX11_enter (37, [(0, .ref 364), (1, .int (nI c)), (2, .int (nI (18 * E))), (3, .int (nn 0)), (4, .int a)], [], G.set 365 (cI 108000 (lgM lg E c (tdy lg E) nn i))) Q := by
    intro e
    induction e with
    | zero =>
      intro i a ha hi
      have hi15 : i = 15 := by omega
      subst ha
      have R1 := RM (lgM lg E c (tdy lg E) nn i)
      have q0 := R1.1.1
      obtain ⟨-, ⟨c0, c1, c2, c3, c4, c5, c6, c7⟩, -, -⟩ := id R1
      (repeat (first | refine Ex.go rfl rfl ?_ | refine Ex.gf rfl rfl (by assumption) (by rfl) (by first | rfl | assumption) ?_))
      refine Ex.ali rfl c7 ?_
      (repeat (first | refine Ex.go rfl rfl ?_ | refine Ex.gf rfl rfl (by assumption) (by rfl) (by first | rfl | assumption) ?_))
      refine Ex.br (fun h1 => ?_) (fun h1 => ?_); rotate_left
      · exact absurd (nI_le (show 15 ≤ i by omega) (by omega)) h1
      (repeat (first | refine Ex.go rfl rfl ?_ | refine Ex.gf rfl rfl (by assumption) (by rfl) (by first | rfl | assumption) ?_))
      refine Ex.cv1 rfl rfl rfl (by assumption) (by rfl) (by decide) rfl ?_
      refine r_dayOf R1 lgM_lt hI hc hv ?_
      (repeat (first | refine Ex.go rfl rfl ?_ | refine Ex.gf rfl rfl (by assumption) (by rfl) (by first | rfl | assumption) ?_))
      refine Ex.iasN rfl (el 2).2 c0 (by omega) (by omega) ?_
      rw [List.set_set, hi15, lgM_end]
      have R2 := RM (lgN lg E c nn)
      have q2 := R2.1.1
      have hL : 364 < (G.set 365 (cI 108000 (lgN lg E c nn))).length := (List.getElem?_eq_some_iff.mp q2).1
      have last : ∀ (b : Int32), b = nI (if c = 0 then 0 else 1) → Ex (d + 3) mX11_enter (121, [(0, .ref 364), (1, .int (nI c)), (2, .int (nI (18 * E))), (3, .int (nn 0)), (4, .int (nI 15))], [.int b, .int (nI A), .ref 364], (G.set 365 (cI 108000 (lgN lg E c nn))).set 364 (cO 11 (rF (E + 1) fx (tdy lg E) A P VS RU st sh shs w mn im tp rs))) Q := by
        intro b hb
        subst hb
        have q3 : ((G.set 365 (cI 108000 (lgN lg E c nn))).set 364 (cO 11 (rF (E + 1) fx (tdy lg E) A P VS RU st sh shs w mn im tp rs)))[364]? = some (cO 11 (rF (E + 1) fx (tdy lg E) A P VS RU st sh shs w mn im tp rs)) := List.getElem?_set_self hL
        have ea : nI A + nI (if c = 0 then 0 else 1) = nI (A + if c = 0 then 0 else 1) := nI_add _ _
        refine Ex.go rfl rfl ?_
        show Ex (d + 3) mX11_enter (122, [(0, .ref 364), (1, .int (nI c)), (2, .int (nI (18 * E))), (3, .int (nn 0)), (4, .int (nI 15))], [.int (nI A + nI (if c = 0 then 0 else 1)), .ref 364], (G.set 365 (cI 108000 (lgN lg E c nn))).set 364 (cO 11 (rF (E + 1) fx (tdy lg E) A P VS RU st sh shs w mn im tp rs))) Q
        rw [ea]
        refine Ex.pf rfl rfl (by assumption) (by rfl) (by rfl) (by rfl) ?_
        rw [List.set_set]
        refine k _ rfl ?_
        obtain ⟨⟨p0, a0, a2, a4, a7, a9, a10, a11, a12, a13, a14, a16⟩, ⟨p1, p2, p3, p4, p5, p6, p7, p8⟩, -, -⟩ := R2
        have q : ∀ {j : Nat} {x : bo_C}, j ≠ 364 → (G.set 365 (cI 108000 (lgN lg E c nn)))[j]? = some x → ((G.set 365 (cI 108000 (lgN lg E c nn))).set 364 (cO 11 (rF (E + 1) fx (tdy lg E) (A + if c = 0 then 0 else 1) P VS RU st sh shs w mn im tp rs)))[j]? = some x := fun hj hx => by
          rw [List.getElem?_set_ne (fun z => hj z.symm)]
          exact hx
        exact ⟨⟨List.getElem?_set_self hL, rfl, rfl, rfl, rfl, rfl, rfl, rfl, rfl, rfl, rfl, rfl⟩, ⟨q (by omega) p1, q (by omega) p2, q (by omega) p3, q (by omega) p4, q (by omega) p5, q (by omega) p6, q (by omega) p7, q (by omega) p8⟩, by omega, hV⟩
      have eE : nI E + 1 = nI (E + 1) := nI_1 E
      have hst : Ex (d + 3) mX11_enter (107, [(0, .ref 364), (1, .int (nI c)), (2, .int (nI (18 * E))), (3, .int (nn 0)), (4, .int (nI 15))], [], (G.set 365 (cI 108000 (lgN lg E c nn))).set 364 (cO 11 (rF (E + 1) fx (tdy lg E) A P VS RU st sh shs w mn im tp rs))) Q := by
        have q3 : ((G.set 365 (cI 108000 (lgN lg E c nn))).set 364 (cO 11 (rF (E + 1) fx (tdy lg E) A P VS RU st sh shs w mn im tp rs)))[364]? = some (cO 11 (rF (E + 1) fx (tdy lg E) A P VS RU st sh shs w mn im tp rs)) := List.getElem?_set_self hL
        (repeat (first | refine Ex.go rfl rfl ?_ | refine Ex.gf rfl rfl (by assumption) (by rfl) (by first | rfl | assumption) ?_))
        refine Ex.br (fun h2 => ?_) (fun h2 => ?_)
        · have h3 : ¬ c = 0 := fun z => h2 (by rw [z]; rfl)
          (repeat (first | exact last 1 (by rw [if_neg h3]; rfl) | refine Ex.go rfl rfl ?_ | refine Ex.gf rfl rfl (by assumption) (by rfl) (by first | rfl | assumption) ?_))
        · have h3 : c = 0 := (nI_eq (b := 0) (by omega) (by omega)).mp (Decidable.not_not.mp h2)
          (repeat (first | exact last 0 (by rw [if_pos h3]; rfl) | refine Ex.go rfl rfl ?_ | refine Ex.gf rfl rfl (by assumption) (by rfl) (by first | rfl | assumption) ?_))
      unfold rF at hst
      rw [← eE] at hst
      (repeat (first | refine Ex.go rfl rfl ?_ | refine Ex.gf rfl rfl (by assumption) (by rfl) (by first | rfl | assumption) ?_))
      refine Ex.pf rfl rfl (by assumption) (by rfl) (by rfl) (by rfl) ?_
      (repeat (first | exact hst | refine Ex.go rfl rfl ?_ | refine Ex.gf rfl rfl (by assumption) (by rfl) (by first | rfl | assumption) ?_))
    | succ e ih =>
      intro i a ha hi
      subst ha
      have R1 := RM (lgM lg E c (tdy lg E) nn i)
      have q0 := R1.1.1
      obtain ⟨-, ⟨c0, c1, c2, c3, c4, c5, c6, c7⟩, -, -⟩ := id R1
      have hn := numc_le c
      have store : ∀ x, x = (if i < numc c then nn i else 0) → Ex (d + 3) mX11_enter (77, [(0, .ref 364), (1, .int (nI c)), (2, .int (nI (18 * E))), (3, .int (nn 0)), (4, .int (nI i))], [.int x, .int (nI (18 * E + 3 + i)), .ref 365], G.set 365 (cI 108000 (lgM lg E c (tdy lg E) nn i))) Q := by
        intro x hx
        refine Ex.iasN rfl rfl c0 (by omega) (by omega) ?_
        rw [List.set_set, lgM_s hx]
        (repeat (first | exact ih (i + 1) _ (nI_1 i) (by omega) | refine Ex.go rfl rfl ?_ | refine Ex.gf rfl rfl (by assumption) (by rfl) (by first | rfl | assumption) ?_))
      have e3 : nI (18 * E) + nI 3 + nI i = nI (18 * E + 3 + i) := by rw [nI_add, nI_add]
      rw [← e3] at store
      (repeat (first | refine Ex.go rfl rfl ?_ | refine Ex.gf rfl rfl (by assumption) (by rfl) (by first | rfl | assumption) ?_))
      refine Ex.ali rfl c7 ?_
      (repeat (first | refine Ex.go rfl rfl ?_ | refine Ex.gf rfl rfl (by assumption) (by rfl) (by first | rfl | assumption) ?_))
      refine Ex.br (fun h1 => ?_) (fun h1 => ?_)
      · have := (n_ge (a := i) (b := 15) (by omega) (by omega)).mp h1
        omega
      (repeat (first | refine Ex.go rfl rfl ?_ | refine Ex.gf rfl rfl (by assumption) (by rfl) (by first | rfl | assumption) ?_))
      refine Ex.cs1 rfl rfl rfl rfl rfl rfl ?_
      refine r_numbers hc ?_
      (repeat (first | refine Ex.go rfl rfl ?_ | refine Ex.gf rfl rfl (by assumption) (by rfl) (by first | rfl | assumption) ?_))
      refine Ex.br (fun h2 => ?_) (fun h2 => ?_)
      · have h3 : ¬ i < numc c := by have := (n_ge (a := i) (b := numc c) (by omega) (by omega)).mp h2; omega
        (repeat (first | exact store 0 (if_neg h3).symm | refine Ex.go rfl rfl ?_ | refine Ex.gf rfl rfl (by assumption) (by rfl) (by first | rfl | assumption) ?_))
      · have h3 : i < numc c := by
          have : ¬ numc c ≤ i := fun z => h2 ((n_ge (a := i) (b := numc c) (by omega) (by omega)).mpr z)
          omega
        (repeat (first | refine Ex.go rfl rfl ?_ | refine Ex.gf rfl rfl (by assumption) (by rfl) (by first | rfl | assumption) ?_))
        refine Ex.ialN rfl (j := i) rfl c7 (by omega) (by omega) ?_
        (repeat (first | exact store (nn i) (if_pos h3).symm | refine Ex.go rfl rfl ?_ | refine Ex.gf rfl rfl (by assumption) (by rfl) (by first | rfl | assumption) ?_))
  refine Cx.body rfl rfl ?_
  (repeat (first | refine Ex.go rfl rfl ?_ | refine Ex.gf rfl rfl (by assumption) (by rfl) (by first | rfl | assumption) ?_))
  refine Ex.ialN rfl (j := 0) rfl (by assumption) (by omega) (by omega) ?_
  (repeat (first | refine Ex.go rfl rfl ?_ | refine Ex.gf rfl rfl (by assumption) (by rfl) (by first | rfl | assumption) ?_))
  refine Ex.iasN rfl (el 0).1 b0 (by omega) (by omega) ?_
  have q1 := (RM (upd lg (18 * E) (nI c))).1.1
  have q2 := (RM (upd lg (18 * E) (nI c))).2.1.1
  (repeat (first | refine Ex.go rfl rfl ?_ | refine Ex.gf rfl rfl (by assumption) (by rfl) (by first | rfl | assumption) ?_))
  refine Ex.iasN rfl (show nI 18 * nI E + nI 1 = nI (18 * E + 1) by rw [pk_mul, nI_add]) q2 (by omega) (by omega) ?_
  rw [List.set_set, lgM_0 (nn := nn)]
  have l0 := loop 15 0 _ rfl (by omega)
  rw [← (el 0).1] at l0
  (repeat (first | exact l0 | refine Ex.go rfl rfl ?_ | refine Ex.gf rfl rfl (by assumption) (by rfl) (by first | rfl | assumption) ?_))
end RR
