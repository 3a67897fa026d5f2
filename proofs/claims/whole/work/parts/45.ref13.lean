/-! The reference's answers: holds; bounds of what valves pass and tubes are. -/
theorem Ex.tsw {d : Nat} {m : bo_M} {pc nx tg kp : Nat} {lv : bo_LV} {r : List Value} {G : bo_G} {Q : Option Value → bo_G → Prop} {dd lo hi : Int} {offs : Array Int} {x : Int32} (n : Nat) (he : bo_cd m pc = some (.tableswitch dd lo hi offs, nx, tg, kp)) (hn : bo_tsw pc dd lo hi offs x.toInt = (n : Int)) (hl : (hi - lo).toNat < offs.toList.length) (k : Ex d m (n, lv, r, G) Q) : Ex d m (pc, lv, .int x :: r, G) Q := by
  refine Ex.go he ?_ k
  show (if 0 ≤ bo_tsw pc dd lo hi offs x.toInt ∧ ((hi - lo).toNat < offs.toList.length) then some ((bo_tsw pc dd lo hi offs x.toInt).toNat, lv, r, G) else none) = _
  rw [hn, if_pos ⟨by omega, hl⟩]
  rfl
theorem bo_tswD {pc : Nat} {dd lo hi x : Int} {offs : Array Int} (h : x < lo ∨ hi < x) : bo_tsw pc dd lo hi offs x = pc + dd := if_pos h
theorem sw6 (x : Int) : (x < 0 ∨ 5 < x) ∨ x = 0 ∨ x = 1 ∨ x = 2 ∨ x = 3 ∨ x = 4 ∨ x = 5 := by omega
def ownI (lg : Nat → Int32) (E v : Nat) (x y : Int32) : Int32 := match lof lg 10 (nI v) 5 x y none 0 E with
  | none => num lg (vat lg E v) 0
  | some i => num lg i 2
def hldN (lg : Nat → Int32) (E v : Nat) (w x y : Int32) : Int32 :=
  if w.toInt = 0 then setgs lg E v 0 x y (wsl lg E v).length else if w.toInt = 1 then setgs lg E v 1 x y (wsl lg E v).length else if w.toInt = 2 then pssd lg E v x y (wsl lg E v).length else if w.toInt = 3 then tubs lg E v 0 x y 25 0 0 else if w.toInt = 4 then tubs lg E v 1 x y 25 0 0 else if w.toInt = 5 then ownI lg E v x y else -1
def hldI (lg : Nat → Int32) (E : Nat) (v w x y : Int32) : Int32 := if askP lg E v x y then hldN lg E v.toNatClampNeg w x y else -1
section WB
variable {lg : Nat → Int32} {E v p : Nat} {x y : Int32}
theorem plg_rng (h : ∀ j, j < E → wfE lg j) {v p : Int32} : rng (plg lg E v p x y) 0 500 := by
  unfold plg
  cases hs : lof lg 7 v p x y none 0 E with
  | none => exact show rng 0 0 500 from ⟨by decide, by decide⟩
  | some i =>
    have h1 : i < E := lof_lt (B := E) (fun k hk => by cases hk) (by omega) hs
    rcases lat_P hs with h2 | h2
    · cases h2
    · obtain ⟨w, -, -, q, -, -, -, -, h3, -⟩ := wf_c7 (h i h1) h2.1.1
      have h4 := many_rng (lg := lg) (E := i) (y := 40000) (fun j hj => h j (by omega)) (v := nI w) (p := nI q)
      exact ⟨h3.1, Int.le_trans h3.2 h4.2⟩
theorem pssd_rng (h : ∀ j, j < E → wfE lg j) (h6 : (wsl lg E v).length ≤ 6) : ∀ w, w ≤ (wsl lg E v).length → 0 ≤ (pssd lg E v x y w).toInt ∧ (pssd lg E v x y w).toInt ≤ 100000 * w := by
  intro w
  induction w with
  | zero => intro _; exact show (0 : Int) ≤ 0 ∧ (0 : Int) ≤ 100000 * (0 : Nat) by omega
  | succ w ih =>
    intro hw
    have h1 := ih (by omega)
    obtain ⟨_, -, -, -, -, h2, -⟩ := wf_c8 (h _ (wat_lt (show w < (wsl lg E v).length by omega))) (wat_cod (show w < (wsl lg E v).length by omega)).1
    have h3 : (if stP lg x y (wat lg E v w) then num lg (wat lg E v w) 2 else 0).toInt = if stP lg x y (wat lg E v w) then (num lg (wat lg E v w) 2).toInt else 0 := by split <;> rfl
    have h4 : 0 ≤ (if stP lg x y (wat lg E v w) then (num lg (wat lg E v w) 2).toInt else 0) ∧ (if stP lg x y (wat lg E v w) then (num lg (wat lg E v w) 2).toInt else 0) ≤ 100000 := by
      split
      · exact ⟨by have := h2.1; omega, h2.2⟩
      · omega
    have h5 := z_add (x := pssd lg E v x y w) rfl h3 (by omega)
    show 0 ≤ (pssd lg E v x y w + _).toInt ∧ (pssd lg E v x y w + _).toInt ≤ _
    rw [h5]
    omega
theorem tubs_rng (h : ∀ j, j < E → wfE lg j) {b : Int32} : ∀ (e p : Nat) (a : Int32), p + e ≤ 25 → 0 ≤ a.toInt ∧ a.toInt ≤ 500 * p → 0 ≤ (tubs lg E v b x y e p a).toInt ∧ (tubs lg E v b x y e p a).toInt ≤ 12500 := by
  intro e
  induction e with
  | zero => intro p a hp ha; exact show 0 ≤ a.toInt ∧ a.toInt ≤ 12500 by omega
  | succ e ih =>
    intro p a hp ha
    unfold tubs
    split
    · refine ih (p + 1) _ (by omega) ?_
      split
      · have h1 := many_rng (y := y) h (v := nI v) (p := nI p)
        have h2 := plg_rng (x := x) (y := y) h (v := nI v) (p := nI p)
        have h3 : (if b = 0 then sho lg E (nI v) (nI p) y 4 1 else plg lg E (nI v) (nI p) x y).toInt = if b = 0 then (sho lg E (nI v) (nI p) y 4 1).toInt else (plg lg E (nI v) (nI p) x y).toInt := by split <;> rfl
        have h4 : 0 ≤ (if b = 0 then (sho lg E (nI v) (nI p) y 4 1).toInt else (plg lg E (nI v) (nI p) x y).toInt) ∧ (if b = 0 then (sho lg E (nI v) (nI p) y 4 1).toInt else (plg lg E (nI v) (nI p) x y).toInt) ≤ 500 := by
          split
          · exact ⟨by have := h1.1; omega, h1.2⟩
          · exact h2
        rw [z_add (x := a) rfl h3 (by omega)]
        omega
      · omega
    · omega
end WB
section RR
variable {d : Nat} {G : bo_G} {Q : Option Value → bo_G → Prop} {fs : List Value} {lg : Nat → Int32} {E : Nat} {td : Int32} {VS : Nat} {pt vl pp va pa wa nn : Nat → Int32}
theorem r_holds {v w x y : Int32} (h : RD G fs lg E td VS pt vl pp va pa wa nn) (hI : RI lg E VS pt vl pp va pa wa) (k : Q (some (.int (hldI lg E v w x y))) G) : Cx (d + 5) mX11_holds [.ref 364, .int v, .int w, .int x, .int y] G Q := by
  have g0 := h.1.1
  unfold hldI at k
  refine Cx.body rfl rfl ?_
  (repeat (first | refine Ex.go rfl rfl ?_ | refine Ex.gf rfl rfl (by assumption) (by rfl) (by first | rfl | assumption) ?_))
  refine Ex.cv3 rfl rfl rfl (by assumption) (by rfl) (by decide) rfl ?_
  refine r_isAsked h hI (fun P1 d1 i1 => ?_)
  (repeat (first | refine Ex.go rfl rfl ?_ | refine Ex.gf rfl rfl (by assumption) (by rfl) (by first | rfl | assumption) ?_))
  refine Ex.brn (fun c1 => ?_) (fun c1 => ?_); rotate_left
  · rw [if_neg (fun z => c1 (i1.mpr z))] at k
    (repeat (first | refine Ex.go rfl rfl ?_ | refine Ex.gf rfl rfl (by assumption) (by rfl) (by first | rfl | assumption) ?_))
    refine Ex.ret rfl rfl rfl ?_
    exact k
  have c2 := i1.mp c1
  rw [if_pos c2] at k
  obtain ⟨v', e1, e2, hv⟩ := ask_nat hI c2
  have hV := h.2.2.2
  have hE := h.2.2.1
  have hv2 := vat_lt (lg := lg) (E := E) (v := v') (by have := hI.hv; omega)
  rw [e2] at k
  subst e1
  unfold hldN at k
  (repeat (first | refine Ex.go rfl rfl ?_ | refine Ex.gf rfl rfl (by assumption) (by rfl) (by first | rfl | assumption) ?_))
  rcases sw6 w.toInt with hw | hw | hw | hw | hw | hw | hw
  · rw [if_neg (by omega), if_neg (by omega), if_neg (by omega), if_neg (by omega), if_neg (by omega), if_neg (by omega)] at k
    refine Ex.tsw 110 rfl (bo_tswD hw) (by decide) ?_
    (repeat (first | refine Ex.go rfl rfl ?_ | refine Ex.gf rfl rfl (by assumption) (by rfl) (by first | rfl | assumption) ?_))
    refine Ex.ret rfl rfl rfl ?_
    exact k
  · rw [if_pos hw] at k
    refine Ex.tsw 52 rfl (by rw [hw]; rfl) (by decide) ?_
    (repeat (first | refine Ex.go rfl rfl ?_ | refine Ex.gf rfl rfl (by assumption) (by rfl) (by first | rfl | assumption) ?_))
    refine Ex.cv4 rfl rfl rfl (by assumption) (by rfl) (by decide) rfl ?_
    refine r_settings (b := 0) h hI hv ?_
    (repeat (first | refine Ex.go rfl rfl ?_ | refine Ex.gf rfl rfl (by assumption) (by rfl) (by first | rfl | assumption) ?_))
    refine Ex.ret rfl rfl rfl ?_
    exact k
  · rw [if_neg (by omega), if_pos hw] at k
    refine Ex.tsw 62 rfl (by rw [hw]; rfl) (by decide) ?_
    (repeat (first | refine Ex.go rfl rfl ?_ | refine Ex.gf rfl rfl (by assumption) (by rfl) (by first | rfl | assumption) ?_))
    refine Ex.cv4 rfl rfl rfl (by assumption) (by rfl) (by decide) rfl ?_
    refine r_settings (b := 1) h hI hv ?_
    (repeat (first | refine Ex.go rfl rfl ?_ | refine Ex.gf rfl rfl (by assumption) (by rfl) (by first | rfl | assumption) ?_))
    refine Ex.ret rfl rfl rfl ?_
    exact k
  · rw [if_neg (by omega), if_neg (by omega), if_pos hw] at k
    refine Ex.tsw 72 rfl (by rw [hw]; rfl) (by decide) ?_
    (repeat (first | refine Ex.go rfl rfl ?_ | refine Ex.gf rfl rfl (by assumption) (by rfl) (by first | rfl | assumption) ?_))
    refine Ex.cv3 rfl rfl rfl (by assumption) (by rfl) (by decide) rfl ?_
    refine r_passed h hI hv ?_
    (repeat (first | refine Ex.go rfl rfl ?_ | refine Ex.gf rfl rfl (by assumption) (by rfl) (by first | rfl | assumption) ?_))
    refine Ex.ret rfl rfl rfl ?_
    exact k
  · rw [if_neg (by omega), if_neg (by omega), if_neg (by omega), if_pos hw] at k
    refine Ex.tsw 81 rfl (by rw [hw]; rfl) (by decide) ?_
    (repeat (first | refine Ex.go rfl rfl ?_ | refine Ex.gf rfl rfl (by assumption) (by rfl) (by first | rfl | assumption) ?_))
    refine Ex.cv4 rfl rfl rfl (by assumption) (by rfl) (by decide) rfl ?_
    refine r_tubes (b := 0) h hI hv ?_
    (repeat (first | refine Ex.go rfl rfl ?_ | refine Ex.gf rfl rfl (by assumption) (by rfl) (by first | rfl | assumption) ?_))
    refine Ex.ret rfl rfl rfl ?_
    exact k
  · rw [if_neg (by omega), if_neg (by omega), if_neg (by omega), if_neg (by omega), if_pos hw] at k
    refine Ex.tsw 91 rfl (by rw [hw]; rfl) (by decide) ?_
    (repeat (first | refine Ex.go rfl rfl ?_ | refine Ex.gf rfl rfl (by assumption) (by rfl) (by first | rfl | assumption) ?_))
    refine Ex.cv4 rfl rfl rfl (by assumption) (by rfl) (by decide) rfl ?_
    refine r_tubes (b := 1) h hI hv ?_
    (repeat (first | refine Ex.go rfl rfl ?_ | refine Ex.gf rfl rfl (by assumption) (by rfl) (by first | rfl | assumption) ?_))
    refine Ex.ret rfl rfl rfl ?_
    exact k
  · rw [if_neg (by omega), if_neg (by omega), if_neg (by omega), if_neg (by omega), if_neg (by omega), if_pos hw] at k
    refine Ex.tsw 101 rfl (by rw [hw]; rfl) (by decide) ?_
    (repeat (first | refine Ex.go rfl rfl ?_ | refine Ex.gf rfl rfl (by assumption) (by rfl) (by first | rfl | assumption) ?_))
    refine Ex.cv3 rfl rfl rfl (by assumption) (by rfl) (by decide) rfl ?_
    refine r_owner h (by omega) (hI.hva v' hv) (by omega) ?_
    (repeat (first | refine Ex.go rfl rfl ?_ | refine Ex.gf rfl rfl (by assumption) (by rfl) (by first | rfl | assumption) ?_))
    refine Ex.ret rfl rfl rfl ?_
    exact k
end RR
