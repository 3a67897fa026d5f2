/-! The reference's calls that enter. -/
def n6 (a b c d e f : Int32) : Nat → Int32 := fun j => match j with
  | 0 => a
  | 1 => b
  | 2 => c
  | 3 => d
  | 4 => e
  | 5 => f
  | _ => 0
theorem n6_of {a b c d e f : Int32} {nn : Nat → Int32} {m : Nat} (hm : m ≤ 6) (h0 : nn 0 = a) (h1 : nn 1 = b) (h2 : nn 2 = c) (h3 : nn 3 = d) (h4 : nn 4 = e) (h5 : nn 5 = f) : ∀ k, k < m → nn k = n6 a b c d e f k := by
  intro k hk
  match k, hk with
  | 0, _ => exact h0
  | 1, _ => exact h1
  | 2, _ => exact h2
  | 3, _ => exact h3
  | 4, _ => exact h4
  | 5, _ => exact h5
  | k + 6, h => exact absurd h (by omega)
section RR
variable {d : Nat} {G : bo_G} {Q : Option Value → bo_G → Prop} {lg : Nat → Int32} {E fx c : Nat} {nn : Nat → Int32} {st sh shs mn im tp rs : Int32}
theorem RD_fs {fs fs' : List Value} {td td' : Int32} {VS : Nat} {pt vl pp va pa wa : Nat → Int32} (h : RD G fs lg E td VS pt vl pp va pa wa nn) (hf : ∀ i, (i = 0 ∨ i = 2 ∨ i = 7 ∨ i = 9 ∨ i = 10 ∨ i = 11 ∨ i = 12 ∨ i = 13 ∨ i = 14 ∨ i = 16) → fs'[i]? = fs[i]?) (ht : fs'[4]? = some (.int td')) : RD (G.set 364 (cO 11 fs')) fs' lg E td' VS pt vl pp va pa wa nn := by
  obtain ⟨⟨g0, a0, a2, a4, a7, a9, a10, a11, a12, a13, a14, a16⟩, ⟨b0, b1, b2, b3, b4, b5, b6, b7⟩, hE, hV⟩ := h
  have q : ∀ {j : Nat} {x : bo_C}, j ≠ 364 → G[j]? = some x → (G.set 364 (cO 11 fs'))[j]? = some x := fun hj hx => by
    rw [List.getElem?_set_ne (fun z => hj z.symm)]
    exact hx
  exact ⟨⟨get_set g0, (hf 0 (by omega)).trans a0, (hf 2 (by omega)).trans a2, ht, (hf 7 (by omega)).trans a7, (hf 9 (by omega)).trans a9, (hf 10 (by omega)).trans a10, (hf 11 (by omega)).trans a11, (hf 12 (by omega)).trans a12, (hf 13 (by omega)).trans a13, (hf 14 (by omega)).trans a14, (hf 16 (by omega)).trans a16⟩, ⟨q (by omega) b0, q (by omega) b1, q (by omega) b2, q (by omega) b3, q (by omega) b4, q (by omega) b5, q (by omega) b6, q (by omega) b7⟩, hE, hV⟩
theorem rF_al {E fx fx' A A' P P' VS RU RU' : Nat} {td td' : Int32} {st sh shs mn im tp rs st' sh' shs' mn' im' tp' rs' : Int32} {w w' : Value × Value × Value × Value × Value} : ∀ i, (i = 0 ∨ i = 2 ∨ i = 7 ∨ i = 9 ∨ i = 10 ∨ i = 11 ∨ i = 12 ∨ i = 13 ∨ i = 14 ∨ i = 16) → (rF E fx' td' A' P' VS RU' st' sh' shs' w' mn' im' tp' rs')[i]? = (rF E fx td A P VS RU st sh shs w mn im tp rs)[i]? := by
  intro i hi
  rcases hi with rfl | rfl | rfl | rfl | rfl | rfl | rfl | rfl | rfl | rfl <;> rfl
/-- fields of the object that are no counters -/
theorem RT_fs (h : RT G lg E fx st sh shs mn im tp rs nn) : ∃ w, G[364]? = some (cO 11 (rF E fx (tdy lg E) (acl lg E).length (osl lg E).length (vsl lg E).length (rsl lg E).length st sh shs w mn im tp rs)) ∧ ∀ w' st' sh' shs' mn' im' tp' rs' fx', RT (G.set 364 (cO 11 (rF E fx' (tdy lg E) (acl lg E).length (osl lg E).length (vsl lg E).length (rsl lg E).length st' sh' shs' w' mn' im' tp' rs'))) lg E fx' st' sh' shs' mn' im' tp' rs' nn := by
  obtain ⟨w, pt, vl, pp, va, pa, wa, h, hI⟩ := h
  exact ⟨w, h.1.1, fun w' st' sh' shs' mn' im' tp' rs' fx' => ⟨w', pt, vl, pp, va, pa, wa, RD_fs h rF_al rfl, hI⟩⟩
theorem r_call (h : RT G lg E fx st sh shs mn im tp rs nn) (hW : WF lg E) (hL : 378 ≤ G.length) (hc : c < 12) (k0 : rfs lg E c nn < 0 → ∀ G', RT G' lg E fx (rfs lg E c nn) sh shs mn im tp rs nn → FA G G' → Q (some (.int (rfs lg E c nn))) G') (k1 : rfs lg E c nn = 0 → ∀ G', RT G' (lgN lg E c nn) (E + 1) (if c = 0 then E + 1 else fx) 0 sh shs mn im tp rs nn → FA G G' → Q (some (.int (ansI lg E c nn))) G') : Cx (d + 7) mX11_call [.ref 364, .int (nI c)] G Q := by
  obtain ⟨w, q0, hf⟩ := RT_fs h
  have hl := rfs_le (lg := lg) (E := E) (nn := nn) c hc
  have hN := fun z => WF_N (nn := nn) hW hc z
  obtain ⟨w1, pt, vl, pp, va, pa, wa, R, hI⟩ := h
  refine Cx.body rfl rfl ?_
  (repeat (first | refine Ex.go rfl rfl ?_ | refine Ex.gf rfl rfl (by assumption) (by rfl) (by first | rfl | assumption) ?_))
  refine Ex.cv1 rfl rfl rfl (by assumption) (by rfl) (by decide) rfl ?_
  refine r_refusal R hI rfl rfl hc ?_
  generalize rfs lg E c nn = no at hl hN k0 k1
  (repeat (first | refine Ex.go rfl rfl ?_ | refine Ex.gf rfl rfl (by assumption) (by rfl) (by first | rfl | assumption) ?_))
  refine Ex.pf rfl rfl (by assumption) (by rfl) (by rfl) (by rfl) ?_
  have h2 := hf w no sh shs mn im tp rs fx
  have F2 : FA G (G.set 364 (cO 11 (rF E fx (tdy lg E) (acl lg E).length (osl lg E).length (vsl lg E).length (rsl lg E).length no sh shs w mn im tp rs))) := (FA.rfl' G).set (by omega)
  have q2 : (G.set 364 (cO 11 (rF E fx (tdy lg E) (acl lg E).length (osl lg E).length (vsl lg E).length (rsl lg E).length no sh shs w mn im tp rs)))[364]? = some (cO 11 (rF E fx (tdy lg E) (acl lg E).length (osl lg E).length (vsl lg E).length (rsl lg E).length no sh shs w mn im tp rs)) := get_set q0
  show Ex (d + 7) mX11_call (11, [(0, .ref 364), (1, .int (nI c)), (2, .int no)], [], G.set 364 (cO 11 (rF E fx (tdy lg E) (acl lg E).length (osl lg E).length (vsl lg E).length (rsl lg E).length no sh shs w mn im tp rs))) Q
  (repeat (first | refine Ex.go rfl rfl ?_ | refine Ex.gf rfl rfl (by assumption) (by rfl) (by first | rfl | assumption) ?_))
  refine Ex.br (fun h1 => ?_) (fun h1 => ?_)
  · have h3 : no = 0 := hl.elim id fun z => absurd h1 (Int32.not_le.mpr z)
    subst h3
    obtain ⟨hok, hE, -⟩ := hN rfl
    (repeat (first | refine Ex.go rfl rfl ?_ | refine Ex.gf rfl rfl (by assumption) (by rfl) (by first | rfl | assumption) ?_))
    refine Ex.cv1 rfl rfl rfl (by assumption) (by rfl) (by decide) rfl ?_
    refine r_enter h2 hW.1 (by rw [F2.1]; exact hL) hE hc hok (fun G3 R3 F3 => ?_)
    (repeat (first | refine Ex.go rfl rfl ?_ | refine Ex.gf rfl rfl (by assumption) (by rfl) (by first | rfl | assumption) ?_))
    refine Ex.ret rfl rfl rfl ?_
    exact k1 rfl G3 R3 (F2.trans F3)
  · have k0 := k0 (Int32.not_le.mp h1) _ h2 F2
    (repeat (first | refine Ex.go rfl rfl ?_ | refine Ex.gf rfl rfl (by assumption) (by rfl) (by first | rfl | assumption) ?_))
    refine Ex.ret rfl rfl rfl ?_
    exact k0
theorem r_give {a b c e f g : Int32} (h : RT G lg E fx st sh shs mn im tp rs nn) (hL : 378 ≤ G.length) (k : ∀ G' nn', RT G' lg E fx st sh shs mn im tp rs nn' → FA G G' → (∀ j, 6 ≤ j → nn' j = nn j) → nn' 0 = a → nn' 1 = b → nn' 2 = c → nn' 3 = e → nn' 4 = f → nn' 5 = g → Q none G') : Cx d mX11_give [.ref 364, .int a, .int b, .int c, .int e, .int f, .int g] G Q := by
  obtain ⟨w, pt, vl, pp, va, pa, wa, R, hI⟩ := h
  have R' := R
  obtain ⟨⟨q0, -⟩, ⟨b0, b1, b2, b3, b4, b5, b6, b7⟩, hE, hV⟩ := R
  have OG : ∀ L : List (Nat × bo_C), 364 ∉ L.map Prod.fst → (ov G L)[364]? = G[364]? := fun L h => ov_ne h
  have hA : ap ([(373, cI 15 nn)].map Prod.fst) G.length := apG (as := [373]) (by decide) (by decide) hL
  refine Cx.body rfl rfl ?_
  refine Ex.lay [(373, cI 15 nn)] (lay1 b7) ?_
  refine Ex.go rfl rfl ?_
  refine Ex.gf rfl rfl ((OG _ (by simp)).trans q0) (by rfl) (by rfl) ?_
  (repeat (first | refine Ex.go rfl rfl ?_ | refine Ex.gf rfl rfl (ov_get hA 0 rfl) (by rfl) (by rfl) ?_ | refine Ex.gf rfl rfl (ov_get hA 1 rfl) (by rfl) (by rfl) ?_ | refine Ex.gf rfl rfl (ov_get hA 2 rfl) (by rfl) (by rfl) ?_ | refine Ex.gf rfl rfl (ov_get hA 3 rfl) (by rfl) (by rfl) ?_ | refine Ex.gf rfl rfl (ov_get hA 4 rfl) (by rfl) (by rfl) ?_ | refine Ex.gf rfl rfl (ov_get hA 5 rfl) (by rfl) (by rfl) ?_ | refine Ex.gf rfl rfl (ov_get hA 6 rfl) (by rfl) (by rfl) ?_ | (refine Ex.pfo hA 0 rfl rfl rfl (by rfl) (by rfl) (by rfl) ?_; dsimp only [List.set]) | (refine Ex.pfo hA 1 rfl rfl rfl (by rfl) (by rfl) (by rfl) ?_; dsimp only [List.set]) | (refine Ex.pfo hA 2 rfl rfl rfl (by rfl) (by rfl) (by rfl) ?_; dsimp only [List.set]) | (refine Ex.pfo hA 3 rfl rfl rfl (by rfl) (by rfl) (by rfl) ?_; dsimp only [List.set]) | (refine Ex.pfo hA 4 rfl rfl rfl (by rfl) (by rfl) (by rfl) ?_; dsimp only [List.set]) | (refine Ex.pfo hA 5 rfl rfl rfl (by rfl) (by rfl) (by rfl) ?_; dsimp only [List.set]) | (refine Ex.pfo hA 6 rfl rfl rfl (by rfl) (by rfl) (by rfl) ?_; dsimp only [List.set])))
  refine Ex.iaso hA 0 rfl (j := 0) rfl rfl (by omega) (by omega) ?_
  dsimp only [List.set]
  refine Ex.go rfl rfl ?_
  refine Ex.gf rfl rfl ((OG _ (by simp)).trans q0) (by rfl) (by rfl) ?_
  (repeat (first | refine Ex.go rfl rfl ?_ | refine Ex.gf rfl rfl (ov_get hA 0 rfl) (by rfl) (by rfl) ?_ | refine Ex.gf rfl rfl (ov_get hA 1 rfl) (by rfl) (by rfl) ?_ | refine Ex.gf rfl rfl (ov_get hA 2 rfl) (by rfl) (by rfl) ?_ | refine Ex.gf rfl rfl (ov_get hA 3 rfl) (by rfl) (by rfl) ?_ | refine Ex.gf rfl rfl (ov_get hA 4 rfl) (by rfl) (by rfl) ?_ | refine Ex.gf rfl rfl (ov_get hA 5 rfl) (by rfl) (by rfl) ?_ | refine Ex.gf rfl rfl (ov_get hA 6 rfl) (by rfl) (by rfl) ?_ | (refine Ex.pfo hA 0 rfl rfl rfl (by rfl) (by rfl) (by rfl) ?_; dsimp only [List.set]) | (refine Ex.pfo hA 1 rfl rfl rfl (by rfl) (by rfl) (by rfl) ?_; dsimp only [List.set]) | (refine Ex.pfo hA 2 rfl rfl rfl (by rfl) (by rfl) (by rfl) ?_; dsimp only [List.set]) | (refine Ex.pfo hA 3 rfl rfl rfl (by rfl) (by rfl) (by rfl) ?_; dsimp only [List.set]) | (refine Ex.pfo hA 4 rfl rfl rfl (by rfl) (by rfl) (by rfl) ?_; dsimp only [List.set]) | (refine Ex.pfo hA 5 rfl rfl rfl (by rfl) (by rfl) (by rfl) ?_; dsimp only [List.set]) | (refine Ex.pfo hA 6 rfl rfl rfl (by rfl) (by rfl) (by rfl) ?_; dsimp only [List.set])))
  refine Ex.iaso hA 0 rfl (j := 1) rfl rfl (by omega) (by omega) ?_
  dsimp only [List.set]
  refine Ex.go rfl rfl ?_
  refine Ex.gf rfl rfl ((OG _ (by simp)).trans q0) (by rfl) (by rfl) ?_
  (repeat (first | refine Ex.go rfl rfl ?_ | refine Ex.gf rfl rfl (ov_get hA 0 rfl) (by rfl) (by rfl) ?_ | refine Ex.gf rfl rfl (ov_get hA 1 rfl) (by rfl) (by rfl) ?_ | refine Ex.gf rfl rfl (ov_get hA 2 rfl) (by rfl) (by rfl) ?_ | refine Ex.gf rfl rfl (ov_get hA 3 rfl) (by rfl) (by rfl) ?_ | refine Ex.gf rfl rfl (ov_get hA 4 rfl) (by rfl) (by rfl) ?_ | refine Ex.gf rfl rfl (ov_get hA 5 rfl) (by rfl) (by rfl) ?_ | refine Ex.gf rfl rfl (ov_get hA 6 rfl) (by rfl) (by rfl) ?_ | (refine Ex.pfo hA 0 rfl rfl rfl (by rfl) (by rfl) (by rfl) ?_; dsimp only [List.set]) | (refine Ex.pfo hA 1 rfl rfl rfl (by rfl) (by rfl) (by rfl) ?_; dsimp only [List.set]) | (refine Ex.pfo hA 2 rfl rfl rfl (by rfl) (by rfl) (by rfl) ?_; dsimp only [List.set]) | (refine Ex.pfo hA 3 rfl rfl rfl (by rfl) (by rfl) (by rfl) ?_; dsimp only [List.set]) | (refine Ex.pfo hA 4 rfl rfl rfl (by rfl) (by rfl) (by rfl) ?_; dsimp only [List.set]) | (refine Ex.pfo hA 5 rfl rfl rfl (by rfl) (by rfl) (by rfl) ?_; dsimp only [List.set]) | (refine Ex.pfo hA 6 rfl rfl rfl (by rfl) (by rfl) (by rfl) ?_; dsimp only [List.set])))
  refine Ex.iaso hA 0 rfl (j := 2) rfl rfl (by omega) (by omega) ?_
  dsimp only [List.set]
  refine Ex.go rfl rfl ?_
  refine Ex.gf rfl rfl ((OG _ (by simp)).trans q0) (by rfl) (by rfl) ?_
  (repeat (first | refine Ex.go rfl rfl ?_ | refine Ex.gf rfl rfl (ov_get hA 0 rfl) (by rfl) (by rfl) ?_ | refine Ex.gf rfl rfl (ov_get hA 1 rfl) (by rfl) (by rfl) ?_ | refine Ex.gf rfl rfl (ov_get hA 2 rfl) (by rfl) (by rfl) ?_ | refine Ex.gf rfl rfl (ov_get hA 3 rfl) (by rfl) (by rfl) ?_ | refine Ex.gf rfl rfl (ov_get hA 4 rfl) (by rfl) (by rfl) ?_ | refine Ex.gf rfl rfl (ov_get hA 5 rfl) (by rfl) (by rfl) ?_ | refine Ex.gf rfl rfl (ov_get hA 6 rfl) (by rfl) (by rfl) ?_ | (refine Ex.pfo hA 0 rfl rfl rfl (by rfl) (by rfl) (by rfl) ?_; dsimp only [List.set]) | (refine Ex.pfo hA 1 rfl rfl rfl (by rfl) (by rfl) (by rfl) ?_; dsimp only [List.set]) | (refine Ex.pfo hA 2 rfl rfl rfl (by rfl) (by rfl) (by rfl) ?_; dsimp only [List.set]) | (refine Ex.pfo hA 3 rfl rfl rfl (by rfl) (by rfl) (by rfl) ?_; dsimp only [List.set]) | (refine Ex.pfo hA 4 rfl rfl rfl (by rfl) (by rfl) (by rfl) ?_; dsimp only [List.set]) | (refine Ex.pfo hA 5 rfl rfl rfl (by rfl) (by rfl) (by rfl) ?_; dsimp only [List.set]) | (refine Ex.pfo hA 6 rfl rfl rfl (by rfl) (by rfl) (by rfl) ?_; dsimp only [List.set])))
  refine Ex.iaso hA 0 rfl (j := 3) rfl rfl (by omega) (by omega) ?_
  dsimp only [List.set]
  refine Ex.go rfl rfl ?_
  refine Ex.gf rfl rfl ((OG _ (by simp)).trans q0) (by rfl) (by rfl) ?_
  (repeat (first | refine Ex.go rfl rfl ?_ | refine Ex.gf rfl rfl (ov_get hA 0 rfl) (by rfl) (by rfl) ?_ | refine Ex.gf rfl rfl (ov_get hA 1 rfl) (by rfl) (by rfl) ?_ | refine Ex.gf rfl rfl (ov_get hA 2 rfl) (by rfl) (by rfl) ?_ | refine Ex.gf rfl rfl (ov_get hA 3 rfl) (by rfl) (by rfl) ?_ | refine Ex.gf rfl rfl (ov_get hA 4 rfl) (by rfl) (by rfl) ?_ | refine Ex.gf rfl rfl (ov_get hA 5 rfl) (by rfl) (by rfl) ?_ | refine Ex.gf rfl rfl (ov_get hA 6 rfl) (by rfl) (by rfl) ?_ | (refine Ex.pfo hA 0 rfl rfl rfl (by rfl) (by rfl) (by rfl) ?_; dsimp only [List.set]) | (refine Ex.pfo hA 1 rfl rfl rfl (by rfl) (by rfl) (by rfl) ?_; dsimp only [List.set]) | (refine Ex.pfo hA 2 rfl rfl rfl (by rfl) (by rfl) (by rfl) ?_; dsimp only [List.set]) | (refine Ex.pfo hA 3 rfl rfl rfl (by rfl) (by rfl) (by rfl) ?_; dsimp only [List.set]) | (refine Ex.pfo hA 4 rfl rfl rfl (by rfl) (by rfl) (by rfl) ?_; dsimp only [List.set]) | (refine Ex.pfo hA 5 rfl rfl rfl (by rfl) (by rfl) (by rfl) ?_; dsimp only [List.set]) | (refine Ex.pfo hA 6 rfl rfl rfl (by rfl) (by rfl) (by rfl) ?_; dsimp only [List.set])))
  refine Ex.iaso hA 0 rfl (j := 4) rfl rfl (by omega) (by omega) ?_
  dsimp only [List.set]
  refine Ex.go rfl rfl ?_
  refine Ex.gf rfl rfl ((OG _ (by simp)).trans q0) (by rfl) (by rfl) ?_
  (repeat (first | refine Ex.go rfl rfl ?_ | refine Ex.gf rfl rfl (ov_get hA 0 rfl) (by rfl) (by rfl) ?_ | refine Ex.gf rfl rfl (ov_get hA 1 rfl) (by rfl) (by rfl) ?_ | refine Ex.gf rfl rfl (ov_get hA 2 rfl) (by rfl) (by rfl) ?_ | refine Ex.gf rfl rfl (ov_get hA 3 rfl) (by rfl) (by rfl) ?_ | refine Ex.gf rfl rfl (ov_get hA 4 rfl) (by rfl) (by rfl) ?_ | refine Ex.gf rfl rfl (ov_get hA 5 rfl) (by rfl) (by rfl) ?_ | refine Ex.gf rfl rfl (ov_get hA 6 rfl) (by rfl) (by rfl) ?_ | (refine Ex.pfo hA 0 rfl rfl rfl (by rfl) (by rfl) (by rfl) ?_; dsimp only [List.set]) | (refine Ex.pfo hA 1 rfl rfl rfl (by rfl) (by rfl) (by rfl) ?_; dsimp only [List.set]) | (refine Ex.pfo hA 2 rfl rfl rfl (by rfl) (by rfl) (by rfl) ?_; dsimp only [List.set]) | (refine Ex.pfo hA 3 rfl rfl rfl (by rfl) (by rfl) (by rfl) ?_; dsimp only [List.set]) | (refine Ex.pfo hA 4 rfl rfl rfl (by rfl) (by rfl) (by rfl) ?_; dsimp only [List.set]) | (refine Ex.pfo hA 5 rfl rfl rfl (by rfl) (by rfl) (by rfl) ?_; dsimp only [List.set]) | (refine Ex.pfo hA 6 rfl rfl rfl (by rfl) (by rfl) (by rfl) ?_; dsimp only [List.set])))
  refine Ex.iaso hA 0 rfl (j := 5) rfl rfl (by omega) (by omega) ?_
  dsimp only [List.set]
  (repeat (first | refine Ex.go rfl rfl ?_ | refine Ex.gf rfl rfl (ov_get hA 0 rfl) (by rfl) (by rfl) ?_ | refine Ex.gf rfl rfl (ov_get hA 1 rfl) (by rfl) (by rfl) ?_ | refine Ex.gf rfl rfl (ov_get hA 2 rfl) (by rfl) (by rfl) ?_ | refine Ex.gf rfl rfl (ov_get hA 3 rfl) (by rfl) (by rfl) ?_ | refine Ex.gf rfl rfl (ov_get hA 4 rfl) (by rfl) (by rfl) ?_ | refine Ex.gf rfl rfl (ov_get hA 5 rfl) (by rfl) (by rfl) ?_ | refine Ex.gf rfl rfl (ov_get hA 6 rfl) (by rfl) (by rfl) ?_ | (refine Ex.pfo hA 0 rfl rfl rfl (by rfl) (by rfl) (by rfl) ?_; dsimp only [List.set]) | (refine Ex.pfo hA 1 rfl rfl rfl (by rfl) (by rfl) (by rfl) ?_; dsimp only [List.set]) | (refine Ex.pfo hA 2 rfl rfl rfl (by rfl) (by rfl) (by rfl) ?_; dsimp only [List.set]) | (refine Ex.pfo hA 3 rfl rfl rfl (by rfl) (by rfl) (by rfl) ?_; dsimp only [List.set]) | (refine Ex.pfo hA 4 rfl rfl rfl (by rfl) (by rfl) (by rfl) ?_; dsimp only [List.set]) | (refine Ex.pfo hA 5 rfl rfl rfl (by rfl) (by rfl) (by rfl) ?_; dsimp only [List.set]) | (refine Ex.pfo hA 6 rfl rfl rfl (by rfl) (by rfl) (by rfl) ?_; dsimp only [List.set])))
  refine Ex.ret rfl rfl rfl ?_
  refine k _ (upd (upd (upd (upd (upd (upd nn 0 a) 1 b) 2 c) 3 e) 4 f) 5 g) ⟨w, pt, vl, pp, va, pa, wa, ?_, hI⟩ (FA.ov (FA.rfl' G) (by simp)) (fun j hj => ?_) rfl rfl rfl rfl rfl rfl
  · refine ⟨⟨(by first | exact ov_get hA 0 rfl | exact ov_get hA 1 rfl | exact ov_get hA 2 rfl | exact ov_get hA 3 rfl | exact ov_get hA 4 rfl | (rw [ov_ne (by simp)]; assumption)), rfl, rfl, rfl, rfl, rfl, rfl, rfl, rfl, rfl, rfl, rfl⟩, ⟨(by first | exact ov_get hA 0 rfl | exact ov_get hA 1 rfl | exact ov_get hA 2 rfl | exact ov_get hA 3 rfl | exact ov_get hA 4 rfl | (rw [ov_ne (by simp)]; assumption)), (by first | exact ov_get hA 0 rfl | exact ov_get hA 1 rfl | exact ov_get hA 2 rfl | exact ov_get hA 3 rfl | exact ov_get hA 4 rfl | (rw [ov_ne (by simp)]; assumption)), (by first | exact ov_get hA 0 rfl | exact ov_get hA 1 rfl | exact ov_get hA 2 rfl | exact ov_get hA 3 rfl | exact ov_get hA 4 rfl | (rw [ov_ne (by simp)]; assumption)), (by first | exact ov_get hA 0 rfl | exact ov_get hA 1 rfl | exact ov_get hA 2 rfl | exact ov_get hA 3 rfl | exact ov_get hA 4 rfl | (rw [ov_ne (by simp)]; assumption)), (by first | exact ov_get hA 0 rfl | exact ov_get hA 1 rfl | exact ov_get hA 2 rfl | exact ov_get hA 3 rfl | exact ov_get hA 4 rfl | (rw [ov_ne (by simp)]; assumption)), (by first | exact ov_get hA 0 rfl | exact ov_get hA 1 rfl | exact ov_get hA 2 rfl | exact ov_get hA 3 rfl | exact ov_get hA 4 rfl | (rw [ov_ne (by simp)]; assumption)), (by first | exact ov_get hA 0 rfl | exact ov_get hA 1 rfl | exact ov_get hA 2 rfl | exact ov_get hA 3 rfl | exact ov_get hA 4 rfl | (rw [ov_ne (by simp)]; assumption)), (by first | exact ov_get hA 0 rfl | exact ov_get hA 1 rfl | exact ov_get hA 2 rfl | exact ov_get hA 3 rfl | exact ov_get hA 4 rfl | (rw [ov_ne (by simp)]; assumption))⟩, hE, hV⟩
  · rw [pk_un (by omega), pk_un (by omega), pk_un (by omega), pk_un (by omega), pk_un (by omega), pk_un (by omega)]
theorem r_vessel {a b c e : Int32} (h : ∃ nn, RT G lg E fx st sh shs mn im tp rs nn) (hW : WF lg E) (hL : 378 ≤ G.length) (k0 : rfs lg E 1 (n6 a b c e 0 0) < 0 → ∀ G' nn', RT G' lg E fx (rfs lg E 1 (n6 a b c e 0 0)) sh shs mn im tp rs nn' → FA G G' → Q (some (.int (rfs lg E 1 (n6 a b c e 0 0)))) G') (k1 : rfs lg E 1 (n6 a b c e 0 0) = 0 → ∀ G' nn', RT G' (lgN lg E 1 (n6 a b c e 0 0)) (E + 1) fx 0 sh shs mn im tp rs nn' → FA G G' → Q (some (.int (ansI lg E 1 (n6 a b c e 0 0)))) G') : Cx (d + 8) mX11_vessel [.ref 364, .int a, .int b, .int c, .int e] G Q := by
  obtain ⟨nn, h⟩ := h
  have q0 := h.choose_spec.choose_spec.choose_spec.choose_spec.choose_spec.choose_spec.choose_spec.1.1.1
  refine Cx.body rfl rfl ?_
  (repeat (first | refine Ex.go rfl rfl ?_ | refine Ex.gf rfl rfl (by assumption) (by rfl) (by first | rfl | assumption) ?_))
  refine Ex.cv6 rfl rfl rfl (by assumption) (by rfl) (by decide) rfl ?_
  refine r_give h hL (fun G1 nn' R1 F1 _ e0 e1 e2 e3 e4 e5 => ?_)
  have q1 := R1.choose_spec.choose_spec.choose_spec.choose_spec.choose_spec.choose_spec.choose_spec.1.1.1
  have en := n6_of (show numc 1 ≤ 6 by decide) e0 e1 e2 e3 e4 e5
  (repeat (first | refine Ex.go rfl rfl ?_ | refine Ex.gf rfl rfl (by assumption) (by rfl) (by first | rfl | assumption) ?_))
  refine Ex.cv1 rfl rfl rfl q1 (by rfl) (by decide) rfl ?_
  refine r_call (c := 1) R1 hW (by rw [F1.1]; exact hL) (by omega) (fun z G2 R2 F2 => ?_) (fun z G2 R2 F2 => ?_)
  · rw [rfs_congr (by omega) en] at z R2 ⊢
    (repeat (first | refine Ex.go rfl rfl ?_ | refine Ex.gf rfl rfl (by assumption) (by rfl) (by first | rfl | assumption) ?_))
    refine Ex.ret rfl rfl rfl ?_
    exact k0 z G2 nn' R2 (F1.trans F2)
  · rw [rfs_congr (by omega) en] at z
    rw [lgN_congr (by omega) en] at R2
    rw [ansI_congr (by omega) en]
    (repeat (first | refine Ex.go rfl rfl ?_ | refine Ex.gf rfl rfl (by assumption) (by rfl) (by first | rfl | assumption) ?_))
    refine Ex.ret rfl rfl rfl ?_
    exact k1 z G2 nn' R2 (F1.trans F2)
theorem r_part {a b c e f g : Int32} (h : ∃ nn, RT G lg E fx st sh shs mn im tp rs nn) (hW : WF lg E) (hL : 378 ≤ G.length) (k0 : rfs lg E 2 (n6 a b c e f g) < 0 → ∀ G' nn', RT G' lg E fx (rfs lg E 2 (n6 a b c e f g)) sh shs mn im tp rs nn' → FA G G' → Q (some (.int (rfs lg E 2 (n6 a b c e f g)))) G') (k1 : rfs lg E 2 (n6 a b c e f g) = 0 → ∀ G' nn', RT G' (lgN lg E 2 (n6 a b c e f g)) (E + 1) fx 0 sh shs mn im tp rs nn' → FA G G' → Q (some (.int (ansI lg E 2 (n6 a b c e f g)))) G') : Cx (d + 8) mX11_part [.ref 364, .int a, .int b, .int c, .int e, .int f, .int g] G Q := by
  obtain ⟨nn, h⟩ := h
  have q0 := h.choose_spec.choose_spec.choose_spec.choose_spec.choose_spec.choose_spec.choose_spec.1.1.1
  refine Cx.body rfl rfl ?_
  (repeat (first | refine Ex.go rfl rfl ?_ | refine Ex.gf rfl rfl (by assumption) (by rfl) (by first | rfl | assumption) ?_))
  refine Ex.cv6 rfl rfl rfl (by assumption) (by rfl) (by decide) rfl ?_
  refine r_give h hL (fun G1 nn' R1 F1 _ e0 e1 e2 e3 e4 e5 => ?_)
  have q1 := R1.choose_spec.choose_spec.choose_spec.choose_spec.choose_spec.choose_spec.choose_spec.1.1.1
  have en := n6_of (show numc 2 ≤ 6 by decide) e0 e1 e2 e3 e4 e5
  (repeat (first | refine Ex.go rfl rfl ?_ | refine Ex.gf rfl rfl (by assumption) (by rfl) (by first | rfl | assumption) ?_))
  refine Ex.cv1 rfl rfl rfl q1 (by rfl) (by decide) rfl ?_
  refine r_call (c := 2) R1 hW (by rw [F1.1]; exact hL) (by omega) (fun z G2 R2 F2 => ?_) (fun z G2 R2 F2 => ?_)
  · rw [rfs_congr (by omega) en] at z R2 ⊢
    (repeat (first | refine Ex.go rfl rfl ?_ | refine Ex.gf rfl rfl (by assumption) (by rfl) (by first | rfl | assumption) ?_))
    refine Ex.ret rfl rfl rfl ?_
    exact k0 z G2 nn' R2 (F1.trans F2)
  · rw [rfs_congr (by omega) en] at z
    rw [lgN_congr (by omega) en] at R2
    rw [ansI_congr (by omega) en]
    (repeat (first | refine Ex.go rfl rfl ?_ | refine Ex.gf rfl rfl (by assumption) (by rfl) (by first | rfl | assumption) ?_))
    refine Ex.ret rfl rfl rfl ?_
    exact k1 z G2 nn' R2 (F1.trans F2)
theorem r_shape {a b c e f : Int32} (h : ∃ nn, RT G lg E fx st sh shs mn im tp rs nn) (hW : WF lg E) (hL : 378 ≤ G.length) (k0 : rfs lg E 3 (n6 a b c e f 0) < 0 → ∀ G' nn', RT G' lg E fx (rfs lg E 3 (n6 a b c e f 0)) sh shs mn im tp rs nn' → FA G G' → Q (some (.int (rfs lg E 3 (n6 a b c e f 0)))) G') (k1 : rfs lg E 3 (n6 a b c e f 0) = 0 → ∀ G' nn', RT G' (lgN lg E 3 (n6 a b c e f 0)) (E + 1) fx 0 sh shs mn im tp rs nn' → FA G G' → Q (some (.int (ansI lg E 3 (n6 a b c e f 0)))) G') : Cx (d + 8) mX11_shape [.ref 364, .int a, .int b, .int c, .int e, .int f] G Q := by
  obtain ⟨nn, h⟩ := h
  have q0 := h.choose_spec.choose_spec.choose_spec.choose_spec.choose_spec.choose_spec.choose_spec.1.1.1
  refine Cx.body rfl rfl ?_
  (repeat (first | refine Ex.go rfl rfl ?_ | refine Ex.gf rfl rfl (by assumption) (by rfl) (by first | rfl | assumption) ?_))
  refine Ex.cv6 rfl rfl rfl (by assumption) (by rfl) (by decide) rfl ?_
  refine r_give h hL (fun G1 nn' R1 F1 _ e0 e1 e2 e3 e4 e5 => ?_)
  have q1 := R1.choose_spec.choose_spec.choose_spec.choose_spec.choose_spec.choose_spec.choose_spec.1.1.1
  have en := n6_of (show numc 3 ≤ 6 by decide) e0 e1 e2 e3 e4 e5
  (repeat (first | refine Ex.go rfl rfl ?_ | refine Ex.gf rfl rfl (by assumption) (by rfl) (by first | rfl | assumption) ?_))
  refine Ex.cv1 rfl rfl rfl q1 (by rfl) (by decide) rfl ?_
  refine r_call (c := 3) R1 hW (by rw [F1.1]; exact hL) (by omega) (fun z G2 R2 F2 => ?_) (fun z G2 R2 F2 => ?_)
  · rw [rfs_congr (by omega) en] at z R2 ⊢
    (repeat (first | refine Ex.go rfl rfl ?_ | refine Ex.gf rfl rfl (by assumption) (by rfl) (by first | rfl | assumption) ?_))
    refine Ex.ret rfl rfl rfl ?_
    exact k0 z G2 nn' R2 (F1.trans F2)
  · rw [rfs_congr (by omega) en] at z
    rw [lgN_congr (by omega) en] at R2
    rw [ansI_congr (by omega) en]
    (repeat (first | refine Ex.go rfl rfl ?_ | refine Ex.gf rfl rfl (by assumption) (by rfl) (by first | rfl | assumption) ?_))
    refine Ex.ret rfl rfl rfl ?_
    exact k1 z G2 nn' R2 (F1.trans F2)
theorem r_patch {a b c e f g : Int32} (h : ∃ nn, RT G lg E fx st sh shs mn im tp rs nn) (hW : WF lg E) (hL : 378 ≤ G.length) (k0 : rfs lg E 5 (n6 a b c e f g) < 0 → ∀ G' nn', RT G' lg E fx (rfs lg E 5 (n6 a b c e f g)) sh shs mn im tp rs nn' → FA G G' → Q (some (.int (rfs lg E 5 (n6 a b c e f g)))) G') (k1 : rfs lg E 5 (n6 a b c e f g) = 0 → ∀ G' nn', RT G' (lgN lg E 5 (n6 a b c e f g)) (E + 1) fx 0 sh shs mn im tp rs nn' → FA G G' → Q (some (.int (ansI lg E 5 (n6 a b c e f g)))) G') : Cx (d + 8) mX11_patch [.ref 364, .int a, .int b, .int c, .int e, .int f, .int g] G Q := by
  obtain ⟨nn, h⟩ := h
  have q0 := h.choose_spec.choose_spec.choose_spec.choose_spec.choose_spec.choose_spec.choose_spec.1.1.1
  refine Cx.body rfl rfl ?_
  (repeat (first | refine Ex.go rfl rfl ?_ | refine Ex.gf rfl rfl (by assumption) (by rfl) (by first | rfl | assumption) ?_))
  refine Ex.cv6 rfl rfl rfl (by assumption) (by rfl) (by decide) rfl ?_
  refine r_give h hL (fun G1 nn' R1 F1 _ e0 e1 e2 e3 e4 e5 => ?_)
  have q1 := R1.choose_spec.choose_spec.choose_spec.choose_spec.choose_spec.choose_spec.choose_spec.1.1.1
  have en := n6_of (show numc 5 ≤ 6 by decide) e0 e1 e2 e3 e4 e5
  (repeat (first | refine Ex.go rfl rfl ?_ | refine Ex.gf rfl rfl (by assumption) (by rfl) (by first | rfl | assumption) ?_))
  refine Ex.cv1 rfl rfl rfl q1 (by rfl) (by decide) rfl ?_
  refine r_call (c := 5) R1 hW (by rw [F1.1]; exact hL) (by omega) (fun z G2 R2 F2 => ?_) (fun z G2 R2 F2 => ?_)
  · rw [rfs_congr (by omega) en] at z R2 ⊢
    (repeat (first | refine Ex.go rfl rfl ?_ | refine Ex.gf rfl rfl (by assumption) (by rfl) (by first | rfl | assumption) ?_))
    refine Ex.ret rfl rfl rfl ?_
    exact k0 z G2 nn' R2 (F1.trans F2)
  · rw [rfs_congr (by omega) en] at z
    rw [lgN_congr (by omega) en] at R2
    rw [ansI_congr (by omega) en]
    (repeat (first | refine Ex.go rfl rfl ?_ | refine Ex.gf rfl rfl (by assumption) (by rfl) (by first | rfl | assumption) ?_))
    refine Ex.ret rfl rfl rfl ?_
    exact k1 z G2 nn' R2 (F1.trans F2)
theorem r_plate {a b c e : Int32} (h : ∃ nn, RT G lg E fx st sh shs mn im tp rs nn) (hW : WF lg E) (hL : 378 ≤ G.length) (k0 : rfs lg E 6 (n6 a b c e 0 0) < 0 → ∀ G' nn', RT G' lg E fx (rfs lg E 6 (n6 a b c e 0 0)) sh shs mn im tp rs nn' → FA G G' → Q (some (.int (rfs lg E 6 (n6 a b c e 0 0)))) G') (k1 : rfs lg E 6 (n6 a b c e 0 0) = 0 → ∀ G' nn', RT G' (lgN lg E 6 (n6 a b c e 0 0)) (E + 1) fx 0 sh shs mn im tp rs nn' → FA G G' → Q (some (.int (ansI lg E 6 (n6 a b c e 0 0)))) G') : Cx (d + 8) mX11_plate [.ref 364, .int a, .int b, .int c, .int e] G Q := by
  obtain ⟨nn, h⟩ := h
  have q0 := h.choose_spec.choose_spec.choose_spec.choose_spec.choose_spec.choose_spec.choose_spec.1.1.1
  refine Cx.body rfl rfl ?_
  (repeat (first | refine Ex.go rfl rfl ?_ | refine Ex.gf rfl rfl (by assumption) (by rfl) (by first | rfl | assumption) ?_))
  refine Ex.cv6 rfl rfl rfl (by assumption) (by rfl) (by decide) rfl ?_
  refine r_give h hL (fun G1 nn' R1 F1 _ e0 e1 e2 e3 e4 e5 => ?_)
  have q1 := R1.choose_spec.choose_spec.choose_spec.choose_spec.choose_spec.choose_spec.choose_spec.1.1.1
  have en := n6_of (show numc 6 ≤ 6 by decide) e0 e1 e2 e3 e4 e5
  (repeat (first | refine Ex.go rfl rfl ?_ | refine Ex.gf rfl rfl (by assumption) (by rfl) (by first | rfl | assumption) ?_))
  refine Ex.cv1 rfl rfl rfl q1 (by rfl) (by decide) rfl ?_
  refine r_call (c := 6) R1 hW (by rw [F1.1]; exact hL) (by omega) (fun z G2 R2 F2 => ?_) (fun z G2 R2 F2 => ?_)
  · rw [rfs_congr (by omega) en] at z R2 ⊢
    (repeat (first | refine Ex.go rfl rfl ?_ | refine Ex.gf rfl rfl (by assumption) (by rfl) (by first | rfl | assumption) ?_))
    refine Ex.ret rfl rfl rfl ?_
    exact k0 z G2 nn' R2 (F1.trans F2)
  · rw [rfs_congr (by omega) en] at z
    rw [lgN_congr (by omega) en] at R2
    rw [ansI_congr (by omega) en]
    (repeat (first | refine Ex.go rfl rfl ?_ | refine Ex.gf rfl rfl (by assumption) (by rfl) (by first | rfl | assumption) ?_))
    refine Ex.ret rfl rfl rfl ?_
    exact k1 z G2 nn' R2 (F1.trans F2)
theorem r_plug {a b c e : Int32} (h : ∃ nn, RT G lg E fx st sh shs mn im tp rs nn) (hW : WF lg E) (hL : 378 ≤ G.length) (k0 : rfs lg E 7 (n6 a b c e 0 0) < 0 → ∀ G' nn', RT G' lg E fx (rfs lg E 7 (n6 a b c e 0 0)) sh shs mn im tp rs nn' → FA G G' → Q (some (.int (rfs lg E 7 (n6 a b c e 0 0)))) G') (k1 : rfs lg E 7 (n6 a b c e 0 0) = 0 → ∀ G' nn', RT G' (lgN lg E 7 (n6 a b c e 0 0)) (E + 1) fx 0 sh shs mn im tp rs nn' → FA G G' → Q (some (.int (ansI lg E 7 (n6 a b c e 0 0)))) G') : Cx (d + 8) mX11_plug [.ref 364, .int a, .int b, .int c, .int e] G Q := by
  obtain ⟨nn, h⟩ := h
  have q0 := h.choose_spec.choose_spec.choose_spec.choose_spec.choose_spec.choose_spec.choose_spec.1.1.1
  refine Cx.body rfl rfl ?_
  (repeat (first | refine Ex.go rfl rfl ?_ | refine Ex.gf rfl rfl (by assumption) (by rfl) (by first | rfl | assumption) ?_))
  refine Ex.cv6 rfl rfl rfl (by assumption) (by rfl) (by decide) rfl ?_
  refine r_give h hL (fun G1 nn' R1 F1 _ e0 e1 e2 e3 e4 e5 => ?_)
  have q1 := R1.choose_spec.choose_spec.choose_spec.choose_spec.choose_spec.choose_spec.choose_spec.1.1.1
  have en := n6_of (show numc 7 ≤ 6 by decide) e0 e1 e2 e3 e4 e5
  (repeat (first | refine Ex.go rfl rfl ?_ | refine Ex.gf rfl rfl (by assumption) (by rfl) (by first | rfl | assumption) ?_))
  refine Ex.cv1 rfl rfl rfl q1 (by rfl) (by decide) rfl ?_
  refine r_call (c := 7) R1 hW (by rw [F1.1]; exact hL) (by omega) (fun z G2 R2 F2 => ?_) (fun z G2 R2 F2 => ?_)
  · rw [rfs_congr (by omega) en] at z R2 ⊢
    (repeat (first | refine Ex.go rfl rfl ?_ | refine Ex.gf rfl rfl (by assumption) (by rfl) (by first | rfl | assumption) ?_))
    refine Ex.ret rfl rfl rfl ?_
    exact k0 z G2 nn' R2 (F1.trans F2)
  · rw [rfs_congr (by omega) en] at z
    rw [lgN_congr (by omega) en] at R2
    rw [ansI_congr (by omega) en]
    (repeat (first | refine Ex.go rfl rfl ?_ | refine Ex.gf rfl rfl (by assumption) (by rfl) (by first | rfl | assumption) ?_))
    refine Ex.ret rfl rfl rfl ?_
    exact k1 z G2 nn' R2 (F1.trans F2)
theorem r_valve {a b c e : Int32} (h : ∃ nn, RT G lg E fx st sh shs mn im tp rs nn) (hW : WF lg E) (hL : 378 ≤ G.length) (k0 : rfs lg E 8 (n6 a b c e 0 0) < 0 → ∀ G' nn', RT G' lg E fx (rfs lg E 8 (n6 a b c e 0 0)) sh shs mn im tp rs nn' → FA G G' → Q (some (.int (rfs lg E 8 (n6 a b c e 0 0)))) G') (k1 : rfs lg E 8 (n6 a b c e 0 0) = 0 → ∀ G' nn', RT G' (lgN lg E 8 (n6 a b c e 0 0)) (E + 1) fx 0 sh shs mn im tp rs nn' → FA G G' → Q (some (.int (ansI lg E 8 (n6 a b c e 0 0)))) G') : Cx (d + 8) mX11_valve [.ref 364, .int a, .int b, .int c, .int e] G Q := by
  obtain ⟨nn, h⟩ := h
  have q0 := h.choose_spec.choose_spec.choose_spec.choose_spec.choose_spec.choose_spec.choose_spec.1.1.1
  refine Cx.body rfl rfl ?_
  (repeat (first | refine Ex.go rfl rfl ?_ | refine Ex.gf rfl rfl (by assumption) (by rfl) (by first | rfl | assumption) ?_))
  refine Ex.cv6 rfl rfl rfl (by assumption) (by rfl) (by decide) rfl ?_
  refine r_give h hL (fun G1 nn' R1 F1 _ e0 e1 e2 e3 e4 e5 => ?_)
  have q1 := R1.choose_spec.choose_spec.choose_spec.choose_spec.choose_spec.choose_spec.choose_spec.1.1.1
  have en := n6_of (show numc 8 ≤ 6 by decide) e0 e1 e2 e3 e4 e5
  (repeat (first | refine Ex.go rfl rfl ?_ | refine Ex.gf rfl rfl (by assumption) (by rfl) (by first | rfl | assumption) ?_))
  refine Ex.cv1 rfl rfl rfl q1 (by rfl) (by decide) rfl ?_
  refine r_call (c := 8) R1 hW (by rw [F1.1]; exact hL) (by omega) (fun z G2 R2 F2 => ?_) (fun z G2 R2 F2 => ?_)
  · rw [rfs_congr (by omega) en] at z R2 ⊢
    (repeat (first | refine Ex.go rfl rfl ?_ | refine Ex.gf rfl rfl (by assumption) (by rfl) (by first | rfl | assumption) ?_))
    refine Ex.ret rfl rfl rfl ?_
    exact k0 z G2 nn' R2 (F1.trans F2)
  · rw [rfs_congr (by omega) en] at z
    rw [lgN_congr (by omega) en] at R2
    rw [ansI_congr (by omega) en]
    (repeat (first | refine Ex.go rfl rfl ?_ | refine Ex.gf rfl rfl (by assumption) (by rfl) (by first | rfl | assumption) ?_))
    refine Ex.ret rfl rfl rfl ?_
    exact k1 z G2 nn' R2 (F1.trans F2)
theorem r_set {a b c e : Int32} (h : ∃ nn, RT G lg E fx st sh shs mn im tp rs nn) (hW : WF lg E) (hL : 378 ≤ G.length) (k0 : rfs lg E 9 (n6 a b c e 0 0) < 0 → ∀ G' nn', RT G' lg E fx (rfs lg E 9 (n6 a b c e 0 0)) sh shs mn im tp rs nn' → FA G G' → Q (some (.int (rfs lg E 9 (n6 a b c e 0 0)))) G') (k1 : rfs lg E 9 (n6 a b c e 0 0) = 0 → ∀ G' nn', RT G' (lgN lg E 9 (n6 a b c e 0 0)) (E + 1) fx 0 sh shs mn im tp rs nn' → FA G G' → Q (some (.int (ansI lg E 9 (n6 a b c e 0 0)))) G') : Cx (d + 8) mX11_set [.ref 364, .int a, .int b, .int c, .int e] G Q := by
  obtain ⟨nn, h⟩ := h
  have q0 := h.choose_spec.choose_spec.choose_spec.choose_spec.choose_spec.choose_spec.choose_spec.1.1.1
  refine Cx.body rfl rfl ?_
  (repeat (first | refine Ex.go rfl rfl ?_ | refine Ex.gf rfl rfl (by assumption) (by rfl) (by first | rfl | assumption) ?_))
  refine Ex.cv6 rfl rfl rfl (by assumption) (by rfl) (by decide) rfl ?_
  refine r_give h hL (fun G1 nn' R1 F1 _ e0 e1 e2 e3 e4 e5 => ?_)
  have q1 := R1.choose_spec.choose_spec.choose_spec.choose_spec.choose_spec.choose_spec.choose_spec.1.1.1
  have en := n6_of (show numc 9 ≤ 6 by decide) e0 e1 e2 e3 e4 e5
  (repeat (first | refine Ex.go rfl rfl ?_ | refine Ex.gf rfl rfl (by assumption) (by rfl) (by first | rfl | assumption) ?_))
  refine Ex.cv1 rfl rfl rfl q1 (by rfl) (by decide) rfl ?_
  refine r_call (c := 9) R1 hW (by rw [F1.1]; exact hL) (by omega) (fun z G2 R2 F2 => ?_) (fun z G2 R2 F2 => ?_)
  · rw [rfs_congr (by omega) en] at z R2 ⊢
    (repeat (first | refine Ex.go rfl rfl ?_ | refine Ex.gf rfl rfl (by assumption) (by rfl) (by first | rfl | assumption) ?_))
    refine Ex.ret rfl rfl rfl ?_
    exact k0 z G2 nn' R2 (F1.trans F2)
  · rw [rfs_congr (by omega) en] at z
    rw [lgN_congr (by omega) en] at R2
    rw [ansI_congr (by omega) en]
    (repeat (first | refine Ex.go rfl rfl ?_ | refine Ex.gf rfl rfl (by assumption) (by rfl) (by first | rfl | assumption) ?_))
    refine Ex.ret rfl rfl rfl ?_
    exact k1 z G2 nn' R2 (F1.trans F2)
theorem r_paper {a b c e f : Int32} (h : ∃ nn, RT G lg E fx st sh shs mn im tp rs nn) (hW : WF lg E) (hL : 378 ≤ G.length) (k0 : rfs lg E 10 (n6 a b c e f 0) < 0 → ∀ G' nn', RT G' lg E fx (rfs lg E 10 (n6 a b c e f 0)) sh shs mn im tp rs nn' → FA G G' → Q (some (.int (rfs lg E 10 (n6 a b c e f 0)))) G') (k1 : rfs lg E 10 (n6 a b c e f 0) = 0 → ∀ G' nn', RT G' (lgN lg E 10 (n6 a b c e f 0)) (E + 1) fx 0 sh shs mn im tp rs nn' → FA G G' → Q (some (.int (ansI lg E 10 (n6 a b c e f 0)))) G') : Cx (d + 8) mX11_paper [.ref 364, .int a, .int b, .int c, .int e, .int f] G Q := by
  obtain ⟨nn, h⟩ := h
  have q0 := h.choose_spec.choose_spec.choose_spec.choose_spec.choose_spec.choose_spec.choose_spec.1.1.1
  refine Cx.body rfl rfl ?_
  (repeat (first | refine Ex.go rfl rfl ?_ | refine Ex.gf rfl rfl (by assumption) (by rfl) (by first | rfl | assumption) ?_))
  refine Ex.cv6 rfl rfl rfl (by assumption) (by rfl) (by decide) rfl ?_
  refine r_give h hL (fun G1 nn' R1 F1 _ e0 e1 e2 e3 e4 e5 => ?_)
  have q1 := R1.choose_spec.choose_spec.choose_spec.choose_spec.choose_spec.choose_spec.choose_spec.1.1.1
  have en := n6_of (show numc 10 ≤ 6 by decide) e0 e1 e2 e3 e4 e5
  (repeat (first | refine Ex.go rfl rfl ?_ | refine Ex.gf rfl rfl (by assumption) (by rfl) (by first | rfl | assumption) ?_))
  refine Ex.cv1 rfl rfl rfl q1 (by rfl) (by decide) rfl ?_
  refine r_call (c := 10) R1 hW (by rw [F1.1]; exact hL) (by omega) (fun z G2 R2 F2 => ?_) (fun z G2 R2 F2 => ?_)
  · rw [rfs_congr (by omega) en] at z R2 ⊢
    (repeat (first | refine Ex.go rfl rfl ?_ | refine Ex.gf rfl rfl (by assumption) (by rfl) (by first | rfl | assumption) ?_))
    refine Ex.ret rfl rfl rfl ?_
    exact k0 z G2 nn' R2 (F1.trans F2)
  · rw [rfs_congr (by omega) en] at z
    rw [lgN_congr (by omega) en] at R2
    rw [ansI_congr (by omega) en]
    (repeat (first | refine Ex.go rfl rfl ?_ | refine Ex.gf rfl rfl (by assumption) (by rfl) (by first | rfl | assumption) ?_))
    refine Ex.ret rfl rfl rfl ?_
    exact k1 z G2 nn' R2 (F1.trans F2)
theorem r_rule {a b c : Int32} (h : ∃ nn, RT G lg E fx st sh shs mn im tp rs nn) (hW : WF lg E) (hL : 378 ≤ G.length) (k0 : rfs lg E 11 (n6 a b c 0 0 0) < 0 → ∀ G' nn', RT G' lg E fx (rfs lg E 11 (n6 a b c 0 0 0)) sh shs mn im tp rs nn' → FA G G' → Q (some (.int (rfs lg E 11 (n6 a b c 0 0 0)))) G') (k1 : rfs lg E 11 (n6 a b c 0 0 0) = 0 → ∀ G' nn', RT G' (lgN lg E 11 (n6 a b c 0 0 0)) (E + 1) fx 0 sh shs mn im tp rs nn' → FA G G' → Q (some (.int (ansI lg E 11 (n6 a b c 0 0 0)))) G') : Cx (d + 8) mX11_rule [.ref 364, .int a, .int b, .int c] G Q := by
  obtain ⟨nn, h⟩ := h
  have q0 := h.choose_spec.choose_spec.choose_spec.choose_spec.choose_spec.choose_spec.choose_spec.1.1.1
  refine Cx.body rfl rfl ?_
  (repeat (first | refine Ex.go rfl rfl ?_ | refine Ex.gf rfl rfl (by assumption) (by rfl) (by first | rfl | assumption) ?_))
  refine Ex.cv6 rfl rfl rfl (by assumption) (by rfl) (by decide) rfl ?_
  refine r_give h hL (fun G1 nn' R1 F1 _ e0 e1 e2 e3 e4 e5 => ?_)
  have q1 := R1.choose_spec.choose_spec.choose_spec.choose_spec.choose_spec.choose_spec.choose_spec.1.1.1
  have en := n6_of (show numc 11 ≤ 6 by decide) e0 e1 e2 e3 e4 e5
  (repeat (first | refine Ex.go rfl rfl ?_ | refine Ex.gf rfl rfl (by assumption) (by rfl) (by first | rfl | assumption) ?_))
  refine Ex.cv1 rfl rfl rfl q1 (by rfl) (by decide) rfl ?_
  refine r_call (c := 11) R1 hW (by rw [F1.1]; exact hL) (by omega) (fun z G2 R2 F2 => ?_) (fun z G2 R2 F2 => ?_)
  · rw [rfs_congr (by omega) en] at z R2 ⊢
    (repeat (first | refine Ex.go rfl rfl ?_ | refine Ex.gf rfl rfl (by assumption) (by rfl) (by first | rfl | assumption) ?_))
    refine Ex.ret rfl rfl rfl ?_
    exact k0 z G2 nn' R2 (F1.trans F2)
  · rw [rfs_congr (by omega) en] at z
    rw [lgN_congr (by omega) en] at R2
    rw [ansI_congr (by omega) en]
    (repeat (first | refine Ex.go rfl rfl ?_ | refine Ex.gf rfl rfl (by assumption) (by rfl) (by first | rfl | assumption) ?_))
    refine Ex.ret rfl rfl rfl ?_
    exact k1 z G2 nn' R2 (F1.trans F2)
theorem r_pass {a : Int32} (h : ∃ nn, RT G lg E fx st sh shs mn im tp rs nn) (hW : WF lg E) (hL : 378 ≤ G.length) (k0 : rfs lg E 0 (n6 a 0 0 0 0 0) < 0 → ∀ G' nn', RT G' lg E fx (rfs lg E 0 (n6 a 0 0 0 0 0)) sh shs mn im tp rs nn' → FA G G' → Q (some (.int (rfs lg E 0 (n6 a 0 0 0 0 0)))) G') (k1 : rfs lg E 0 (n6 a 0 0 0 0 0) = 0 → ∀ G' nn', RT G' (lgN lg E 0 (n6 a 0 0 0 0 0)) (E + 1) (E + 1) 0 sh shs mn im tp rs nn' → FA G G' → Q (some (.int (ansI lg E 0 (n6 a 0 0 0 0 0)))) G') : Cx (d + 8) mX11_pass [.ref 364, .int a] G Q := by
  obtain ⟨nn, w, pt, vl, pp, va, pa, wa, R, hI⟩ := h
  obtain ⟨⟨q0, -⟩, ⟨b0, b1, b2, b3, b4, b5, b6, b7⟩, hE, hV⟩ := R
  have hA : ap ([(373, cI 15 nn)].map Prod.fst) G.length := apG (as := [373]) (by decide) (by decide) hL
  have OG : ∀ L : List (Nat × bo_C), 364 ∉ L.map Prod.fst → (ov G L)[364]? = G[364]? := fun L h => ov_ne h
  refine Cx.body rfl rfl ?_
  (repeat (first | refine Ex.go rfl rfl ?_ | refine Ex.gf rfl rfl (by assumption) (by rfl) (by first | rfl | assumption) ?_))
  refine Ex.lay [(373, cI 15 nn)] (lay1 b7) ?_
  refine Ex.iaso hA 0 rfl (j := 0) rfl rfl (by omega) (by omega) ?_
  dsimp only [List.set]
  have R1 : RT (ov G [(373, cI 15 (upd nn 0 a))]) lg E fx st sh shs mn im tp rs (upd nn 0 a) := ⟨w, pt, vl, pp, va, pa, wa, ⟨⟨(by first | exact ov_get hA 0 rfl | exact ov_get hA 1 rfl | exact ov_get hA 2 rfl | exact ov_get hA 3 rfl | exact ov_get hA 4 rfl | (rw [ov_ne (by simp)]; assumption)), rfl, rfl, rfl, rfl, rfl, rfl, rfl, rfl, rfl, rfl, rfl⟩, ⟨(by first | exact ov_get hA 0 rfl | exact ov_get hA 1 rfl | exact ov_get hA 2 rfl | exact ov_get hA 3 rfl | exact ov_get hA 4 rfl | (rw [ov_ne (by simp)]; assumption)), (by first | exact ov_get hA 0 rfl | exact ov_get hA 1 rfl | exact ov_get hA 2 rfl | exact ov_get hA 3 rfl | exact ov_get hA 4 rfl | (rw [ov_ne (by simp)]; assumption)), (by first | exact ov_get hA 0 rfl | exact ov_get hA 1 rfl | exact ov_get hA 2 rfl | exact ov_get hA 3 rfl | exact ov_get hA 4 rfl | (rw [ov_ne (by simp)]; assumption)), (by first | exact ov_get hA 0 rfl | exact ov_get hA 1 rfl | exact ov_get hA 2 rfl | exact ov_get hA 3 rfl | exact ov_get hA 4 rfl | (rw [ov_ne (by simp)]; assumption)), (by first | exact ov_get hA 0 rfl | exact ov_get hA 1 rfl | exact ov_get hA 2 rfl | exact ov_get hA 3 rfl | exact ov_get hA 4 rfl | (rw [ov_ne (by simp)]; assumption)), (by first | exact ov_get hA 0 rfl | exact ov_get hA 1 rfl | exact ov_get hA 2 rfl | exact ov_get hA 3 rfl | exact ov_get hA 4 rfl | (rw [ov_ne (by simp)]; assumption)), (by first | exact ov_get hA 0 rfl | exact ov_get hA 1 rfl | exact ov_get hA 2 rfl | exact ov_get hA 3 rfl | exact ov_get hA 4 rfl | (rw [ov_ne (by simp)]; assumption)), (by first | exact ov_get hA 0 rfl | exact ov_get hA 1 rfl | exact ov_get hA 2 rfl | exact ov_get hA 3 rfl | exact ov_get hA 4 rfl | (rw [ov_ne (by simp)]; assumption))⟩, hE, hV⟩, hI⟩
  have F1 : FA G (ov G [(373, cI 15 (upd nn 0 a))]) := FA.ov (FA.rfl' G) (by simp)
  have q1 := (OG [(373, cI 15 (upd nn 0 a))] (by simp)).trans q0
  have en : ∀ k, k < numc 0 → upd nn 0 a k = n6 a 0 0 0 0 0 k := fun k hk => by
    have e1 : numc 0 = 1 := by decide
    have : k = 0 := by omega
    subst this
    rfl
  (repeat (first | refine Ex.go rfl rfl ?_ | refine Ex.gf rfl rfl (by assumption) (by rfl) (by first | rfl | assumption) ?_))
  refine Ex.cv1 rfl rfl rfl q1 (by rfl) (by decide) rfl ?_
  refine r_call (c := 0) R1 hW (by rw [F1.1]; exact hL) (by omega) (fun z G2 R2 F2 => ?_) (fun z G2 R2 F2 => ?_)
  · rw [rfs_congr (by omega) en] at z R2 ⊢
    (repeat (first | refine Ex.go rfl rfl ?_ | refine Ex.gf rfl rfl (by assumption) (by rfl) (by first | rfl | assumption) ?_))
    refine Ex.ret rfl rfl rfl ?_
    exact k0 z G2 _ R2 (F1.trans F2)
  · rw [rfs_congr (by omega) en] at z
    rw [lgN_congr (by omega) en] at R2
    rw [ansI_congr (by omega) en]
    (repeat (first | refine Ex.go rfl rfl ?_ | refine Ex.gf rfl rfl (by assumption) (by rfl) (by first | rfl | assumption) ?_))
    refine Ex.ret rfl rfl rfl ?_
    exact k1 z G2 _ R2 (F1.trans F2)
theorem r_status (h : RT G lg E fx st sh shs mn im tp rs nn) (k : Q (some (.int st)) G) : Cx d mX11_status [.ref 364] G Q := by
  obtain ⟨w, pt, vl, pp, va, pa, wa, R, hI⟩ := h
  have q0 := R.1.1
  refine Cx.body rfl rfl ?_
  (repeat (first | refine Ex.go rfl rfl ?_ | refine Ex.gf rfl rfl (by assumption) (by rfl) (by first | rfl | assumption) ?_))
  refine Ex.ret rfl rfl rfl ?_
  exact k
/-- what count answers -/
def cntI (lg : Nat → Int32) (E : Nat) (x v : Int32) : Int32 :=
  if x.toInt = 0 then tdy lg E else if x.toInt = 1 then nI (vsl lg E).length else if x.toInt = 2 then nI (acl lg E).length else if x.toInt = 3 then nI (osl lg E).length else if x.toInt = 4 then nI (rsl lg E).length else
  if ¬ (0 ≤ v.toInt ∧ v.toInt < (vsl lg E).length) then -1 else if x.toInt = 5 then nI (psl lg E v.toNatClampNeg).length else if x.toInt = 6 then nI (wsl lg E v.toNatClampNeg).length else if x.toInt = 7 then nI (qsl lg E v.toNatClampNeg).length else -1
theorem r_count {x v : Int32} (h : RT G lg E fx st sh shs mn im tp rs nn) (k : Q (some (.int (cntI lg E x v))) G) : Cx (d + 2) mX11_count [.ref 364, .int x, .int v] G Q := by
  obtain ⟨w, pt, vl, pp, va, pa, wa, R, hI⟩ := h
  have q0 := R.1.1
  obtain ⟨-, ⟨b0, b1, b2, b3, b4, b5, b6, b7⟩, hE, hV⟩ := id R
  unfold cntI at k
  have h5 : (5 : Int32).toInt = 5 := rfl
  have h6 : (6 : Int32).toInt = 6 := rfl
  refine Cx.body rfl rfl ?_
  (repeat (first | refine Ex.go rfl rfl ?_ | refine Ex.gf rfl rfl (by assumption) (by rfl) (by first | rfl | assumption) ?_))
  rcases (show (x.toInt < 0 ∨ 4 < x.toInt) ∨ x.toInt = 0 ∨ x.toInt = 1 ∨ x.toInt = 2 ∨ x.toInt = 3 ∨ x.toInt = 4 by omega) with hw | hw | hw | hw | hw | hw
  · rw [if_neg (by omega), if_neg (by omega), if_neg (by omega), if_neg (by omega), if_neg (by omega)] at k
    refine Ex.tsw 61 rfl (bo_tswD hw) (by decide) ?_
    (repeat (first | refine Ex.go rfl rfl ?_ | refine Ex.gf rfl rfl (by assumption) (by rfl) (by first | rfl | assumption) ?_))
    refine Ex.cv1 rfl rfl rfl (by assumption) (by rfl) (by decide) rfl ?_
    refine r_isVessel R ?_
    (repeat (first | refine Ex.go rfl rfl ?_ | refine Ex.gf rfl rfl (by assumption) (by rfl) (by first | rfl | assumption) ?_))
    refine Ex.brz (fun c1 => ?_) (fun c1 => ?_); rotate_left
    · rw [if_pos c1] at k
      (repeat (first | refine Ex.go rfl rfl ?_ | refine Ex.gf rfl rfl (by assumption) (by rfl) (by first | rfl | assumption) ?_))
      refine Ex.ret rfl rfl rfl ?_
      exact k
    rw [if_neg (fun z => z c1)] at k
    (repeat (first | refine Ex.go rfl rfl ?_ | refine Ex.gf rfl rfl (by assumption) (by rfl) (by first | rfl | assumption) ?_))
    refine Ex.cs3 rfl rfl rfl rfl rfl rfl ?_
    refine r_inI (lo := 5) (hi := 7) (by decide +kernel) (by decide +kernel) ?_
    (repeat (first | refine Ex.go rfl rfl ?_ | refine Ex.gf rfl rfl (by assumption) (by rfl) (by first | rfl | assumption) ?_))
    refine Ex.brn (fun c2 => ?_) (fun c2 => ?_); rotate_left
    · rw [if_neg (by omega), if_neg (by omega), if_neg (by omega)] at k
      (repeat (first | refine Ex.go rfl rfl ?_ | refine Ex.gf rfl rfl (by assumption) (by rfl) (by first | rfl | assumption) ?_))
      refine Ex.ret rfl rfl rfl ?_
      exact k
    obtain ⟨e1, e2, e3⟩ := nI_iof c1.1
    have hv : v.toNatClampNeg < (vsl lg E).length := by omega
    generalize v.toNatClampNeg = u at e1 e2 e3 hv k
    subst e1
    (repeat (first | refine Ex.go rfl rfl ?_ | refine Ex.gf rfl rfl (by assumption) (by rfl) (by first | rfl | assumption) ?_))
    refine Ex.br (fun h1 => ?_) (fun h1 => ?_)
    · have h2 : ¬ x.toInt = 5 := fun z => h1 (Int32.toInt_inj.mp (z.trans h5.symm))
      rw [if_neg h2] at k
      (repeat (first | refine Ex.go rfl rfl ?_ | refine Ex.gf rfl rfl (by assumption) (by rfl) (by first | rfl | assumption) ?_))
      refine Ex.br (fun h3 => ?_) (fun h3 => ?_)
      · have h4 : ¬ x.toInt = 6 := fun z => h3 (Int32.toInt_inj.mp (z.trans h6.symm))
        rw [if_neg h4, if_pos (by omega)] at k
        (repeat (first | refine Ex.go rfl rfl ?_ | refine Ex.gf rfl rfl (by assumption) (by rfl) (by first | rfl | assumption) ?_))
        refine Ex.ialN rfl (j := u) rfl b3 (by omega) (by omega) ?_
        rw [hI.hq u hv]
        refine Ex.ret rfl rfl rfl ?_
        exact k
      · rw [if_pos (by rw [Decidable.not_not.mp h3]; rfl)] at k
        (repeat (first | refine Ex.go rfl rfl ?_ | refine Ex.gf rfl rfl (by assumption) (by rfl) (by first | rfl | assumption) ?_))
        refine Ex.ialN rfl (j := u) rfl b2 (by omega) (by omega) ?_
        rw [(hI.hw u hv).1]
        (repeat (first | refine Ex.go rfl rfl ?_ | refine Ex.gf rfl rfl (by assumption) (by rfl) (by first | rfl | assumption) ?_))
        refine Ex.ret rfl rfl rfl ?_
        exact k
    · rw [if_pos (by rw [Decidable.not_not.mp h1]; rfl)] at k
      (repeat (first | refine Ex.go rfl rfl ?_ | refine Ex.gf rfl rfl (by assumption) (by rfl) (by first | rfl | assumption) ?_))
      refine Ex.ialN rfl (j := u) rfl b1 (by omega) (by omega) ?_
      rw [(hI.hp u hv).1]
      (repeat (first | refine Ex.go rfl rfl ?_ | refine Ex.gf rfl rfl (by assumption) (by rfl) (by first | rfl | assumption) ?_))
      refine Ex.ret rfl rfl rfl ?_
      exact k
  · rw [if_pos hw] at k
    refine Ex.tsw 36 rfl (by rw [hw]; rfl) (by decide) ?_
    (repeat (first | refine Ex.go rfl rfl ?_ | refine Ex.gf rfl rfl (by assumption) (by rfl) (by first | rfl | assumption) ?_))
    refine Ex.ret rfl rfl rfl ?_
    exact k
  · rw [if_neg (by omega), if_pos hw] at k
    refine Ex.tsw 41 rfl (by rw [hw]; rfl) (by decide) ?_
    (repeat (first | refine Ex.go rfl rfl ?_ | refine Ex.gf rfl rfl (by assumption) (by rfl) (by first | rfl | assumption) ?_))
    refine Ex.ret rfl rfl rfl ?_
    exact k
  · rw [if_neg (by omega), if_neg (by omega), if_pos hw] at k
    refine Ex.tsw 46 rfl (by rw [hw]; rfl) (by decide) ?_
    (repeat (first | refine Ex.go rfl rfl ?_ | refine Ex.gf rfl rfl (by assumption) (by rfl) (by first | rfl | assumption) ?_))
    refine Ex.ret rfl rfl rfl ?_
    exact k
  · rw [if_neg (by omega), if_neg (by omega), if_neg (by omega), if_pos hw] at k
    refine Ex.tsw 51 rfl (by rw [hw]; rfl) (by decide) ?_
    (repeat (first | refine Ex.go rfl rfl ?_ | refine Ex.gf rfl rfl (by assumption) (by rfl) (by first | rfl | assumption) ?_))
    refine Ex.ret rfl rfl rfl ?_
    exact k
  · rw [if_neg (by omega), if_neg (by omega), if_neg (by omega), if_neg (by omega), if_pos hw] at k
    refine Ex.tsw 56 rfl (by rw [hw]; rfl) (by decide) ?_
    (repeat (first | refine Ex.go rfl rfl ?_ | refine Ex.gf rfl rfl (by assumption) (by rfl) (by first | rfl | assumption) ?_))
    refine Ex.ret rfl rfl rfl ?_
    exact k
end RR
