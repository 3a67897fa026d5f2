/-! The reference's state: queries leave it, the class's calls leave it. -/
section RQ
variable {d : Nat} {G G' G1 : bo_G} {Q : Option Value → bo_G → Prop} {lg : Nat → Int32} {E fx mn : Nat} {gv ls nn : Nat → Int32} {ts : List Int32} {st sh shs im rs : Int32} {v x y : Int32}
theorem rF_20 {A P VS RU : Nat} {td mn im tp : Int32} {w w' : Value × Value × Value × Value × Value} : ∀ i, (i < 20 ∨ 25 ≤ i) → (rF E fx td A P VS RU st sh shs w' mn im tp rs)[i]? = (rF E fx td A P VS RU st sh shs w mn im tp rs)[i]?
  | 0, _ => rfl
  | 1, _ => rfl
  | 2, _ => rfl
  | 3, _ => rfl
  | 4, _ => rfl
  | 5, _ => rfl
  | 6, _ => rfl
  | 7, _ => rfl
  | 8, _ => rfl
  | 9, _ => rfl
  | 10, _ => rfl
  | 11, _ => rfl
  | 12, _ => rfl
  | 13, _ => rfl
  | 14, _ => rfl
  | 15, _ => rfl
  | 16, _ => rfl
  | 17, _ => rfl
  | 18, _ => rfl
  | 19, _ => rfl
  | 20, h => absurd h (by omega)
  | 21, h => absurd h (by omega)
  | 22, h => absurd h (by omega)
  | 23, h => absurd h (by omega)
  | 24, h => absurd h (by omega)
  | 25, _ => rfl
  | 26, _ => rfl
  | 27, _ => rfl
  | 28, _ => rfl
  | 29, _ => rfl
  | 30, _ => rfl
  | 31, _ => rfl
  | i + 32, _ => rfl
theorem SC_rF {A P VS RU : Nat} {td mn im tp : Int32} {w : Value × Value × Value × Value × Value} {f : List Value} (h : SC (rF E fx td A P VS RU st sh shs w mn im tp rs) f) : ∃ w', f = rF E fx td A P VS RU st sh shs w' mn im tp rs := by
  obtain ⟨h1, h2⟩ := h
  have h1 : f.length = 32 := h1
  have g : ∀ {i : Nat}, i < 32 → f[i]? = some (f.getD i .null) := fun hi => by
    rw [List.getD_eq_getElem?_getD, List.getElem?_eq_getElem (by omega)]
    rfl
  refine ⟨(f.getD 20 .null, f.getD 21 .null, f.getD 22 .null, f.getD 23 .null, f.getD 24 .null), List.ext_getElem? fun i => ?_⟩
  by_cases q : i < 20 ∨ 25 ≤ i
  · rw [h2 i q]
    exact (rF_20 i q).symm
  · rcases (show i = 20 ∨ i = 21 ∨ i = 22 ∨ i = 23 ∨ i = 24 by omega) with e | e | e | e | e <;> subst e
    · exact g (by omega)
    · exact g (by omega)
    · exact g (by omega)
    · exact g (by omega)
    · exact g (by omega)
theorem RS.cell (h : RS G lg E fx st sh shs gv mn ls ts rs) : ∃ fs, G[364]? = some (cO 11 fs) := by
  obtain ⟨nn, im, imf, old, tpf, R, -⟩ := h
  obtain ⟨w, q0, -⟩ := RT_fs R
  exact ⟨_, q0⟩
/-- as acts need it -/
theorem RS.rt (h : RS G lg E fx st sh shs gv mn ls ts rs) : ∃ im, (∃ nn, RT G lg E fx st sh shs (nI mn) im (nI ts.length) rs nn) ∧ ∀ G' lg' E' fx' st' sh' shs' nn', RT G' lg' E' fx' st' sh' shs' (nI mn) im (nI ts.length) rs nn' → FA G G' → RS G' lg' E' fx' st' sh' shs' gv mn ls ts rs ∧ FR G G' := by
  obtain ⟨nn, im, imf, old, tpf, R, hc, ht⟩ := h
  exact ⟨im, ⟨nn, R⟩, fun G' lg' E' fx' st' sh' shs' nn' R' F => ⟨RS_fa ht hc F R', F.fr⟩⟩
/-- as queries need it -/
theorem RS.q (h : RS G lg E fx st sh shs gv mn ls ts rs) : ∃ fs nn pt vl pp va pa wa, RD G fs lg E (tdy lg E) (vsl lg E).length pt vl pp va pa wa nn ∧ RI lg E (vsl lg E).length pt vl pp va pa wa ∧ fs.length = 32 ∧ ∀ G' f, RD G' f lg E (tdy lg E) (vsl lg E).length pt vl pp va pa wa nn → SG G fs G' f → RS G' lg E fx st sh shs gv mn ls ts rs ∧ FR G G' := by
  obtain ⟨nn, im, imf, old, tpf, ⟨w, pt, vl, pp, va, pa, wa, R, hI⟩, hc, ht⟩ := h
  refine ⟨_, nn, pt, vl, pp, va, pa, wa, R, hI, rfl, fun G' f R' S => ?_⟩
  obtain ⟨w', e⟩ := SC_rF S.2.2
  have R2 : RT G' lg E fx st sh shs (nI mn) im (nI ts.length) rs nn := ⟨w', pt, vl, pp, va, pa, wa, by rw [← e]; exact R', hI⟩
  exact ⟨RS_fa ht hc S.fr R2, S.fr.fr⟩
/-- the class's calls -/
theorem RS.fk (h : RS G lg E fx st sh shs gv mn ls ts rs) (F : FK G G1) : RS G1 lg E fx st sh shs gv mn ls ts rs := by
  obtain ⟨nn, im, imf, old, tpf, R, ⟨c1, c2, c3, c4, c5⟩, ht⟩ := h
  exact ⟨nn, im, imf, old, tpf, RT_out R fun j h1 h2 _ => F j (by omega), ⟨(F 366 (by omega)).trans c1, (F 374 (by omega)).trans c2, (F 375 (by omega)).trans c3, (F 376 (by omega)).trans c4, (F 377 (by omega)).trans c5⟩, ht⟩
theorem r_weakest0 {fs : List Value} {td : Int32} {VS : Nat} {pt vl pp va pa wa : Nat → Int32} (h : RD G fs lg E td VS pt vl pp va pa wa nn) (hI : RI lg E VS pt vl pp va pa wa) (hv : ¬ (0 ≤ v.toInt ∧ v.toInt < (vsl lg E).length)) (k : Q (some (.int (-1))) G) : Cx (d + 6) mX11_weakest [.ref 364, .int v, .int x, .int y] G Q := by
  have g0 := h.1.1
  refine Cx.body rfl rfl ?_
  (repeat (first | refine Ex.go rfl rfl ?_ | refine Ex.gf rfl rfl (by assumption) (by rfl) (by first | rfl | assumption) ?_))
  refine Ex.cv4 rfl rfl rfl (by assumption) (by rfl) (by decide) rfl ?_
  refine r_isKnownPart h hI (fun P1 d1 i1 => ?_)
  (repeat (first | refine Ex.go rfl rfl ?_ | refine Ex.gf rfl rfl (by assumption) (by rfl) (by first | rfl | assumption) ?_))
  refine Ex.brz (fun c1 => ?_) (fun c1 => ?_); rotate_left
  · (repeat (first | refine Ex.go rfl rfl ?_ | refine Ex.gf rfl rfl (by assumption) (by rfl) (by first | rfl | assumption) ?_))
    refine Ex.ret rfl rfl rfl ?_
    exact k
  · exact absurd (i1.mp c1).1.2.2.1 hv
theorem q_rweakest (h : RS G lg E fx st sh shs gv mn ls ts rs) (hW : WF lg E) (k : ∀ G', RS G' lg E fx st sh shs gv mn ls ts rs → FR G G' → Q (some (.int (weaI lg E v x y))) G') : Cx (d + 6) mX11_weakest [.ref 364, .int v, .int x, .int y] G Q := by
  obtain ⟨fs, nn, pt, vl, pp, va, pa, wa, R, I, hL, back⟩ := h.q
  unfold weaI at k
  by_cases hv : 0 ≤ v.toInt ∧ v.toInt < (vsl lg E).length
  · obtain ⟨e1, e2, e3⟩ := nI_iof hv.1
    have hvn : v.toNatClampNeg < (vsl lg E).length := by omega
    have r0 := r_weakest (d := d) (v := v.toNatClampNeg) (x := x) (y := y) (Q := Q) R I hW.1 hL hvn (fun G' f R' S' => by
      obtain ⟨h', F⟩ := back G' f R' S'
      have k := k G' h' F
      by_cases ha : askP lg E v x y
      · rw [if_pos ha] at k
        exact k
      · rw [if_neg ha] at k
        have e : weaZ lg E v.toNatClampNeg x y 25 0 (-1) 0 = -1 := by
          show (if knP lg E (nI v.toNatClampNeg) (nI 0) x y then _ else (-1 : Int32)) = -1
          rw [if_neg]
          intro z
          have z1 := z.1
          rw [← e1] at z1
          exact ha z1
        rw [e]
        exact k)
    rw [← e1] at r0
    exact r0
  · rw [if_neg (fun z => hv z.2.2.1)] at k
    refine r_weakest0 R I hv ?_
    have S0 := SG.rfl' R hL
    obtain ⟨h', F⟩ := back G fs R S0
    exact k G h' F
end RQ
/-- what stands before each call of the law -/
def LSr (on : Int32) (ks : List Int32) (mn : Nat) (ls : Nat → Int32) : Prop := ∃ i, i ≤ 90 ∧ LSi on ks mn ls i
def INV (G : bo_G) : Prop := ∃ (b : Nat) (us ws : List Nat) (lg : Nat → Int32) (E fx : Nat) (st sh shs : Int32) (gv : Nat → Int32) (es : List Int32) (mn : Nat) (ls : Nat → Int32) (on : Int32) (ks ts : List Int32) (rs : Nat), KS G b us ws lg E fx st sh es on ks ts rs ∧ RS G lg E fx st sh shs gv mn ls ts (nI rs) ∧ ZP lg E ∧ SHr sh shs gv es ∧ LSr on ks mn ls
/-- both calls answer alike, and what stands before them stands behind them -/
def Pair (mc mr : bo_M) (as : List Value) : Prop := ∀ (G : bo_G) (L : Nat) (xs : Nat → Int32), INV G → G[0]? = some (cS L xs) → Cx 11 mc (.ref 1 :: as) G (fun v G1 => ∃ r, v = some (.int r) ∧ G1[0]? = some (cS L xs) ∧ (∃ fs, G1[364]? = some (cO 11 fs)) ∧ Cx 11 mr (.ref 364 :: as) G1 (fun v2 G2 => v2 = some (.int r) ∧ G2[0]? = some (cS L xs) ∧ INV G2))
