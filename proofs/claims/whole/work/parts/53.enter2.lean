/-! The reference's enter, second half; call. -/
section OVX
variable {d : Nat} {m : bo_M} {pc : Nat} {lv : bo_LV} {st : List Value} {G : bo_G} {L : List (Nat × bo_C)} {Q : Option Value → bo_G → Prop}
theorem Ex.iaso {a nx tg kp n j : Nat} {i x : Int32} {f : Nat → Int32} {r : List Value} (hA : ap (L.map Prod.fst) G.length) (p : Nat) (he : bo_cd m pc = some (.iastore, nx, tg, kp)) (hj : i = nI j) (hp : L[p]? = some (a, cI n f)) (hi : j < n) (hn : n < 2 ^ 31) (k1 : Ex d m (nx, lv, r, ov G (L.set p (a, cI n (upd f j x)))) Q) : Ex d m (pc, lv, .int x :: .int i :: .ref a :: r, ov G L) Q := by
  refine Ex.iasN he hj (ov_get hA p hp) hi hn ?_
  rw [ov_set hA p hp]
  exact k1
theorem Ex.ialo {a nx tg kp n j : Nat} {i : Int32} {f : Nat → Int32} {r : List Value} (hA : ap (L.map Prod.fst) G.length) (p : Nat) (he : bo_cd m pc = some (.iaload, nx, tg, kp)) (hj : i = nI j) (hp : L[p]? = some (a, cI n f)) (hi : j < n) (hn : n < 2 ^ 31) (k1 : Ex d m (nx, lv, .int (f j) :: r, ov G L) Q) : Ex d m (pc, lv, .int i :: .ref a :: r, ov G L) Q := Ex.ialN he hj (ov_get hA p hp) hi hn k1
end OVX
/-- the reference's cells, its counters and places the log's -/
def RT (G : bo_G) (lg : Nat → Int32) (E fx : Nat) (st sh shs mn im tp rs : Int32) (nn : Nat → Int32) : Prop := ∃ w pt vl pp va pa wa, RD G (rF E fx (tdy lg E) (acl lg E).length (osl lg E).length (vsl lg E).length (rsl lg E).length st sh shs w mn im tp rs) lg E (tdy lg E) (vsl lg E).length pt vl pp va pa wa nn ∧ RI lg E (vsl lg E).length pt vl pp va pa wa
/-- what an act leaves as it is -/
def FA (G G' : bo_G) : Prop := G'.length = G.length ∧ ∀ j, j < 364 ∨ j = 366 ∨ 373 < j → G'[j]? = G[j]?
theorem FA.rfl' (G : bo_G) : FA G G := ⟨rfl, fun _ _ => rfl⟩
theorem FA.trans {G1 G2 G3 : bo_G} (h : FA G1 G2) (h2 : FA G2 G3) : FA G1 G3 := ⟨h2.1.trans h.1, fun j hj => (h2.2 j hj).trans (h.2 j hj)⟩
theorem FA.set {G G' : bo_G} {a : Nat} {c : bo_C} (h : FA G G') (ha : 364 ≤ a ∧ a ≤ 373 ∧ a ≠ 366) : FA G (G'.set a c) := ⟨by rw [List.length_set]; exact h.1, fun j hj => by rw [List.getElem?_set_ne (by omega)]; exact h.2 j hj⟩
theorem FA.ov {G G' : bo_G} {L : List (Nat × bo_C)} (h : FA G G') (hL : ∀ p ∈ L.map Prod.fst, 364 ≤ p ∧ p ≤ 373 ∧ p ≠ 366) : FA G (ov G' L) := by
  refine ⟨by rw [ov_len]; exact h.1, fun j hj => ?_⟩
  rw [ov_ne fun z => by have := hL j z; omega]
  exact h.2 j hj
/-- what entering asks -/
def enOK (lg : Nat → Int32) (E c : Nat) (nn : Nat → Int32) : Prop := (c = 1 → (vsl lg E).length < 30) ∧ (2 ≤ c → c ≤ 10 → ∃ v, v < (vsl lg E).length ∧ nn 0 = nI v ∧ (c = 2 → (psl lg E v).length < 24) ∧ (c = 8 → (wsl lg E v).length < 6))
theorem apG {G : bo_G} {as : List Nat} (h1 : as.Nodup) (h2 : ∀ a ∈ as, a < 378) (h3 : 378 ≤ G.length) : ap as G.length := ⟨h1, fun a ha => Nat.lt_of_lt_of_le (h2 a ha) h3⟩
section RR
variable {d : Nat} {G G' : bo_G} {Q : Option Value → bo_G → Prop} {lg : Nat → Int32} {E fx fx' A P VS RU c : Nat} {td : Int32} {pt vl pp va pa wa nn : Nat → Int32} {st sh shs mn im tp rs : Int32} {w : Value × Value × Value × Value × Value}
theorem RT_mk (hc : c < 12) (R : RD G' (rF (E + 1) fx' td A P VS RU st sh shs w mn im tp rs) (lgN lg E c nn) (E + 1) td VS pt vl pp va pa wa nn) (hI : RI (lgN lg E c nn) (E + 1) VS pt vl pp va pa wa) (ht : td = if c = 0 then nn 0 else tdy lg E) (hA : A = (acl lg E).length + if c = 0 then 0 else 1) (hP : P = (osl lg E).length + if c = 0 then 1 else 0) (hV : VS = (vsl lg E).length + if c = 1 then 1 else 0) (hR : RU = (rsl lg E).length + if c = 11 then 1 else 0) : RT G' (lgN lg E c nn) (E + 1) fx' st sh shs mn im tp rs nn := by
  have e1 : tdy (lgN lg E c nn) (E + 1) = td := by rw [tdy_N hc, ht]
  have e2 : (acl (lgN lg E c nn) (E + 1)).length = A := by rw [acl_N hc, List.length_append, hA]; split <;> rfl
  have e3 : (osl (lgN lg E c nn) (E + 1)).length = P := by rw [osl_N hc, List.length_append, hP]; split <;> rfl
  have e4 : (vsl (lgN lg E c nn) (E + 1)).length = VS := by rw [vsl_N hc, List.length_append, hV]; split <;> rfl
  have e5 : (rsl (lgN lg E c nn) (E + 1)).length = RU := by rw [rsl_N hc, List.length_append, hR]; split <;> rfl
  unfold RT
  rw [e1, e2, e3, e4, e5]
  exact ⟨w, pt, vl, pp, va, pa, wa, R, hI⟩
theorem r_enter (h : RT G lg E fx st sh shs mn im tp rs nn) (hW : ∀ j, j < E → wfE lg j) (hL : 378 ≤ G.length) (hE6 : E < 6000) (hc : c < 12) (hok : enOK lg E c nn) (k : ∀ G', RT G' (lgN lg E c nn) (E + 1) (if c = 0 then E + 1 else fx) st sh shs mn im tp rs nn → FA G G' → Q (some (.int (ansI lg E c nn))) G') : Cx (d + 3) mX11_enter [.ref 364, .int (nI c)] G Q := by
  obtain ⟨w, pt, vl, pp, va, pa, wa, h, hI⟩ := h
  obtain ⟨ok1, ok2⟩ := hok
  have hV30 := h.2.2.2
  have hz : ∀ v, v = (vsl lg E).length → psl lg E v = [] ∧ wsl lg E v = [] ∧ qsl lg E v = [] := fun v hv => none_there hW (by omega) (by omega) (by omega)
  refine r_enterA h hI hE6 hc (fun h23 => by obtain ⟨v, a, b, -⟩ := ok2 (by omega) (by omega); exact ⟨v, a, b⟩) (fun G1 eG R => ?_)
  have F1 : FA G G1 := by rw [eG]; exact ((FA.rfl' G).set (by omega)).set (by omega)
  have hL1 : 378 ≤ G1.length := by rw [F1.1]; exact hL
  clear eG
  have R' := R
  obtain ⟨⟨q0, -⟩, ⟨b0, b1, b2, b3, b4, b5, b6, b7⟩, hE, hV⟩ := R
  -- codes that touch no row
  have same : 2 ≤ c → ¬ c = 2 → ¬ c = 8 → ¬ c = 10 → ¬ c = 11 → Q (some (.int (ansI lg E c nn))) G1 := by
    intro h0 h2 h8 h10 h11
    have h00 : ¬ c = 0 := by omega
    have h01 : ¬ c = 1 := by omega
    have k1 := k G1
    rw [if_neg h00] at k1
    rw [if_neg h00] at R'
    refine k1 (RT_mk hc R' ?_ (by rw [if_neg h00]) (by rw [if_neg h00]) (by rw [if_neg h00]; rfl) (by rw [if_neg h01]; rfl) (by rw [if_neg h11]; rfl)) F1
    refine RI_N hI hz hc (by rw [if_neg h01]; rfl) (fun v _ => rfl) (fun z => absurd z h01) (fun v _ => by rw [if_neg (fun z => h2 z.1)]) (fun z => absurd z h01) (fun z => absurd z h2) (fun v p _ _ => rfl) (fun z => absurd z h2) (fun v _ => by rw [if_neg (fun z => h8 z.1)]) (fun z => absurd z h01) (fun z => absurd z h8) (fun v p _ _ => rfl) (fun z => absurd z h8) (fun v _ => by rw [if_neg (fun z => h10 z.1)]) (fun z => absurd z h01)
  have nn2 : ansI lg E c nn = nn 2 → 2 ≤ c → ¬ c = 2 → ¬ c = 8 → ¬ c = 10 → ¬ c = 11 → Ex (d + 3) mX11_enter (397, [(0, .ref 364), (1, .int (nI c)), (2, .int (nI (18 * E))), (3, .int (nn 0)), (4, .int (nI 15))], [], G1) Q := by
    intro e h0 h2 h8 h10 h11
    have k2 := same h0 h2 h8 h10 h11
    rw [e] at k2
    (repeat (first | refine Ex.go rfl rfl ?_ | refine Ex.gf rfl rfl (by assumption) (by rfl) (by first | rfl | assumption) ?_))
    refine Ex.ialN rfl (j := 2) rfl b7 (by omega) (by omega) ?_
    refine Ex.ret rfl rfl rfl ?_
    exact k2
  match c, hc with
  | 0, hc =>
    have hA : ap ([(364, cO 11 (rF (E + 1) fx (tdy lg E) ((acl lg E).length + 0) (osl lg E).length (vsl lg E).length (rsl lg E).length st sh shs w mn im tp rs))].map Prod.fst) G1.length := apG (as := [364]) (by decide) (by decide) hL1
    refine Ex.lay [(364, cO 11 (rF (E + 1) fx (tdy lg E) ((acl lg E).length + 0) (osl lg E).length (vsl lg E).length (rsl lg E).length st sh shs w mn im tp rs))] (lay1 q0) ?_
    (repeat (first | refine Ex.go rfl rfl ?_ | refine Ex.gf rfl rfl (ov_get hA 0 rfl) (by rfl) (by rfl) ?_ | refine Ex.gf rfl rfl (ov_get hA 1 rfl) (by rfl) (by rfl) ?_ | refine Ex.gf rfl rfl (ov_get hA 2 rfl) (by rfl) (by rfl) ?_ | refine Ex.gf rfl rfl (ov_get hA 3 rfl) (by rfl) (by rfl) ?_ | refine Ex.gf rfl rfl (ov_get hA 4 rfl) (by rfl) (by rfl) ?_ | refine Ex.gf rfl rfl (ov_get hA 5 rfl) (by rfl) (by rfl) ?_ | refine Ex.gf rfl rfl (ov_get hA 6 rfl) (by rfl) (by rfl) ?_ | (refine Ex.pfo hA 0 rfl rfl rfl (by rfl) (by rfl) (by rfl) ?_; dsimp only [List.set]) | (refine Ex.pfo hA 1 rfl rfl rfl (by rfl) (by rfl) (by rfl) ?_; dsimp only [List.set]) | (refine Ex.pfo hA 2 rfl rfl rfl (by rfl) (by rfl) (by rfl) ?_; dsimp only [List.set]) | (refine Ex.pfo hA 3 rfl rfl rfl (by rfl) (by rfl) (by rfl) ?_; dsimp only [List.set]) | (refine Ex.pfo hA 4 rfl rfl rfl (by rfl) (by rfl) (by rfl) ?_; dsimp only [List.set]) | (refine Ex.pfo hA 5 rfl rfl rfl (by rfl) (by rfl) (by rfl) ?_; dsimp only [List.set]) | (refine Ex.pfo hA 6 rfl rfl rfl (by rfl) (by rfl) (by rfl) ?_; dsimp only [List.set])))
    refine Ex.ialN rfl (j := 0) rfl (by rw [ov_ne (by simp)]; assumption) (by omega) (by omega) ?_
    (repeat (first | refine Ex.go rfl rfl ?_ | refine Ex.gf rfl rfl (ov_get hA 0 rfl) (by rfl) (by rfl) ?_ | refine Ex.gf rfl rfl (ov_get hA 1 rfl) (by rfl) (by rfl) ?_ | refine Ex.gf rfl rfl (ov_get hA 2 rfl) (by rfl) (by rfl) ?_ | refine Ex.gf rfl rfl (ov_get hA 3 rfl) (by rfl) (by rfl) ?_ | refine Ex.gf rfl rfl (ov_get hA 4 rfl) (by rfl) (by rfl) ?_ | refine Ex.gf rfl rfl (ov_get hA 5 rfl) (by rfl) (by rfl) ?_ | refine Ex.gf rfl rfl (ov_get hA 6 rfl) (by rfl) (by rfl) ?_ | (refine Ex.pfo hA 0 rfl rfl rfl (by rfl) (by rfl) (by rfl) ?_; dsimp only [List.set]) | (refine Ex.pfo hA 1 rfl rfl rfl (by rfl) (by rfl) (by rfl) ?_; dsimp only [List.set]) | (refine Ex.pfo hA 2 rfl rfl rfl (by rfl) (by rfl) (by rfl) ?_; dsimp only [List.set]) | (refine Ex.pfo hA 3 rfl rfl rfl (by rfl) (by rfl) (by rfl) ?_; dsimp only [List.set]) | (refine Ex.pfo hA 4 rfl rfl rfl (by rfl) (by rfl) (by rfl) ?_; dsimp only [List.set]) | (refine Ex.pfo hA 5 rfl rfl rfl (by rfl) (by rfl) (by rfl) ?_; dsimp only [List.set]) | (refine Ex.pfo hA 6 rfl rfl rfl (by rfl) (by rfl) (by rfl) ?_; dsimp only [List.set])))
    refine Ex.ret rfl rfl rfl ?_
    refine k _ (RT_mk (P := (osl lg E).length + 1) (td := nn 0) (A := (acl lg E).length + 0) (RU := (rsl lg E).length) (w := w) hc (VS := (vsl lg E).length) (pt := pt) (vl := vl) (pp := pp) (va := va) (pa := pa) (wa := wa) ?_ ?_ rfl rfl rfl rfl rfl) (FA.ov F1 (by simp))
    · unfold rF
      rw [← nI_1 (osl lg E).length]
      refine ⟨⟨(by first | exact ov_get hA 0 rfl | exact ov_get hA 1 rfl | exact ov_get hA 2 rfl | exact ov_get hA 3 rfl | exact ov_get hA 4 rfl | (rw [ov_ne (by simp)]; assumption)), rfl, rfl, rfl, rfl, rfl, rfl, rfl, rfl, rfl, rfl, rfl⟩, ⟨(by first | exact ov_get hA 0 rfl | exact ov_get hA 1 rfl | exact ov_get hA 2 rfl | exact ov_get hA 3 rfl | exact ov_get hA 4 rfl | (rw [ov_ne (by simp)]; assumption)), (by first | exact ov_get hA 0 rfl | exact ov_get hA 1 rfl | exact ov_get hA 2 rfl | exact ov_get hA 3 rfl | exact ov_get hA 4 rfl | (rw [ov_ne (by simp)]; assumption)), (by first | exact ov_get hA 0 rfl | exact ov_get hA 1 rfl | exact ov_get hA 2 rfl | exact ov_get hA 3 rfl | exact ov_get hA 4 rfl | (rw [ov_ne (by simp)]; assumption)), (by first | exact ov_get hA 0 rfl | exact ov_get hA 1 rfl | exact ov_get hA 2 rfl | exact ov_get hA 3 rfl | exact ov_get hA 4 rfl | (rw [ov_ne (by simp)]; assumption)), (by first | exact ov_get hA 0 rfl | exact ov_get hA 1 rfl | exact ov_get hA 2 rfl | exact ov_get hA 3 rfl | exact ov_get hA 4 rfl | (rw [ov_ne (by simp)]; assumption)), (by first | exact ov_get hA 0 rfl | exact ov_get hA 1 rfl | exact ov_get hA 2 rfl | exact ov_get hA 3 rfl | exact ov_get hA 4 rfl | (rw [ov_ne (by simp)]; assumption)), (by first | exact ov_get hA 0 rfl | exact ov_get hA 1 rfl | exact ov_get hA 2 rfl | exact ov_get hA 3 rfl | exact ov_get hA 4 rfl | (rw [ov_ne (by simp)]; assumption)), (by first | exact ov_get hA 0 rfl | exact ov_get hA 1 rfl | exact ov_get hA 2 rfl | exact ov_get hA 3 rfl | exact ov_get hA 4 rfl | (rw [ov_ne (by simp)]; assumption))⟩, hE, hV⟩
    · exact RI_N hI hz hc rfl (fun v _ => rfl) (fun z => absurd z (by omega)) (fun v _ => by rw [if_neg (by omega)]) (fun z => absurd z (by omega)) (fun z => absurd z (by omega)) (fun v p _ _ => rfl) (fun z => absurd z (by omega)) (fun v _ => by rw [if_neg (by omega)]) (fun z => absurd z (by omega)) (fun z => absurd z (by omega)) (fun v p _ _ => rfl) (fun z => absurd z (by omega)) (fun v _ => by rw [if_neg (by omega)]) (fun z => absurd z (by omega))
  | 3, hc => (repeat (first | exact nn2 rfl (by omega) (by omega) (by omega) (by omega) (by omega) | refine Ex.go rfl rfl ?_ | refine Ex.gf rfl rfl (by assumption) (by rfl) (by first | rfl | assumption) ?_))
  | 7, hc => (repeat (first | exact nn2 rfl (by omega) (by omega) (by omega) (by omega) (by omega) | refine Ex.go rfl rfl ?_ | refine Ex.gf rfl rfl (by assumption) (by rfl) (by first | rfl | assumption) ?_))
  | 9, hc => (repeat (first | exact nn2 rfl (by omega) (by omega) (by omega) (by omega) (by omega) | refine Ex.go rfl rfl ?_ | refine Ex.gf rfl rfl (by assumption) (by rfl) (by first | rfl | assumption) ?_))
  | 4, hc =>
    have k2 := same (by omega) (by omega) (by omega) (by omega) (by omega)
    (repeat (first | refine Ex.go rfl rfl ?_ | refine Ex.gf rfl rfl (by assumption) (by rfl) (by first | rfl | assumption) ?_))
    refine Ex.cv0 rfl rfl rfl (by assumption) (by rfl) (by decide) rfl ?_
    refine r_measured R' ?_
    (repeat (first | refine Ex.go rfl rfl ?_ | refine Ex.gf rfl rfl (by assumption) (by rfl) (by first | rfl | assumption) ?_))
    refine Ex.ret rfl rfl rfl ?_
    exact k2
  | 5, hc =>
    have k2 := same (by omega) (by omega) (by omega) (by omega) (by omega)
    (repeat (first | refine Ex.go rfl rfl ?_ | refine Ex.gf rfl rfl (by assumption) (by rfl) (by first | rfl | assumption) ?_))
    refine Ex.ret rfl rfl rfl ?_
    exact k2
  | 6, hc =>
    have k2 := same (by omega) (by omega) (by omega) (by omega) (by omega)
    (repeat (first | refine Ex.go rfl rfl ?_ | refine Ex.gf rfl rfl (by assumption) (by rfl) (by first | rfl | assumption) ?_))
    refine Ex.ret rfl rfl rfl ?_
    exact k2
  | 11, hc =>
    have hA : ap ([(364, cO 11 (rF (E + 1) fx (tdy lg E) ((acl lg E).length + 1) (osl lg E).length (vsl lg E).length (rsl lg E).length st sh shs w mn im tp rs))].map Prod.fst) G1.length := apG (as := [364]) (by decide) (by decide) hL1
    refine Ex.lay [(364, cO 11 (rF (E + 1) fx (tdy lg E) ((acl lg E).length + 1) (osl lg E).length (vsl lg E).length (rsl lg E).length st sh shs w mn im tp rs))] (lay1 q0) ?_
    (repeat (first | refine Ex.go rfl rfl ?_ | refine Ex.gf rfl rfl (ov_get hA 0 rfl) (by rfl) (by rfl) ?_ | refine Ex.gf rfl rfl (ov_get hA 1 rfl) (by rfl) (by rfl) ?_ | refine Ex.gf rfl rfl (ov_get hA 2 rfl) (by rfl) (by rfl) ?_ | refine Ex.gf rfl rfl (ov_get hA 3 rfl) (by rfl) (by rfl) ?_ | refine Ex.gf rfl rfl (ov_get hA 4 rfl) (by rfl) (by rfl) ?_ | refine Ex.gf rfl rfl (ov_get hA 5 rfl) (by rfl) (by rfl) ?_ | refine Ex.gf rfl rfl (ov_get hA 6 rfl) (by rfl) (by rfl) ?_ | (refine Ex.pfo hA 0 rfl rfl rfl (by rfl) (by rfl) (by rfl) ?_; dsimp only [List.set]) | (refine Ex.pfo hA 1 rfl rfl rfl (by rfl) (by rfl) (by rfl) ?_; dsimp only [List.set]) | (refine Ex.pfo hA 2 rfl rfl rfl (by rfl) (by rfl) (by rfl) ?_; dsimp only [List.set]) | (refine Ex.pfo hA 3 rfl rfl rfl (by rfl) (by rfl) (by rfl) ?_; dsimp only [List.set]) | (refine Ex.pfo hA 4 rfl rfl rfl (by rfl) (by rfl) (by rfl) ?_; dsimp only [List.set]) | (refine Ex.pfo hA 5 rfl rfl rfl (by rfl) (by rfl) (by rfl) ?_; dsimp only [List.set]) | (refine Ex.pfo hA 6 rfl rfl rfl (by rfl) (by rfl) (by rfl) ?_; dsimp only [List.set])))
    refine Ex.ret rfl rfl rfl ?_
    have e1 : nI (rsl lg E).length + 1 = nI ((rsl lg E).length + 1) := nI_1 _
    refine cast (congrArg (fun q => Q (some (.int q)) _) e1.symm) ?_
    refine k _ (RT_mk (P := (osl lg E).length) (td := tdy lg E) (A := (acl lg E).length + 1) (RU := (rsl lg E).length + 1) (w := w) hc (VS := (vsl lg E).length) (pt := pt) (vl := vl) (pp := pp) (va := va) (pa := pa) (wa := wa) ?_ ?_ rfl rfl rfl rfl rfl) (FA.ov F1 (by simp))
    · unfold rF
      rw [← nI_1 (rsl lg E).length]
      refine ⟨⟨(by first | exact ov_get hA 0 rfl | exact ov_get hA 1 rfl | exact ov_get hA 2 rfl | exact ov_get hA 3 rfl | exact ov_get hA 4 rfl | (rw [ov_ne (by simp)]; assumption)), rfl, rfl, rfl, rfl, rfl, rfl, rfl, rfl, rfl, rfl, rfl⟩, ⟨(by first | exact ov_get hA 0 rfl | exact ov_get hA 1 rfl | exact ov_get hA 2 rfl | exact ov_get hA 3 rfl | exact ov_get hA 4 rfl | (rw [ov_ne (by simp)]; assumption)), (by first | exact ov_get hA 0 rfl | exact ov_get hA 1 rfl | exact ov_get hA 2 rfl | exact ov_get hA 3 rfl | exact ov_get hA 4 rfl | (rw [ov_ne (by simp)]; assumption)), (by first | exact ov_get hA 0 rfl | exact ov_get hA 1 rfl | exact ov_get hA 2 rfl | exact ov_get hA 3 rfl | exact ov_get hA 4 rfl | (rw [ov_ne (by simp)]; assumption)), (by first | exact ov_get hA 0 rfl | exact ov_get hA 1 rfl | exact ov_get hA 2 rfl | exact ov_get hA 3 rfl | exact ov_get hA 4 rfl | (rw [ov_ne (by simp)]; assumption)), (by first | exact ov_get hA 0 rfl | exact ov_get hA 1 rfl | exact ov_get hA 2 rfl | exact ov_get hA 3 rfl | exact ov_get hA 4 rfl | (rw [ov_ne (by simp)]; assumption)), (by first | exact ov_get hA 0 rfl | exact ov_get hA 1 rfl | exact ov_get hA 2 rfl | exact ov_get hA 3 rfl | exact ov_get hA 4 rfl | (rw [ov_ne (by simp)]; assumption)), (by first | exact ov_get hA 0 rfl | exact ov_get hA 1 rfl | exact ov_get hA 2 rfl | exact ov_get hA 3 rfl | exact ov_get hA 4 rfl | (rw [ov_ne (by simp)]; assumption)), (by first | exact ov_get hA 0 rfl | exact ov_get hA 1 rfl | exact ov_get hA 2 rfl | exact ov_get hA 3 rfl | exact ov_get hA 4 rfl | (rw [ov_ne (by simp)]; assumption))⟩, hE, hV⟩
    · exact RI_N hI hz hc rfl (fun v _ => rfl) (fun z => absurd z (by omega)) (fun v _ => by rw [if_neg (by omega)]) (fun z => absurd z (by omega)) (fun z => absurd z (by omega)) (fun v p _ _ => rfl) (fun z => absurd z (by omega)) (fun v _ => by rw [if_neg (by omega)]) (fun z => absurd z (by omega)) (fun z => absurd z (by omega)) (fun v p _ _ => rfl) (fun z => absurd z (by omega)) (fun v _ => by rw [if_neg (by omega)]) (fun z => absurd z (by omega))
  | 1, hc =>
    have hVS := ok1 rfl
    have hA : ap ([(364, cO 11 (rF (E + 1) fx (tdy lg E) ((acl lg E).length + 1) (osl lg E).length (vsl lg E).length (rsl lg E).length st sh shs w mn im tp rs)), (367, cI 30 pt), (368, cI 30 vl), (369, cI 30 pp), (370, cI 30 va)].map Prod.fst) G1.length := apG (as := [364, 367, 368, 369, 370]) (by decide) (by decide) hL1
    refine Ex.lay [(364, cO 11 (rF (E + 1) fx (tdy lg E) ((acl lg E).length + 1) (osl lg E).length (vsl lg E).length (rsl lg E).length st sh shs w mn im tp rs)), (367, cI 30 pt), (368, cI 30 vl), (369, cI 30 pp), (370, cI 30 va)] (by simp only [List.forall_mem_cons]; exact ⟨q0, b1, b2, b3, b4, fun _ z => absurd z List.not_mem_nil⟩) ?_
    (repeat (first | refine Ex.go rfl rfl ?_ | refine Ex.gf rfl rfl (ov_get hA 0 rfl) (by rfl) (by rfl) ?_ | refine Ex.gf rfl rfl (ov_get hA 1 rfl) (by rfl) (by rfl) ?_ | refine Ex.gf rfl rfl (ov_get hA 2 rfl) (by rfl) (by rfl) ?_ | refine Ex.gf rfl rfl (ov_get hA 3 rfl) (by rfl) (by rfl) ?_ | refine Ex.gf rfl rfl (ov_get hA 4 rfl) (by rfl) (by rfl) ?_ | refine Ex.gf rfl rfl (ov_get hA 5 rfl) (by rfl) (by rfl) ?_ | refine Ex.gf rfl rfl (ov_get hA 6 rfl) (by rfl) (by rfl) ?_ | (refine Ex.pfo hA 0 rfl rfl rfl (by rfl) (by rfl) (by rfl) ?_; dsimp only [List.set]) | (refine Ex.pfo hA 1 rfl rfl rfl (by rfl) (by rfl) (by rfl) ?_; dsimp only [List.set]) | (refine Ex.pfo hA 2 rfl rfl rfl (by rfl) (by rfl) (by rfl) ?_; dsimp only [List.set]) | (refine Ex.pfo hA 3 rfl rfl rfl (by rfl) (by rfl) (by rfl) ?_; dsimp only [List.set]) | (refine Ex.pfo hA 4 rfl rfl rfl (by rfl) (by rfl) (by rfl) ?_; dsimp only [List.set]) | (refine Ex.pfo hA 5 rfl rfl rfl (by rfl) (by rfl) (by rfl) ?_; dsimp only [List.set]) | (refine Ex.pfo hA 6 rfl rfl rfl (by rfl) (by rfl) (by rfl) ?_; dsimp only [List.set])))
    refine Ex.iaso hA 4 rfl (j := (vsl lg E).length) rfl rfl (by omega) (by omega) ?_
    dsimp only [List.set]
    (repeat (first | refine Ex.go rfl rfl ?_ | refine Ex.gf rfl rfl (ov_get hA 0 rfl) (by rfl) (by rfl) ?_ | refine Ex.gf rfl rfl (ov_get hA 1 rfl) (by rfl) (by rfl) ?_ | refine Ex.gf rfl rfl (ov_get hA 2 rfl) (by rfl) (by rfl) ?_ | refine Ex.gf rfl rfl (ov_get hA 3 rfl) (by rfl) (by rfl) ?_ | refine Ex.gf rfl rfl (ov_get hA 4 rfl) (by rfl) (by rfl) ?_ | refine Ex.gf rfl rfl (ov_get hA 5 rfl) (by rfl) (by rfl) ?_ | refine Ex.gf rfl rfl (ov_get hA 6 rfl) (by rfl) (by rfl) ?_ | (refine Ex.pfo hA 0 rfl rfl rfl (by rfl) (by rfl) (by rfl) ?_; dsimp only [List.set]) | (refine Ex.pfo hA 1 rfl rfl rfl (by rfl) (by rfl) (by rfl) ?_; dsimp only [List.set]) | (refine Ex.pfo hA 2 rfl rfl rfl (by rfl) (by rfl) (by rfl) ?_; dsimp only [List.set]) | (refine Ex.pfo hA 3 rfl rfl rfl (by rfl) (by rfl) (by rfl) ?_; dsimp only [List.set]) | (refine Ex.pfo hA 4 rfl rfl rfl (by rfl) (by rfl) (by rfl) ?_; dsimp only [List.set]) | (refine Ex.pfo hA 5 rfl rfl rfl (by rfl) (by rfl) (by rfl) ?_; dsimp only [List.set]) | (refine Ex.pfo hA 6 rfl rfl rfl (by rfl) (by rfl) (by rfl) ?_; dsimp only [List.set])))
    refine Ex.iaso hA 1 rfl (j := (vsl lg E).length) rfl rfl (by omega) (by omega) ?_
    dsimp only [List.set]
    (repeat (first | refine Ex.go rfl rfl ?_ | refine Ex.gf rfl rfl (ov_get hA 0 rfl) (by rfl) (by rfl) ?_ | refine Ex.gf rfl rfl (ov_get hA 1 rfl) (by rfl) (by rfl) ?_ | refine Ex.gf rfl rfl (ov_get hA 2 rfl) (by rfl) (by rfl) ?_ | refine Ex.gf rfl rfl (ov_get hA 3 rfl) (by rfl) (by rfl) ?_ | refine Ex.gf rfl rfl (ov_get hA 4 rfl) (by rfl) (by rfl) ?_ | refine Ex.gf rfl rfl (ov_get hA 5 rfl) (by rfl) (by rfl) ?_ | refine Ex.gf rfl rfl (ov_get hA 6 rfl) (by rfl) (by rfl) ?_ | (refine Ex.pfo hA 0 rfl rfl rfl (by rfl) (by rfl) (by rfl) ?_; dsimp only [List.set]) | (refine Ex.pfo hA 1 rfl rfl rfl (by rfl) (by rfl) (by rfl) ?_; dsimp only [List.set]) | (refine Ex.pfo hA 2 rfl rfl rfl (by rfl) (by rfl) (by rfl) ?_; dsimp only [List.set]) | (refine Ex.pfo hA 3 rfl rfl rfl (by rfl) (by rfl) (by rfl) ?_; dsimp only [List.set]) | (refine Ex.pfo hA 4 rfl rfl rfl (by rfl) (by rfl) (by rfl) ?_; dsimp only [List.set]) | (refine Ex.pfo hA 5 rfl rfl rfl (by rfl) (by rfl) (by rfl) ?_; dsimp only [List.set]) | (refine Ex.pfo hA 6 rfl rfl rfl (by rfl) (by rfl) (by rfl) ?_; dsimp only [List.set])))
    refine Ex.iaso hA 2 rfl (j := (vsl lg E).length) rfl rfl (by omega) (by omega) ?_
    dsimp only [List.set]
    (repeat (first | refine Ex.go rfl rfl ?_ | refine Ex.gf rfl rfl (ov_get hA 0 rfl) (by rfl) (by rfl) ?_ | refine Ex.gf rfl rfl (ov_get hA 1 rfl) (by rfl) (by rfl) ?_ | refine Ex.gf rfl rfl (ov_get hA 2 rfl) (by rfl) (by rfl) ?_ | refine Ex.gf rfl rfl (ov_get hA 3 rfl) (by rfl) (by rfl) ?_ | refine Ex.gf rfl rfl (ov_get hA 4 rfl) (by rfl) (by rfl) ?_ | refine Ex.gf rfl rfl (ov_get hA 5 rfl) (by rfl) (by rfl) ?_ | refine Ex.gf rfl rfl (ov_get hA 6 rfl) (by rfl) (by rfl) ?_ | (refine Ex.pfo hA 0 rfl rfl rfl (by rfl) (by rfl) (by rfl) ?_; dsimp only [List.set]) | (refine Ex.pfo hA 1 rfl rfl rfl (by rfl) (by rfl) (by rfl) ?_; dsimp only [List.set]) | (refine Ex.pfo hA 2 rfl rfl rfl (by rfl) (by rfl) (by rfl) ?_; dsimp only [List.set]) | (refine Ex.pfo hA 3 rfl rfl rfl (by rfl) (by rfl) (by rfl) ?_; dsimp only [List.set]) | (refine Ex.pfo hA 4 rfl rfl rfl (by rfl) (by rfl) (by rfl) ?_; dsimp only [List.set]) | (refine Ex.pfo hA 5 rfl rfl rfl (by rfl) (by rfl) (by rfl) ?_; dsimp only [List.set]) | (refine Ex.pfo hA 6 rfl rfl rfl (by rfl) (by rfl) (by rfl) ?_; dsimp only [List.set])))
    refine Ex.iaso hA 3 rfl (j := (vsl lg E).length) rfl rfl (by omega) (by omega) ?_
    dsimp only [List.set]
    (repeat (first | refine Ex.go rfl rfl ?_ | refine Ex.gf rfl rfl (ov_get hA 0 rfl) (by rfl) (by rfl) ?_ | refine Ex.gf rfl rfl (ov_get hA 1 rfl) (by rfl) (by rfl) ?_ | refine Ex.gf rfl rfl (ov_get hA 2 rfl) (by rfl) (by rfl) ?_ | refine Ex.gf rfl rfl (ov_get hA 3 rfl) (by rfl) (by rfl) ?_ | refine Ex.gf rfl rfl (ov_get hA 4 rfl) (by rfl) (by rfl) ?_ | refine Ex.gf rfl rfl (ov_get hA 5 rfl) (by rfl) (by rfl) ?_ | refine Ex.gf rfl rfl (ov_get hA 6 rfl) (by rfl) (by rfl) ?_ | (refine Ex.pfo hA 0 rfl rfl rfl (by rfl) (by rfl) (by rfl) ?_; dsimp only [List.set]) | (refine Ex.pfo hA 1 rfl rfl rfl (by rfl) (by rfl) (by rfl) ?_; dsimp only [List.set]) | (refine Ex.pfo hA 2 rfl rfl rfl (by rfl) (by rfl) (by rfl) ?_; dsimp only [List.set]) | (refine Ex.pfo hA 3 rfl rfl rfl (by rfl) (by rfl) (by rfl) ?_; dsimp only [List.set]) | (refine Ex.pfo hA 4 rfl rfl rfl (by rfl) (by rfl) (by rfl) ?_; dsimp only [List.set]) | (refine Ex.pfo hA 5 rfl rfl rfl (by rfl) (by rfl) (by rfl) ?_; dsimp only [List.set]) | (refine Ex.pfo hA 6 rfl rfl rfl (by rfl) (by rfl) (by rfl) ?_; dsimp only [List.set])))
    refine Ex.ret rfl rfl rfl ?_
    have e1 : nI (vsl lg E).length + 1 - 1 = nI (vsl lg E).length := by rw [nI_1, nI_pred]
    refine cast (congrArg (fun q => Q (some (.int q)) _) e1.symm) ?_
    refine k _ (RT_mk (P := (osl lg E).length) (td := tdy lg E) (A := (acl lg E).length + 1) (RU := (rsl lg E).length) (w := w) hc (VS := (vsl lg E).length + 1) (pt := upd pt (vsl lg E).length 0) (vl := upd vl (vsl lg E).length 0) (pp := upd pp (vsl lg E).length 0) (va := upd va (vsl lg E).length (nI (E + 1) - 1)) (pa := pa) (wa := wa) ?_ ?_ rfl rfl rfl rfl rfl) (FA.ov F1 (by simp))
    · unfold rF
      rw [← nI_1 (vsl lg E).length]
      refine ⟨⟨(by first | exact ov_get hA 0 rfl | exact ov_get hA 1 rfl | exact ov_get hA 2 rfl | exact ov_get hA 3 rfl | exact ov_get hA 4 rfl | (rw [ov_ne (by simp)]; assumption)), rfl, rfl, rfl, by rw [nI_1]; rfl, rfl, rfl, rfl, rfl, rfl, rfl, rfl⟩, ⟨(by first | exact ov_get hA 0 rfl | exact ov_get hA 1 rfl | exact ov_get hA 2 rfl | exact ov_get hA 3 rfl | exact ov_get hA 4 rfl | (rw [ov_ne (by simp)]; assumption)), (by first | exact ov_get hA 0 rfl | exact ov_get hA 1 rfl | exact ov_get hA 2 rfl | exact ov_get hA 3 rfl | exact ov_get hA 4 rfl | (rw [ov_ne (by simp)]; assumption)), (by first | exact ov_get hA 0 rfl | exact ov_get hA 1 rfl | exact ov_get hA 2 rfl | exact ov_get hA 3 rfl | exact ov_get hA 4 rfl | (rw [ov_ne (by simp)]; assumption)), (by first | exact ov_get hA 0 rfl | exact ov_get hA 1 rfl | exact ov_get hA 2 rfl | exact ov_get hA 3 rfl | exact ov_get hA 4 rfl | (rw [ov_ne (by simp)]; assumption)), (by first | exact ov_get hA 0 rfl | exact ov_get hA 1 rfl | exact ov_get hA 2 rfl | exact ov_get hA 3 rfl | exact ov_get hA 4 rfl | (rw [ov_ne (by simp)]; assumption)), (by first | exact ov_get hA 0 rfl | exact ov_get hA 1 rfl | exact ov_get hA 2 rfl | exact ov_get hA 3 rfl | exact ov_get hA 4 rfl | (rw [ov_ne (by simp)]; assumption)), (by first | exact ov_get hA 0 rfl | exact ov_get hA 1 rfl | exact ov_get hA 2 rfl | exact ov_get hA 3 rfl | exact ov_get hA 4 rfl | (rw [ov_ne (by simp)]; assumption)), (by first | exact ov_get hA 0 rfl | exact ov_get hA 1 rfl | exact ov_get hA 2 rfl | exact ov_get hA 3 rfl | exact ov_get hA 4 rfl | (rw [ov_ne (by simp)]; assumption))⟩, hE, by omega⟩
    · exact RI_N hI hz hc rfl (fun v hv => pk_un (by omega)) (fun _ => pk_us.trans (nI_pred E)) (fun v hv => by rw [if_neg (by omega)]; exact pk_un (by omega)) (fun z => pk_us) (fun z => absurd z (by omega)) (fun v p _ _ => rfl) (fun z => absurd z (by omega)) (fun v hv => by rw [if_neg (by omega)]; exact pk_un (by omega)) (fun z => pk_us) (fun z => absurd z (by omega)) (fun v p _ _ => rfl) (fun z => absurd z (by omega)) (fun v hv => by rw [if_neg (by omega)]; exact pk_un (by omega)) (fun z => pk_us)
  | 2, hc =>
    obtain ⟨v, hv, e0, o2, -⟩ := ok2 (by omega) (by omega)
    have o2 := o2 rfl
    obtain ⟨p1, p2⟩ := hI.hp v hv
    have hA : ap ([(367, cI 30 pt), (371, cI 720 pa)].map Prod.fst) G1.length := apG (as := [367, 371]) (by decide) (by decide) hL1
    have eu : ∀ u, nn 0 = nI u → u < (vsl lg E).length → u = v := fun u hu hu2 => (nI_eq (by omega) (by omega)).mp (hu.symm.trans e0)
    rw [e0]
    (repeat (first | refine Ex.go rfl rfl ?_ | refine Ex.gf rfl rfl (by assumption) (by rfl) (by first | rfl | assumption) ?_))
    refine Ex.ialN rfl (j := v) rfl b1 (by omega) (by omega) ?_
    rw [p1]
    (repeat (first | refine Ex.go rfl rfl ?_ | refine Ex.gf rfl rfl (by assumption) (by rfl) (by first | rfl | assumption) ?_))
    refine Ex.lay [(367, cI 30 pt), (371, cI 720 pa)] (by simp only [List.forall_mem_cons]; exact ⟨b1, b5, fun _ z => absurd z List.not_mem_nil⟩) ?_
    refine Ex.iaso hA 1 rfl (show nI 24 * nI v + nI (psl lg E v).length = nI (24 * v + (psl lg E v).length) by rw [pk_mul, nI_add]) rfl (by omega) (by omega) ?_
    dsimp only [List.set]
    have OG : ∀ L : List (Nat × bo_C), 364 ∉ L.map Prod.fst → (ov G1 L)[364]? = G1[364]? := fun L h => ov_ne h
    refine Ex.go rfl rfl ?_
    refine Ex.gf rfl rfl ((OG _ (by simp)).trans q0) (by rfl) (by rfl) ?_
    (repeat (first | refine Ex.go rfl rfl ?_ | refine Ex.gf rfl rfl (ov_get hA 0 rfl) (by rfl) (by rfl) ?_ | refine Ex.gf rfl rfl (ov_get hA 1 rfl) (by rfl) (by rfl) ?_ | refine Ex.gf rfl rfl (ov_get hA 2 rfl) (by rfl) (by rfl) ?_ | refine Ex.gf rfl rfl (ov_get hA 3 rfl) (by rfl) (by rfl) ?_ | refine Ex.gf rfl rfl (ov_get hA 4 rfl) (by rfl) (by rfl) ?_ | refine Ex.gf rfl rfl (ov_get hA 5 rfl) (by rfl) (by rfl) ?_ | refine Ex.gf rfl rfl (ov_get hA 6 rfl) (by rfl) (by rfl) ?_ | (refine Ex.pfo hA 0 rfl rfl rfl (by rfl) (by rfl) (by rfl) ?_; dsimp only [List.set]) | (refine Ex.pfo hA 1 rfl rfl rfl (by rfl) (by rfl) (by rfl) ?_; dsimp only [List.set]) | (refine Ex.pfo hA 2 rfl rfl rfl (by rfl) (by rfl) (by rfl) ?_; dsimp only [List.set]) | (refine Ex.pfo hA 3 rfl rfl rfl (by rfl) (by rfl) (by rfl) ?_; dsimp only [List.set]) | (refine Ex.pfo hA 4 rfl rfl rfl (by rfl) (by rfl) (by rfl) ?_; dsimp only [List.set]) | (refine Ex.pfo hA 5 rfl rfl rfl (by rfl) (by rfl) (by rfl) ?_; dsimp only [List.set]) | (refine Ex.pfo hA 6 rfl rfl rfl (by rfl) (by rfl) (by rfl) ?_; dsimp only [List.set])))
    refine Ex.ialo hA 0 rfl (j := v) rfl rfl (by omega) (by omega) ?_
    (repeat (first | refine Ex.go rfl rfl ?_ | refine Ex.gf rfl rfl (ov_get hA 0 rfl) (by rfl) (by rfl) ?_ | refine Ex.gf rfl rfl (ov_get hA 1 rfl) (by rfl) (by rfl) ?_ | refine Ex.gf rfl rfl (ov_get hA 2 rfl) (by rfl) (by rfl) ?_ | refine Ex.gf rfl rfl (ov_get hA 3 rfl) (by rfl) (by rfl) ?_ | refine Ex.gf rfl rfl (ov_get hA 4 rfl) (by rfl) (by rfl) ?_ | refine Ex.gf rfl rfl (ov_get hA 5 rfl) (by rfl) (by rfl) ?_ | refine Ex.gf rfl rfl (ov_get hA 6 rfl) (by rfl) (by rfl) ?_ | (refine Ex.pfo hA 0 rfl rfl rfl (by rfl) (by rfl) (by rfl) ?_; dsimp only [List.set]) | (refine Ex.pfo hA 1 rfl rfl rfl (by rfl) (by rfl) (by rfl) ?_; dsimp only [List.set]) | (refine Ex.pfo hA 2 rfl rfl rfl (by rfl) (by rfl) (by rfl) ?_; dsimp only [List.set]) | (refine Ex.pfo hA 3 rfl rfl rfl (by rfl) (by rfl) (by rfl) ?_; dsimp only [List.set]) | (refine Ex.pfo hA 4 rfl rfl rfl (by rfl) (by rfl) (by rfl) ?_; dsimp only [List.set]) | (refine Ex.pfo hA 5 rfl rfl rfl (by rfl) (by rfl) (by rfl) ?_; dsimp only [List.set]) | (refine Ex.pfo hA 6 rfl rfl rfl (by rfl) (by rfl) (by rfl) ?_; dsimp only [List.set])))
    refine Ex.iaso hA 0 rfl (j := v) rfl rfl (by omega) (by omega) ?_
    dsimp only [List.set]
    refine Ex.go rfl rfl ?_
    refine Ex.gf rfl rfl ((OG _ (by simp)).trans q0) (by rfl) (by rfl) ?_
    (repeat (first | refine Ex.go rfl rfl ?_ | refine Ex.gf rfl rfl (ov_get hA 0 rfl) (by rfl) (by rfl) ?_ | refine Ex.gf rfl rfl (ov_get hA 1 rfl) (by rfl) (by rfl) ?_ | refine Ex.gf rfl rfl (ov_get hA 2 rfl) (by rfl) (by rfl) ?_ | refine Ex.gf rfl rfl (ov_get hA 3 rfl) (by rfl) (by rfl) ?_ | refine Ex.gf rfl rfl (ov_get hA 4 rfl) (by rfl) (by rfl) ?_ | refine Ex.gf rfl rfl (ov_get hA 5 rfl) (by rfl) (by rfl) ?_ | refine Ex.gf rfl rfl (ov_get hA 6 rfl) (by rfl) (by rfl) ?_ | (refine Ex.pfo hA 0 rfl rfl rfl (by rfl) (by rfl) (by rfl) ?_; dsimp only [List.set]) | (refine Ex.pfo hA 1 rfl rfl rfl (by rfl) (by rfl) (by rfl) ?_; dsimp only [List.set]) | (refine Ex.pfo hA 2 rfl rfl rfl (by rfl) (by rfl) (by rfl) ?_; dsimp only [List.set]) | (refine Ex.pfo hA 3 rfl rfl rfl (by rfl) (by rfl) (by rfl) ?_; dsimp only [List.set]) | (refine Ex.pfo hA 4 rfl rfl rfl (by rfl) (by rfl) (by rfl) ?_; dsimp only [List.set]) | (refine Ex.pfo hA 5 rfl rfl rfl (by rfl) (by rfl) (by rfl) ?_; dsimp only [List.set]) | (refine Ex.pfo hA 6 rfl rfl rfl (by rfl) (by rfl) (by rfl) ?_; dsimp only [List.set])))
    refine Ex.ialo hA 0 rfl (j := v) rfl rfl (by omega) (by omega) ?_
    rw [pk_us, p1]
    (repeat (first | refine Ex.go rfl rfl ?_ | refine Ex.gf rfl rfl (ov_get hA 0 rfl) (by rfl) (by rfl) ?_ | refine Ex.gf rfl rfl (ov_get hA 1 rfl) (by rfl) (by rfl) ?_ | refine Ex.gf rfl rfl (ov_get hA 2 rfl) (by rfl) (by rfl) ?_ | refine Ex.gf rfl rfl (ov_get hA 3 rfl) (by rfl) (by rfl) ?_ | refine Ex.gf rfl rfl (ov_get hA 4 rfl) (by rfl) (by rfl) ?_ | refine Ex.gf rfl rfl (ov_get hA 5 rfl) (by rfl) (by rfl) ?_ | refine Ex.gf rfl rfl (ov_get hA 6 rfl) (by rfl) (by rfl) ?_ | (refine Ex.pfo hA 0 rfl rfl rfl (by rfl) (by rfl) (by rfl) ?_; dsimp only [List.set]) | (refine Ex.pfo hA 1 rfl rfl rfl (by rfl) (by rfl) (by rfl) ?_; dsimp only [List.set]) | (refine Ex.pfo hA 2 rfl rfl rfl (by rfl) (by rfl) (by rfl) ?_; dsimp only [List.set]) | (refine Ex.pfo hA 3 rfl rfl rfl (by rfl) (by rfl) (by rfl) ?_; dsimp only [List.set]) | (refine Ex.pfo hA 4 rfl rfl rfl (by rfl) (by rfl) (by rfl) ?_; dsimp only [List.set]) | (refine Ex.pfo hA 5 rfl rfl rfl (by rfl) (by rfl) (by rfl) ?_; dsimp only [List.set]) | (refine Ex.pfo hA 6 rfl rfl rfl (by rfl) (by rfl) (by rfl) ?_; dsimp only [List.set])))
    refine Ex.ret rfl rfl rfl ?_
    have e1 : nI (psl lg E v).length + 1 - 1 = ansI lg E 2 nn := by
      show _ = nI (psl lg E (nn 0).toNatClampNeg).length
      rw [nI_1, nI_pred, e0, nI_clamp (by omega)]
    refine cast (congrArg (fun q => Q (some (.int q)) _) e1.symm) ?_
    refine k _ (RT_mk (P := (osl lg E).length) (td := tdy lg E) (A := (acl lg E).length + 1) (RU := (rsl lg E).length) (w := w) hc (VS := (vsl lg E).length) (pt := upd pt v (nI (psl lg E v).length + 1)) (vl := vl) (pp := pp) (va := va) (pa := upd pa (24 * v + (psl lg E v).length) (nI (E + 1) - 1)) (wa := wa) ?_ ?_ rfl rfl rfl rfl rfl) (FA.ov F1 (by simp))
    · rw [← p1]
      refine ⟨⟨(by first | exact ov_get hA 0 rfl | exact ov_get hA 1 rfl | exact ov_get hA 2 rfl | exact ov_get hA 3 rfl | exact ov_get hA 4 rfl | (rw [ov_ne (by simp)]; assumption)), rfl, rfl, rfl, rfl, rfl, rfl, rfl, rfl, rfl, rfl, rfl⟩, ⟨(by first | exact ov_get hA 0 rfl | exact ov_get hA 1 rfl | exact ov_get hA 2 rfl | exact ov_get hA 3 rfl | exact ov_get hA 4 rfl | (rw [ov_ne (by simp)]; assumption)), (by first | exact ov_get hA 0 rfl | exact ov_get hA 1 rfl | exact ov_get hA 2 rfl | exact ov_get hA 3 rfl | exact ov_get hA 4 rfl | (rw [ov_ne (by simp)]; assumption)), (by first | exact ov_get hA 0 rfl | exact ov_get hA 1 rfl | exact ov_get hA 2 rfl | exact ov_get hA 3 rfl | exact ov_get hA 4 rfl | (rw [ov_ne (by simp)]; assumption)), (by first | exact ov_get hA 0 rfl | exact ov_get hA 1 rfl | exact ov_get hA 2 rfl | exact ov_get hA 3 rfl | exact ov_get hA 4 rfl | (rw [ov_ne (by simp)]; assumption)), (by first | exact ov_get hA 0 rfl | exact ov_get hA 1 rfl | exact ov_get hA 2 rfl | exact ov_get hA 3 rfl | exact ov_get hA 4 rfl | (rw [ov_ne (by simp)]; assumption)), (by first | exact ov_get hA 0 rfl | exact ov_get hA 1 rfl | exact ov_get hA 2 rfl | exact ov_get hA 3 rfl | exact ov_get hA 4 rfl | (rw [ov_ne (by simp)]; assumption)), (by first | exact ov_get hA 0 rfl | exact ov_get hA 1 rfl | exact ov_get hA 2 rfl | exact ov_get hA 3 rfl | exact ov_get hA 4 rfl | (rw [ov_ne (by simp)]; assumption)), (by first | exact ov_get hA 0 rfl | exact ov_get hA 1 rfl | exact ov_get hA 2 rfl | exact ov_get hA 3 rfl | exact ov_get hA 4 rfl | (rw [ov_ne (by simp)]; assumption))⟩, hE, hV⟩
    · refine RI_N hI hz hc rfl (fun v hv => rfl) (fun z => absurd z (by omega)) (fun u hu => ?_) (fun z => absurd z (by omega)) (fun _ u hu hn => by rw [eu u hn hu]; exact o2) (fun u p hu hp => pk_un ?_) (fun _ u hu hn => by rw [eu u hn hu]; exact pk_us.trans (nI_pred E)) (fun v _ => by rw [if_neg (by omega)]) (fun z => absurd z (by omega)) (fun z => absurd z (by omega)) (fun v p _ _ => rfl) (fun z => absurd z (by omega)) (fun v _ => by rw [if_neg (by omega)]) (fun z => absurd z (by omega))
      · by_cases hn : nn 0 = nI u
        · rw [if_pos ⟨rfl, hn⟩, eu u hn hu, pk_us, p1]
        · rw [if_neg (fun z => hn z.2)]
          exact pk_un (fun z => hn (by rw [z]; exact e0))
      · have hp3 := (hI.hp u hu).2
        intro z
        have : u = v := by omega
        subst this
        omega
  | 8, hc =>
    obtain ⟨v, hv, e0, -, o2⟩ := ok2 (by omega) (by omega)
    have o2 := o2 rfl
    obtain ⟨p1, p2⟩ := hI.hw v hv
    have hA : ap ([(368, cI 30 vl), (372, cI 180 wa)].map Prod.fst) G1.length := apG (as := [368, 372]) (by decide) (by decide) hL1
    have eu : ∀ u, nn 0 = nI u → u < (vsl lg E).length → u = v := fun u hu hu2 => (nI_eq (by omega) (by omega)).mp (hu.symm.trans e0)
    rw [e0]
    (repeat (first | refine Ex.go rfl rfl ?_ | refine Ex.gf rfl rfl (by assumption) (by rfl) (by first | rfl | assumption) ?_))
    refine Ex.ialN rfl (j := v) rfl b2 (by omega) (by omega) ?_
    rw [p1]
    (repeat (first | refine Ex.go rfl rfl ?_ | refine Ex.gf rfl rfl (by assumption) (by rfl) (by first | rfl | assumption) ?_))
    refine Ex.lay [(368, cI 30 vl), (372, cI 180 wa)] (by simp only [List.forall_mem_cons]; exact ⟨b2, b6, fun _ z => absurd z List.not_mem_nil⟩) ?_
    refine Ex.iaso hA 1 rfl (show nI 6 * nI v + nI (wsl lg E v).length = nI (6 * v + (wsl lg E v).length) by rw [pk_mul, nI_add]) rfl (by omega) (by omega) ?_
    dsimp only [List.set]
    have OG : ∀ L : List (Nat × bo_C), 364 ∉ L.map Prod.fst → (ov G1 L)[364]? = G1[364]? := fun L h => ov_ne h
    refine Ex.go rfl rfl ?_
    refine Ex.gf rfl rfl ((OG _ (by simp)).trans q0) (by rfl) (by rfl) ?_
    (repeat (first | refine Ex.go rfl rfl ?_ | refine Ex.gf rfl rfl (ov_get hA 0 rfl) (by rfl) (by rfl) ?_ | refine Ex.gf rfl rfl (ov_get hA 1 rfl) (by rfl) (by rfl) ?_ | refine Ex.gf rfl rfl (ov_get hA 2 rfl) (by rfl) (by rfl) ?_ | refine Ex.gf rfl rfl (ov_get hA 3 rfl) (by rfl) (by rfl) ?_ | refine Ex.gf rfl rfl (ov_get hA 4 rfl) (by rfl) (by rfl) ?_ | refine Ex.gf rfl rfl (ov_get hA 5 rfl) (by rfl) (by rfl) ?_ | refine Ex.gf rfl rfl (ov_get hA 6 rfl) (by rfl) (by rfl) ?_ | (refine Ex.pfo hA 0 rfl rfl rfl (by rfl) (by rfl) (by rfl) ?_; dsimp only [List.set]) | (refine Ex.pfo hA 1 rfl rfl rfl (by rfl) (by rfl) (by rfl) ?_; dsimp only [List.set]) | (refine Ex.pfo hA 2 rfl rfl rfl (by rfl) (by rfl) (by rfl) ?_; dsimp only [List.set]) | (refine Ex.pfo hA 3 rfl rfl rfl (by rfl) (by rfl) (by rfl) ?_; dsimp only [List.set]) | (refine Ex.pfo hA 4 rfl rfl rfl (by rfl) (by rfl) (by rfl) ?_; dsimp only [List.set]) | (refine Ex.pfo hA 5 rfl rfl rfl (by rfl) (by rfl) (by rfl) ?_; dsimp only [List.set]) | (refine Ex.pfo hA 6 rfl rfl rfl (by rfl) (by rfl) (by rfl) ?_; dsimp only [List.set])))
    refine Ex.ialo hA 0 rfl (j := v) rfl rfl (by omega) (by omega) ?_
    (repeat (first | refine Ex.go rfl rfl ?_ | refine Ex.gf rfl rfl (ov_get hA 0 rfl) (by rfl) (by rfl) ?_ | refine Ex.gf rfl rfl (ov_get hA 1 rfl) (by rfl) (by rfl) ?_ | refine Ex.gf rfl rfl (ov_get hA 2 rfl) (by rfl) (by rfl) ?_ | refine Ex.gf rfl rfl (ov_get hA 3 rfl) (by rfl) (by rfl) ?_ | refine Ex.gf rfl rfl (ov_get hA 4 rfl) (by rfl) (by rfl) ?_ | refine Ex.gf rfl rfl (ov_get hA 5 rfl) (by rfl) (by rfl) ?_ | refine Ex.gf rfl rfl (ov_get hA 6 rfl) (by rfl) (by rfl) ?_ | (refine Ex.pfo hA 0 rfl rfl rfl (by rfl) (by rfl) (by rfl) ?_; dsimp only [List.set]) | (refine Ex.pfo hA 1 rfl rfl rfl (by rfl) (by rfl) (by rfl) ?_; dsimp only [List.set]) | (refine Ex.pfo hA 2 rfl rfl rfl (by rfl) (by rfl) (by rfl) ?_; dsimp only [List.set]) | (refine Ex.pfo hA 3 rfl rfl rfl (by rfl) (by rfl) (by rfl) ?_; dsimp only [List.set]) | (refine Ex.pfo hA 4 rfl rfl rfl (by rfl) (by rfl) (by rfl) ?_; dsimp only [List.set]) | (refine Ex.pfo hA 5 rfl rfl rfl (by rfl) (by rfl) (by rfl) ?_; dsimp only [List.set]) | (refine Ex.pfo hA 6 rfl rfl rfl (by rfl) (by rfl) (by rfl) ?_; dsimp only [List.set])))
    refine Ex.iaso hA 0 rfl (j := v) rfl rfl (by omega) (by omega) ?_
    dsimp only [List.set]
    refine Ex.go rfl rfl ?_
    refine Ex.gf rfl rfl ((OG _ (by simp)).trans q0) (by rfl) (by rfl) ?_
    (repeat (first | refine Ex.go rfl rfl ?_ | refine Ex.gf rfl rfl (ov_get hA 0 rfl) (by rfl) (by rfl) ?_ | refine Ex.gf rfl rfl (ov_get hA 1 rfl) (by rfl) (by rfl) ?_ | refine Ex.gf rfl rfl (ov_get hA 2 rfl) (by rfl) (by rfl) ?_ | refine Ex.gf rfl rfl (ov_get hA 3 rfl) (by rfl) (by rfl) ?_ | refine Ex.gf rfl rfl (ov_get hA 4 rfl) (by rfl) (by rfl) ?_ | refine Ex.gf rfl rfl (ov_get hA 5 rfl) (by rfl) (by rfl) ?_ | refine Ex.gf rfl rfl (ov_get hA 6 rfl) (by rfl) (by rfl) ?_ | (refine Ex.pfo hA 0 rfl rfl rfl (by rfl) (by rfl) (by rfl) ?_; dsimp only [List.set]) | (refine Ex.pfo hA 1 rfl rfl rfl (by rfl) (by rfl) (by rfl) ?_; dsimp only [List.set]) | (refine Ex.pfo hA 2 rfl rfl rfl (by rfl) (by rfl) (by rfl) ?_; dsimp only [List.set]) | (refine Ex.pfo hA 3 rfl rfl rfl (by rfl) (by rfl) (by rfl) ?_; dsimp only [List.set]) | (refine Ex.pfo hA 4 rfl rfl rfl (by rfl) (by rfl) (by rfl) ?_; dsimp only [List.set]) | (refine Ex.pfo hA 5 rfl rfl rfl (by rfl) (by rfl) (by rfl) ?_; dsimp only [List.set]) | (refine Ex.pfo hA 6 rfl rfl rfl (by rfl) (by rfl) (by rfl) ?_; dsimp only [List.set])))
    refine Ex.ialo hA 0 rfl (j := v) rfl rfl (by omega) (by omega) ?_
    rw [pk_us, p1]
    (repeat (first | refine Ex.go rfl rfl ?_ | refine Ex.gf rfl rfl (ov_get hA 0 rfl) (by rfl) (by rfl) ?_ | refine Ex.gf rfl rfl (ov_get hA 1 rfl) (by rfl) (by rfl) ?_ | refine Ex.gf rfl rfl (ov_get hA 2 rfl) (by rfl) (by rfl) ?_ | refine Ex.gf rfl rfl (ov_get hA 3 rfl) (by rfl) (by rfl) ?_ | refine Ex.gf rfl rfl (ov_get hA 4 rfl) (by rfl) (by rfl) ?_ | refine Ex.gf rfl rfl (ov_get hA 5 rfl) (by rfl) (by rfl) ?_ | refine Ex.gf rfl rfl (ov_get hA 6 rfl) (by rfl) (by rfl) ?_ | (refine Ex.pfo hA 0 rfl rfl rfl (by rfl) (by rfl) (by rfl) ?_; dsimp only [List.set]) | (refine Ex.pfo hA 1 rfl rfl rfl (by rfl) (by rfl) (by rfl) ?_; dsimp only [List.set]) | (refine Ex.pfo hA 2 rfl rfl rfl (by rfl) (by rfl) (by rfl) ?_; dsimp only [List.set]) | (refine Ex.pfo hA 3 rfl rfl rfl (by rfl) (by rfl) (by rfl) ?_; dsimp only [List.set]) | (refine Ex.pfo hA 4 rfl rfl rfl (by rfl) (by rfl) (by rfl) ?_; dsimp only [List.set]) | (refine Ex.pfo hA 5 rfl rfl rfl (by rfl) (by rfl) (by rfl) ?_; dsimp only [List.set]) | (refine Ex.pfo hA 6 rfl rfl rfl (by rfl) (by rfl) (by rfl) ?_; dsimp only [List.set])))
    refine Ex.ret rfl rfl rfl ?_
    have e1 : nI (wsl lg E v).length + 1 - 1 = ansI lg E 8 nn := by
      show _ = nI (wsl lg E (nn 0).toNatClampNeg).length
      rw [nI_1, nI_pred, e0, nI_clamp (by omega)]
    refine cast (congrArg (fun q => Q (some (.int q)) _) e1.symm) ?_
    refine k _ (RT_mk (P := (osl lg E).length) (td := tdy lg E) (A := (acl lg E).length + 1) (RU := (rsl lg E).length) (w := w) hc (VS := (vsl lg E).length) (pt := pt) (vl := upd vl v (nI (wsl lg E v).length + 1)) (pp := pp) (va := va) (pa := pa) (wa := upd wa (6 * v + (wsl lg E v).length) (nI (E + 1) - 1)) ?_ ?_ rfl rfl rfl rfl rfl) (FA.ov F1 (by simp))
    · rw [← p1]
      refine ⟨⟨(by first | exact ov_get hA 0 rfl | exact ov_get hA 1 rfl | exact ov_get hA 2 rfl | exact ov_get hA 3 rfl | exact ov_get hA 4 rfl | (rw [ov_ne (by simp)]; assumption)), rfl, rfl, rfl, rfl, rfl, rfl, rfl, rfl, rfl, rfl, rfl⟩, ⟨(by first | exact ov_get hA 0 rfl | exact ov_get hA 1 rfl | exact ov_get hA 2 rfl | exact ov_get hA 3 rfl | exact ov_get hA 4 rfl | (rw [ov_ne (by simp)]; assumption)), (by first | exact ov_get hA 0 rfl | exact ov_get hA 1 rfl | exact ov_get hA 2 rfl | exact ov_get hA 3 rfl | exact ov_get hA 4 rfl | (rw [ov_ne (by simp)]; assumption)), (by first | exact ov_get hA 0 rfl | exact ov_get hA 1 rfl | exact ov_get hA 2 rfl | exact ov_get hA 3 rfl | exact ov_get hA 4 rfl | (rw [ov_ne (by simp)]; assumption)), (by first | exact ov_get hA 0 rfl | exact ov_get hA 1 rfl | exact ov_get hA 2 rfl | exact ov_get hA 3 rfl | exact ov_get hA 4 rfl | (rw [ov_ne (by simp)]; assumption)), (by first | exact ov_get hA 0 rfl | exact ov_get hA 1 rfl | exact ov_get hA 2 rfl | exact ov_get hA 3 rfl | exact ov_get hA 4 rfl | (rw [ov_ne (by simp)]; assumption)), (by first | exact ov_get hA 0 rfl | exact ov_get hA 1 rfl | exact ov_get hA 2 rfl | exact ov_get hA 3 rfl | exact ov_get hA 4 rfl | (rw [ov_ne (by simp)]; assumption)), (by first | exact ov_get hA 0 rfl | exact ov_get hA 1 rfl | exact ov_get hA 2 rfl | exact ov_get hA 3 rfl | exact ov_get hA 4 rfl | (rw [ov_ne (by simp)]; assumption)), (by first | exact ov_get hA 0 rfl | exact ov_get hA 1 rfl | exact ov_get hA 2 rfl | exact ov_get hA 3 rfl | exact ov_get hA 4 rfl | (rw [ov_ne (by simp)]; assumption))⟩, hE, hV⟩
    · refine RI_N hI hz hc rfl (fun v hv => rfl) (fun z => absurd z (by omega)) (fun v _ => by rw [if_neg (by omega)]) (fun z => absurd z (by omega)) (fun z => absurd z (by omega)) (fun v p _ _ => rfl) (fun z => absurd z (by omega)) (fun u hu => ?_) (fun z => absurd z (by omega)) (fun _ u hu hn => by rw [eu u hn hu]; exact o2) (fun u p hu hp => pk_un ?_) (fun _ u hu hn => by rw [eu u hn hu]; exact pk_us.trans (nI_pred E)) (fun v _ => by rw [if_neg (by omega)]) (fun z => absurd z (by omega))
      · by_cases hn : nn 0 = nI u
        · rw [if_pos ⟨rfl, hn⟩, eu u hn hu, pk_us, p1]
        · rw [if_neg (fun z => hn z.2)]
          exact pk_un (fun z => hn (by rw [z]; exact e0))
      · have hp3 := (hI.hw u hu).2
        intro z
        have : u = v := by omega
        subst this
        omega
  | 10, hc =>
    obtain ⟨v, hv, e0, -, -⟩ := ok2 (by omega) (by omega)
    have p1 := hI.hq v hv
    have hA : ap ([(369, cI 30 pp)].map Prod.fst) G1.length := apG (as := [369]) (by decide) (by decide) hL1
    have eu : ∀ u, nn 0 = nI u → u < (vsl lg E).length → u = v := fun u hu hu2 => (nI_eq (by omega) (by omega)).mp (hu.symm.trans e0)
    rw [e0]
    (repeat (first | refine Ex.go rfl rfl ?_ | refine Ex.gf rfl rfl (by assumption) (by rfl) (by first | rfl | assumption) ?_))
    refine Ex.ialN rfl (j := v) rfl b3 (by omega) (by omega) ?_
    (repeat (first | refine Ex.go rfl rfl ?_ | refine Ex.gf rfl rfl (by assumption) (by rfl) (by first | rfl | assumption) ?_))
    refine Ex.lay [(369, cI 30 pp)] (lay1 b3) ?_
    refine Ex.iaso hA 0 rfl (j := v) rfl rfl (by omega) (by omega) ?_
    dsimp only [List.set]
    have OG : ∀ L : List (Nat × bo_C), 364 ∉ L.map Prod.fst → (ov G1 L)[364]? = G1[364]? := fun L h => ov_ne h
    refine Ex.go rfl rfl ?_
    refine Ex.gf rfl rfl ((OG _ (by simp)).trans q0) (by rfl) (by rfl) ?_
    (repeat (first | refine Ex.go rfl rfl ?_ | refine Ex.gf rfl rfl (ov_get hA 0 rfl) (by rfl) (by rfl) ?_ | refine Ex.gf rfl rfl (ov_get hA 1 rfl) (by rfl) (by rfl) ?_ | refine Ex.gf rfl rfl (ov_get hA 2 rfl) (by rfl) (by rfl) ?_ | refine Ex.gf rfl rfl (ov_get hA 3 rfl) (by rfl) (by rfl) ?_ | refine Ex.gf rfl rfl (ov_get hA 4 rfl) (by rfl) (by rfl) ?_ | refine Ex.gf rfl rfl (ov_get hA 5 rfl) (by rfl) (by rfl) ?_ | refine Ex.gf rfl rfl (ov_get hA 6 rfl) (by rfl) (by rfl) ?_ | (refine Ex.pfo hA 0 rfl rfl rfl (by rfl) (by rfl) (by rfl) ?_; dsimp only [List.set]) | (refine Ex.pfo hA 1 rfl rfl rfl (by rfl) (by rfl) (by rfl) ?_; dsimp only [List.set]) | (refine Ex.pfo hA 2 rfl rfl rfl (by rfl) (by rfl) (by rfl) ?_; dsimp only [List.set]) | (refine Ex.pfo hA 3 rfl rfl rfl (by rfl) (by rfl) (by rfl) ?_; dsimp only [List.set]) | (refine Ex.pfo hA 4 rfl rfl rfl (by rfl) (by rfl) (by rfl) ?_; dsimp only [List.set]) | (refine Ex.pfo hA 5 rfl rfl rfl (by rfl) (by rfl) (by rfl) ?_; dsimp only [List.set]) | (refine Ex.pfo hA 6 rfl rfl rfl (by rfl) (by rfl) (by rfl) ?_; dsimp only [List.set])))
    refine Ex.ialo hA 0 rfl (j := v) rfl rfl (by omega) (by omega) ?_
    rw [pk_us]
    refine Ex.ret rfl rfl rfl ?_
    have e1 : pp v + 1 = ansI lg E 10 nn := by
      show _ = nI ((qsl lg E (nn 0).toNatClampNeg).length + 1)
      rw [p1, nI_1, e0, nI_clamp (by omega)]
    refine cast (congrArg (fun q => Q (some (.int q)) _) e1.symm) ?_
    refine k _ (RT_mk (P := (osl lg E).length) (td := tdy lg E) (A := (acl lg E).length + 1) (RU := (rsl lg E).length) (w := w) hc (VS := (vsl lg E).length) (pt := pt) (vl := vl) (pp := upd pp v (pp v + 1)) (va := va) (pa := pa) (wa := wa) ?_ ?_ rfl rfl rfl rfl rfl) (FA.ov F1 (by simp))
    · refine ⟨⟨(by first | exact ov_get hA 0 rfl | exact ov_get hA 1 rfl | exact ov_get hA 2 rfl | exact ov_get hA 3 rfl | exact ov_get hA 4 rfl | (rw [ov_ne (by simp)]; assumption)), rfl, rfl, rfl, rfl, rfl, rfl, rfl, rfl, rfl, rfl, rfl⟩, ⟨(by first | exact ov_get hA 0 rfl | exact ov_get hA 1 rfl | exact ov_get hA 2 rfl | exact ov_get hA 3 rfl | exact ov_get hA 4 rfl | (rw [ov_ne (by simp)]; assumption)), (by first | exact ov_get hA 0 rfl | exact ov_get hA 1 rfl | exact ov_get hA 2 rfl | exact ov_get hA 3 rfl | exact ov_get hA 4 rfl | (rw [ov_ne (by simp)]; assumption)), (by first | exact ov_get hA 0 rfl | exact ov_get hA 1 rfl | exact ov_get hA 2 rfl | exact ov_get hA 3 rfl | exact ov_get hA 4 rfl | (rw [ov_ne (by simp)]; assumption)), (by first | exact ov_get hA 0 rfl | exact ov_get hA 1 rfl | exact ov_get hA 2 rfl | exact ov_get hA 3 rfl | exact ov_get hA 4 rfl | (rw [ov_ne (by simp)]; assumption)), (by first | exact ov_get hA 0 rfl | exact ov_get hA 1 rfl | exact ov_get hA 2 rfl | exact ov_get hA 3 rfl | exact ov_get hA 4 rfl | (rw [ov_ne (by simp)]; assumption)), (by first | exact ov_get hA 0 rfl | exact ov_get hA 1 rfl | exact ov_get hA 2 rfl | exact ov_get hA 3 rfl | exact ov_get hA 4 rfl | (rw [ov_ne (by simp)]; assumption)), (by first | exact ov_get hA 0 rfl | exact ov_get hA 1 rfl | exact ov_get hA 2 rfl | exact ov_get hA 3 rfl | exact ov_get hA 4 rfl | (rw [ov_ne (by simp)]; assumption)), (by first | exact ov_get hA 0 rfl | exact ov_get hA 1 rfl | exact ov_get hA 2 rfl | exact ov_get hA 3 rfl | exact ov_get hA 4 rfl | (rw [ov_ne (by simp)]; assumption))⟩, hE, hV⟩
    · refine RI_N hI hz hc rfl (fun v hv => rfl) (fun z => absurd z (by omega)) (fun v _ => by rw [if_neg (by omega)]) (fun z => absurd z (by omega)) (fun z => absurd z (by omega)) (fun v p _ _ => rfl) (fun z => absurd z (by omega)) (fun v _ => by rw [if_neg (by omega)]) (fun z => absurd z (by omega)) (fun z => absurd z (by omega)) (fun v p _ _ => rfl) (fun z => absurd z (by omega)) (fun u hu => ?_) (fun z => absurd z (by omega))
      by_cases hn : nn 0 = nI u
      · rw [if_pos ⟨rfl, hn⟩, eu u hn hu, pk_us]
      · rw [if_neg (fun z => hn z.2)]
        exact pk_un (fun z => hn (by rw [z]; exact e0))
  | c + 12, h => exact absurd h (by omega)
end RR
