/-! The class's list, and the reference's. -/
section LS
variable {lg : Nat → Int32} {E v : Nat} {x y kd on : Int32} {ks : List Int32} {mn : Nat} {ls : Nat → Int32}
theorem duo_nat (hW : ∀ j, j < E → wfE lg j) (hv : v < (vsl lg E).length) : ∃ du : Nat, duo lg E v kd x y = nI du ∧ du ≤ 44000 := by
  have hd : rng (dgo lg E v kd x y) 0 40000 := by
    unfold dgo
    cases hl : lat (dyy lg) (fun i => goP lg (nI v) kd i ∧ stP lg x y i) none 0 E with
    | none => exact wf_day4 hW (vat_lt hv)
    | some i => exact wf_day4 hW (lat_lt (B := E) (fun k hk => by cases hk) (by omega) hl)
  have hr : ∀ r : Int32, rng r 1 4000 → ∃ du : Nat, dgo lg E v kd x y + r = nI du ∧ du ≤ 44000 := fun r hr => by
    have e := z_add (x := dgo lg E v kd x y) (y := r) rfl rfl (by have := hd.1; have := hd.2; have := hr.1; have := hr.2; omega)
    obtain ⟨a1, a2, a3⟩ := nI_iof (v := dgo lg E v kd x y + r) (by rw [e]; have := hd.1; have := hr.1; omega)
    exact ⟨_, a1, by have := hd.2; have := hr.2; omega⟩
  unfold duo
  cases hu : dru lg kd y E with
  | none => exact hr 365 ⟨by decide, by decide⟩
  | some i =>
    obtain ⟨h1, h2⟩ := lst_lt hu
    obtain ⟨-, -, w1, w2, -⟩ := wf_c11 (hW i h1) h2.1
    dsimp only
    split
    · exact hr _ w1
    · exact hr _ w2
/-- what is listed: keys on one side, fours on the other; all of codes below i -/
def LSi (on : Int32) (ks : List Int32) (mn : Nat) (ls : Nat → Int32) (i : Nat) : Prop := ks.length = mn ∧ mn ≤ i ∧ ∀ j, j < mn → ∃ du v kd : Nat, du ≤ 44000 ∧ v * 3 + kd < i ∧ kd < 3 ∧ ks[j]? = some (nI (du * 90 + v * 3 + kd)) ∧ ls (4 * j) = nI v ∧ ls (4 * j + 1) = nI kd ∧ ls (4 * j + 2) = nI du ∧ ls (4 * j + 3) = if nI du < on then 1 else 0
theorem LSi_0 : LSi on [] 0 ls 0 := ⟨rfl, Nat.le_refl 0, fun j hj => absurd hj (Nat.not_lt_zero j)⟩
theorem LSi.mono {i i' : Nat} (h : LSi on ks mn ls i) (hi : i ≤ i') : LSi on ks mn ls i' := by
  refine ⟨h.1, Nat.le_trans h.2.1 hi, fun j hj => ?_⟩
  obtain ⟨du, v, kd, a1, a2, a3⟩ := h.2.2 j hj
  exact ⟨du, v, kd, a1, by omega, a3⟩
theorem insP_congr {f g : Nat → Bool} : ∀ {n : Nat}, (∀ j, j < n → f j = g j) → insP f n = insP g n := by
  intro n
  induction n with
  | zero => intro _; rfl
  | succ n ih =>
    intro h
    show (if f n then insP f n else n + 1) = (if g n then insP g n else n + 1)
    rw [h n (by omega), ih fun j hj => h j (by omega)]
theorem LSi_at {i j : Nat} (h : LSi on ks mn ls i) (hi : i ≤ 90) (hj : j < mn) : ∃ du v kd : Nat, du ≤ 44000 ∧ v * 3 + kd < i ∧ kd < 3 ∧ bo_at ks (nI j) = nI (du * 90 + v * 3 + kd) ∧ ls (4 * j + 2) = nI du := by
  obtain ⟨du, v, kd, a1, a2, a3, a4, -, -, a7, -⟩ := h.2.2 j hj
  have hl := (List.getElem?_eq_some_iff.mp a4).1
  have := h.2.1
  exact ⟨du, v, kd, a1, a2, a3, lst_at hl (by omega) a4, a7⟩
/-- both insert at the same place -/
theorem LSi_place {v kd du : Nat} (h : LSi on ks mn ls (v * 3 + kd)) (hv : v < 30) (hk : kd < 3) (hd : du ≤ 44000) : insP (fun j => decide (nI (du * 90 + v * 3 + kd) < bo_at ks (nI j))) mn = insP (fun q => decide (nI du < ls (4 * q + 2))) mn := by
  refine insP_congr fun j hj => ?_
  obtain ⟨du', v', kd', a1, a2, a3, a4, a5⟩ := LSi_at h (by omega) hj
  rw [a4, a5]
  have e1 : nI (du * 90 + v * 3 + kd) < nI (du' * 90 + v' * 3 + kd') ↔ du * 90 + v * 3 + kd < du' * 90 + v' * 3 + kd' := nI_ltI (by omega) (by omega)
  have e2 : nI du < nI du' ↔ du < du' := nI_ltI (by omega) (by omega)
  rw [decide_eq_decide, e1, e2]
  omega
theorem LSi_ins {v kd du p : Nat} (h : LSi on ks mn ls (v * 3 + kd)) (hk : kd < 3) (hd : du ≤ 44000) (hp : p ≤ mn) : LSi on (ks.take p ++ nI (du * 90 + v * 3 + kd) :: ks.drop p) (mn + 1) (insF ls mn p (nI v) (nI kd) (nI du) (if nI du < on then 1 else 0)) (v * 3 + kd + 1) := by
  obtain ⟨h1, h2, h3⟩ := h
  have hlt : (ks.take p).length = p := by rw [List.length_take]; omega
  refine ⟨?_, by omega, fun j hj => ?_⟩
  · rw [List.length_append, hlt, List.length_cons, List.length_drop]
    omega
  · by_cases q1 : j < p
    · obtain ⟨du', v', kd', a1, a2, a3, a4, a5, a6, a7, a8⟩ := h3 j (by omega)
      refine ⟨du', v', kd', a1, by omega, a3, ?_, ?_, ?_, ?_, ?_⟩
      · rw [List.getElem?_append_left (by omega), List.getElem?_take, if_pos q1]; exact a4
      · unfold insF; rw [if_pos (by omega)]; exact a5
      · unfold insF; rw [if_pos (by omega)]; exact a6
      · unfold insF; rw [if_pos (by omega)]; exact a7
      · unfold insF; rw [if_pos (by omega)]; exact a8
    · by_cases q2 : j = p
      · refine ⟨du, v, kd, hd, by omega, hk, ?_, ?_, ?_, ?_, ?_⟩
        · rw [List.getElem?_append_right (by omega), hlt, q2, Nat.sub_self]; rfl
        · unfold insF; rw [if_neg (by omega), if_pos (by omega)]
        · unfold insF; rw [if_neg (by omega), if_neg (by omega), if_pos (by omega)]
        · unfold insF; rw [if_neg (by omega), if_neg (by omega), if_neg (by omega), if_pos (by omega)]
        · unfold insF; rw [if_neg (by omega), if_neg (by omega), if_neg (by omega), if_neg (by omega), if_pos (by omega)]
      · obtain ⟨du', v', kd', a1, a2, a3, a4, a5, a6, a7, a8⟩ := h3 (j - 1) (by omega)
        have sh : ∀ m, m < 4 → insF ls mn p (nI v) (nI kd) (nI du) (if nI du < on then 1 else 0) (4 * j + m) = ls (4 * (j - 1) + m) := fun m hm => by
          unfold insF
          rw [if_neg (by omega), if_neg (by omega), if_neg (by omega), if_neg (by omega), if_neg (by omega), if_pos (by omega)]
          congr 1
          omega
        refine ⟨du', v', kd', a1, by omega, a3, ?_, (sh 0 (by omega)).trans a5, (sh 1 (by omega)).trans a6, (sh 2 (by omega)).trans a7, (sh 3 (by omega)).trans a8⟩
        rw [List.getElem?_append_right (by omega), hlt, show j - p = (j - 1 - p) + 1 by omega, List.getElem?_cons_succ, List.getElem?_drop, show p + (j - 1 - p) = j - 1 by omega]
        exact a4
end LS
section BL
variable {d b : Nat} {G G1 : bo_G} {Q : Option Value → bo_G → Prop} {us : List Nat} {lg : Nat → Int32} {E : Nat} {ke : Int32} {v p s w x y fr to : Int32} {ks : List Int32} {on : Int32} {ls : Nat → Int32}
/-- what a list leaves as it is -/
def FL (G G' : bo_G) : Prop := G'.length = G.length ∧ ∀ j, ¬ (12 ≤ j ∧ j < 358) → ¬ (j = 361 ∨ j = 362) → G'[j]? = G[j]?
theorem FW.fl (F : FW G G1) : FL G G1 := ⟨F.1, fun j h1 _ => F.2 j h1⟩
theorem FN.fl (F : FN 361 2 G G1) : FL G G1 := ⟨F.1, fun j _ h2 => F.2 j (by omega)⟩
theorem FL.trans {G2 : bo_G} (h : FL G G1) (h2 : FL G1 G2) : FL G G2 := ⟨h2.1.trans h.1, fun j a b => (h2.2 j a b).trans (h.2 j a b)⟩
theorem FL.rfl' (G : bo_G) : FL G G := ⟨rfl, fun _ _ _ => rfl⟩
theorem CR.fl (C : CR G b us lg E ke) (ha : b = 2 ∨ b = 7) (F : FL G G1) : CR G1 b us lg E ke := by
  refine ⟨C.1.of fun j h1 h2 => F.2 j (by omega) (by omega), C.2.of fun u hu j h1 h2 => ?_⟩
  obtain ⟨m, hm⟩ := C.2.2.2.2.1 u hu
  exact F.2 j (by omega) (by omega)
theorem BQ.fl (h : BQ G b us lg E ke) (F : FL G G1) (hI : VI G1) : BQ G1 b us lg E ke := by
  obtain ⟨h1, ⟨st, rs, h2⟩, h3, h4, -⟩ := h
  exact ⟨h1, ⟨st, rs, by rw [F.2 1 (by omega) (by omega)]; exact h2⟩, h3.fl h1 F, h4, hI⟩
theorem lsT_s {td : Int32} {i : Nat} : lsT lg E td fr to ls (i + 1) = lsS lg E td fr to i (lsT lg E td fr to ls i) := rfl
/-- a vessel's three are listed -/
theorem q_listVessel {v : Nat} {st rs td sO : Int32} (hv : v < (vsl lg E).length) (h30 : (vsl lg E).length ≤ 30) (hW : ∀ j, j < E → wfE lg j) (g1 : G[1]? = some (mainC b st rs)) (hO : VO G lg E v b td td sO) (hv31 : v < 2 ^ 31) (hE : E ≤ 6000) (hL : LW G 361 td ks) (hLS : LSi td ks (lsT lg E td fr to ls (3 * v)).1 (lsT lg E td fr to ls (3 * v)).2 (3 * v)) (k : ∀ G' ks', LW G' 361 td ks' → LSi td ks' (lsT lg E td fr to ls (3 * (v + 1))).1 (lsT lg E td fr to ls (3 * (v + 1))).2 (3 * (v + 1)) → VI G' → FL G G' → Q none G') : Cx (d + 4) mX10_listVessel [.ref 1, .int (nI v), .int fr, .int to] G Q := by
  have hvi := hO.vi hW hE hv31
  have loop : ∀ (e kd : Nat) (bb : Int32) (ks1 : List Int32) (G1 : bo_G), kd + e = 3 → bb = nI kd → VO G1 lg E v b td td sO → G1[1]? = some (mainC b st rs) → LW G1 361 td ks1 → LSi td ks1 (lsT lg E td fr to ls (3 * v + kd)).1 (lsT lg E td fr to ls (3 * v + kd)).2 (3 * v + kd) → FL G G1 → Ex (d + 4) mX10_listVessel (3, [(0, .ref 1), (1, .int (nI v)), (2, .int fr), (3, .int to), (4, .int bb)], [], G1) Q := by
    intro e
    induction e with
    | zero =>
      intro kd bb ks1 G1 hi hb h1 g1 hL1 hS1 F
      have hk3 : kd = 3 := by omega
      have hb2 : nI 3 ≤ bb := by rw [hb, hk3]; exact Int32.le_refl _
      rw [hk3] at hS1
      have k := k G1 ks1 hL1 (by rw [show 3 * (v + 1) = 3 * v + 3 by omega]; exact hS1) (h1.vi hW hE hv31) F
      clear hb
      (repeat (first | refine Ex.go rfl rfl ?_ | refine Ex.gf rfl rfl (by assumption) (by rfl) (by first | rfl | assumption) ?_))
      refine Ex.br (fun c1 => ?_) (fun c1 => ?_); rotate_left
      · exact absurd hb2 c1
      (repeat (first | refine Ex.go rfl rfl ?_ | refine Ex.gf rfl rfl (by assumption) (by rfl) (by first | rfl | assumption) ?_))
      refine Ex.ret rfl rfl rfl ?_
      exact k
    | succ e ih =>
      intro kd bb ks1 G1 hi hb h1 g1 hL1 hS1 F
      have g12 := h1.1.1.1
      have g361 := hL1.1
      obtain ⟨du, edu, hdu⟩ := duo_nat (kd := nI kd) (x := td) (y := td) hW hv
      have est := lsT_s (lg := lg) (E := E) (td := td) (fr := fr) (to := to) (ls := ls) (i := 3 * v + kd)
      unfold lsS at est
      rw [show (3 * v + kd) / 3 = v by omega, show (3 * v + kd) % 3 = kd by omega, edu] at est
      have hlen := hS1.2.1
      have no : ¬ (fr.toInt ≤ (nI du).toInt ∧ (nI du).toInt ≤ to.toInt) → Ex (d + 4) mX10_listVessel (44, [(0, .ref 1), (1, .int (nI v)), (2, .int fr), (3, .int to), (4, .int bb), (5, .int (nI du))], [], G1) Q := by
        intro hno
        rw [if_neg hno] at est
        have nx := ih (kd + 1) (bb + 1) ks1 G1 (by omega) (by rw [hb]; exact nI_1 kd) h1 g1 hL1 (by rw [← Nat.add_assoc, est]; exact hS1.mono (by omega)) F
        (repeat (first | exact nx | refine Ex.go rfl rfl ?_ | refine Ex.gf rfl rfl (by assumption) (by rfl) (by first | rfl | assumption) ?_))
      have yes : (fr.toInt ≤ (nI du).toInt ∧ (nI du).toInt ≤ to.toInt) → Ex (d + 4) mX10_listVessel (32, [(0, .ref 1), (1, .int (nI v)), (2, .int fr), (3, .int to), (4, .int bb), (5, .int (nI du))], [], G1) Q := by
        intro hyes
        rw [if_pos hyes] at est
        have hS2 : LSi td ks1 (lsT lg E td fr to ls (3 * v + kd)).1 (lsT lg E td fr to ls (3 * v + kd)).2 (v * 3 + kd) := by rw [Nat.mul_comm v 3]; exact hS1
        have ekey : nI du * 90 + nI v * 3 + nI kd = nI (du * 90 + v * 3 + kd) := by
          show nI du * nI 90 + nI v * nI 3 + nI kd = _
          rw [pk_mul, pk_mul, nI_add, nI_add]
        have epl := LSi_place hS2 (by omega) (by omega) hdu
        have hks : ks1.length = (lsT lg E td fr to ls (3 * v + kd)).1 := hS1.1
        rw [hb]
        (repeat (first | refine Ex.go rfl rfl ?_ | refine Ex.gf rfl rfl (by assumption) (by rfl) (by first | rfl | assumption) ?_))
        refine Ex.cv3 rfl rfl rfl g361 (by rfl) (by decide) rfl ?_
        refine lw_insert hL1 (by omega) (fun G2 pp hpp hL2 F2 => ?_)
        rw [ekey, hks, epl] at hpp
        rw [ekey] at hL2
        have hple : pp ≤ (lsT lg E td fr to ls (3 * v + kd)).1 := by rw [hpp]; exact insP_le _ _
        have hS3 := LSi_ins (du := du) (p := pp) hS2 (by omega) hdu hple
        have h2 : VO G2 lg E v b td td sO := by
          obtain ⟨⟨⟨q0, q1, q2, q3, q4⟩, hPV⟩, hSt⟩ := h1
          have e24 := psl_le2 (v := v) hW hE (knC_le (lg := lg) (y := td) (E := E)) hv31
          exact ⟨⟨⟨by rw [F2.2 12 (by omega)]; exact q0, by rw [F2.2 13 (by omega)]; exact q1, q2.of fun j _ _ => F2.2 j (by omega), q3.of fun j _ _ => F2.2 j (by omega), q4.of fun j _ _ => F2.2 j (by omega)⟩, fun p hp => (hPV p hp).of (fun j _ _ => F2.2 j (by omega)) fun _ _ => rfl⟩, hSt⟩
        have nx := ih (kd + 1) (nI kd + 1) _ G2 (by omega) (nI_1 kd) h2 (by rw [F2.2 1 (by omega)]; exact g1) hL2 (by rw [← Nat.add_assoc, est, ← hpp, show 3 * v + kd + 1 = v * 3 + kd + 1 by omega]; exact hS3) (F.trans F2.fl)
        (repeat (first | exact nx | refine Ex.go rfl rfl ?_ | refine Ex.gf rfl rfl (by assumption) (by rfl) (by first | rfl | assumption) ?_))
      (repeat (first | refine Ex.go rfl rfl ?_ | refine Ex.gf rfl rfl (by assumption) (by rfl) (by first | rfl | assumption) ?_))
      refine Ex.br (fun c1 => ?_) (fun c1 => ?_)
      · rw [hb] at c1
        have := (n_ge (a := kd) (b := 3) (by omega) (by omega)).mp c1
        omega
      rw [hb]
      (repeat (first | refine Ex.go rfl rfl ?_ | refine Ex.gf rfl rfl (by assumption) (by rfl) (by first | rfl | assumption) ?_))
      refine Ex.cv1 rfl rfl rfl g12 (by rfl) (by decide) rfl ?_
      refine vo_due2 h1 (by omega) ?_
      rw [edu, ← hb]
      (repeat (first | refine Ex.go rfl rfl ?_ | refine Ex.gf rfl rfl (by assumption) (by rfl) (by first | rfl | assumption) ?_))
      refine Ex.br (fun c2 => ?_) (fun c2 => ?_)
      · (repeat (first | exact no (fun z => absurd (Int32.le_iff_toInt_le.mpr z.1) (Int32.not_le.mpr c2)) | refine Ex.go rfl rfl ?_ | refine Ex.gf rfl rfl (by assumption) (by rfl) (by first | rfl | assumption) ?_))
      (repeat (first | refine Ex.go rfl rfl ?_ | refine Ex.gf rfl rfl (by assumption) (by rfl) (by first | rfl | assumption) ?_))
      refine Ex.br (fun c3 => ?_) (fun c3 => ?_)
      · (repeat (first | exact no (fun z => absurd (Int32.le_iff_toInt_le.mpr z.2) (Int32.not_le.mpr c3)) | refine Ex.go rfl rfl ?_ | refine Ex.gf rfl rfl (by assumption) (by rfl) (by first | rfl | assumption) ?_))
      (repeat (first | exact yes ⟨Int32.le_iff_toInt_le.mp (Int32.not_lt.mp c2), Int32.le_iff_toInt_le.mp (Int32.not_lt.mp c3)⟩ | refine Ex.go rfl rfl ?_ | refine Ex.gf rfl rfl (by assumption) (by rfl) (by first | rfl | assumption) ?_))
  refine Cx.body rfl rfl ?_
  have l0 := loop 3 0 0 ks G (by omega) rfl hO g1 hL hLS (FL.rfl' G)
  (repeat (first | exact l0 | refine Ex.go rfl rfl ?_ | refine Ex.gf rfl rfl (by assumption) (by rfl) (by first | rfl | assumption) ?_))
/-- all are listed -/
theorem q_list (h : BQ G b us lg E ke) (hL : LW G 361 on ks) (hk : ks.length ≤ 90) (k : ∀ G' ks', LW G' 361 (tdy lg E) ks' → LSi (tdy lg E) ks' (lsT lg E (tdy lg E) fr to ls (3 * (vsl lg E).length)).1 (lsT lg E (tdy lg E) fr to ls (3 * (vsl lg E).length)).2 (3 * (vsl lg E).length) → VI G' → FL G G' → Q (some (.int (nI (lsT lg E (tdy lg E) fr to ls (3 * (vsl lg E).length)).1))) G') : Cx (d + 7) mX10_list [.ref 1, .int fr, .int to] G Q := by
  have hE := h.E6
  obtain ⟨hb, ⟨st, rs, g1⟩, C, hW, hI⟩ := id h
  have r0 := C.1.1
  have g361 := hL.1
  have h30 := hW.2.1
  have htd := tdy_rng hW.1
  have loop : ∀ (e v : Nat) (bb : Int32) (ks1 : List Int32) (G1 : bo_G), v + e = (vsl lg E).length → bb = nI v → BQ G1 b us lg E ke → G1[1]? = some (mainC b st rs) → LW G1 361 (tdy lg E) ks1 → LSi (tdy lg E) ks1 (lsT lg E (tdy lg E) fr to ls (3 * v)).1 (lsT lg E (tdy lg E) fr to ls (3 * v)).2 (3 * v) → FL G G1 → Ex (d + 7) mX10_list (19, [(0, .ref 1), (1, .int fr), (2, .int to), (3, .int (tdy lg E)), (4, .int bb)], [], G1) Q := by
    intro e
    induction e with
    | zero =>
      intro v bb ks1 G1 hi hbb h1 g1 hL1 hS1 F
      have C1 := h1.2.2.1
      have r1 := C1.1.1
      have g361 := hL1.1
      have hve : v = (vsl lg E).length := by omega
      rw [hve] at hS1 hbb
      have hks := hS1.1
      have k := k G1 ks1 hL1 hS1 h1.2.2.2.2 F
      rw [← hks] at k
      have hb2 : nI (vsl lg E).length ≤ bb := by rw [hbb]; exact Int32.le_refl _
      clear hbb
      (repeat (first | refine Ex.go rfl rfl ?_ | refine Ex.gf rfl rfl (by assumption) (by rfl) (by first | rfl | assumption) ?_))
      refine Ex.cv0 rfl rfl rfl r1 (by rfl) (by decide) rfl ?_
      refine c_vesselCount C1 ?_
      (repeat (first | refine Ex.go rfl rfl ?_ | refine Ex.gf rfl rfl (by assumption) (by rfl) (by first | rfl | assumption) ?_))
      refine Ex.br (fun c1 => ?_) (fun c1 => ?_); rotate_left
      · exact absurd hb2 c1
      (repeat (first | refine Ex.go rfl rfl ?_ | refine Ex.gf rfl rfl (by assumption) (by rfl) (by first | rfl | assumption) ?_))
      refine Ex.cv0 rfl rfl rfl g361 (by rfl) (by decide) rfl ?_
      refine lw_size hL1 ?_
      (repeat (first | refine Ex.go rfl rfl ?_ | refine Ex.gf rfl rfl (by assumption) (by rfl) (by first | rfl | assumption) ?_))
      refine Ex.ret rfl rfl rfl ?_
      exact k
    | succ e ih =>
      intro v bb ks1 G1 hi hbb h1 g1 hL1 hS1 F
      have C1 := h1.2.2.1
      have hI1 := h1.2.2.2.2
      have r1 := C1.1.1
      obtain ⟨f12, g12⟩ := hI1.g12
      have hv : v < (vsl lg E).length := by omega
      have e1 : (nI v).toNatClampNeg = v := nI_clamp (by omega)

      have hent : ent lg (vat lg E v) ≤ tdy lg E := Int32.le_iff_toInt_le.mpr (by
        rw [(hW.1 _ (vat_lt hv)).1]
        exact tdy_mono hW.1 (Nat.le_of_lt (vat_lt hv)) (Nat.le_refl _))
      have hday : dyy lg (vat lg E v) ≤ tdy lg E := Int32.le_iff_toInt_le.mpr (vat_day2 hW.1 hv).2
      have hask : askP lg E (nI v) (tdy lg E) (tdy lg E) := by
        refine ⟨htd, htd, ⟨by rw [nI_toInt (by omega)]; omega, by rw [nI_toInt (by omega)]; omega⟩, ?_⟩
        rw [e1]
        exact ⟨hent, hday⟩

      rw [hbb]
      (repeat (first | refine Ex.go rfl rfl ?_ | refine Ex.gf rfl rfl (by assumption) (by rfl) (by first | rfl | assumption) ?_))
      refine Ex.cv0 rfl rfl rfl r1 (by rfl) (by decide) rfl ?_
      refine c_vesselCount C1 ?_
      (repeat (first | refine Ex.go rfl rfl ?_ | refine Ex.gf rfl rfl (by assumption) (by rfl) (by first | rfl | assumption) ?_))
      refine Ex.br (fun c1 => ?_) (fun c1 => ?_)
      · have := (n_ge (a := v) (b := (vsl lg E).length) (by omega) (by omega)).mp c1
        omega
      (repeat (first | refine Ex.go rfl rfl ?_ | refine Ex.gf rfl rfl (by assumption) (by rfl) (by first | rfl | assumption) ?_))
      refine Ex.cv4 rfl rfl rfl g12 (by rfl) (by decide) rfl ?_
      refine q_open h1 (ask_in hask) (fun hno => absurd hask hno) (fun _ G2 st' v' ev hO V F2 => ?_)
      have evv : v = v' := (nI_eq (by omega) V.2.2.1).mp ev
      subst evv
      have g12' : G2[1]? = some (mainC b st rs) := by rw [F2.2 1 (by omega)]; exact g1
      have hL2 : LW G2 361 (tdy lg E) ks1 := hL1.of fun j _ _ => F2.2 j (by omega)
      (repeat (first | refine Ex.go rfl rfl ?_ | refine Ex.gf rfl rfl (by assumption) (by rfl) (by first | rfl | assumption) ?_))
      try (first | refine Ex.le0 ?_ | refine Ex.ln0 ?_)
      (repeat (first | refine Ex.go rfl rfl ?_ | refine Ex.gf rfl rfl (by assumption) (by rfl) (by first | rfl | assumption) ?_))
      refine Ex.cv3 rfl rfl rfl g12' (by rfl) (by decide) rfl ?_
      refine q_listVessel hv h30 hW.1 g12' hO (by omega) hE hL2 hS1 (fun G3 ks3 hL3 hS3 hI3 F3 => ?_)
      have nx := ih (v + 1) (nI v + 1) ks3 G3 (by omega) (nI_1 v) ((h1.fl F2.fl (hO.vi V.1 V.2.1 V.2.2.1)).fl F3 hI3) (by rw [F3.2 1 (by omega) (by omega)]; exact g12') hL3 hS3 (F.trans (F2.fl.trans F3))
      (repeat (first | exact nx | refine Ex.go rfl rfl ?_ | refine Ex.gf rfl rfl (by assumption) (by rfl) (by first | rfl | assumption) ?_))
  refine Cx.body rfl rfl ?_
  (repeat (first | refine Ex.go rfl rfl ?_ | refine Ex.gf rfl rfl (by assumption) (by rfl) (by first | rfl | assumption) ?_))
  refine Ex.cv0 rfl rfl rfl r0 (by rfl) (by decide) rfl ?_
  refine c_today C ?_
  (repeat (first | refine Ex.go rfl rfl ?_ | refine Ex.gf rfl rfl (by assumption) (by rfl) (by first | rfl | assumption) ?_))
  refine Ex.cv1 rfl rfl rfl g361 (by rfl) (by decide) rfl ?_
  refine lw_begin hL hk (fun G2 hL2 F2 => ?_)
  have l0 := loop (vsl lg E).length 0 0 [] G2 (by omega) rfl (h.fl F2.fl (hI.of fun j _ _ => F2.2 j (by omega))) (by rw [F2.2 1 (by omega)]; exact g1) hL2 LSi_0 F2.fl
  (repeat (first | exact l0 | refine Ex.go rfl rfl ?_ | refine Ex.gf rfl rfl (by assumption) (by rfl) (by first | rfl | assumption) ?_))
end BL
