/-! The reference's restore, whole; its constructor. -/
section RR
variable {d : Nat} {G G' : bo_G} {Q : Option Value → bo_G → Prop} {lg lg' : Nat → Int32} {E E' fx fx' mn : Nat} {nn gv ls : Nat → Int32} {ts : List Int32} {st sh shs im rs st' sh' shs' mnI tp : Int32}
theorem RT_out (R : RT G lg E fx st sh shs mnI im tp rs nn) (h : ∀ j, 364 ≤ j → j ≤ 373 → j ≠ 366 → G'[j]? = G[j]?) : RT G' lg E fx st sh shs mnI im tp rs nn := by
  obtain ⟨w, pt, vl, pp, va, pa, wa, ⟨⟨p0, a⟩, ⟨b0, b1, b2, b3, b4, b5, b6, b7⟩, hE, hV⟩, hI⟩ := R
  have q : ∀ {j : Nat} {x : bo_C}, 364 ≤ j → j ≤ 373 → j ≠ 366 → G[j]? = some x → G'[j]? = some x := fun h1 h2 h3 hx => by rw [h _ h1 h2 h3]; exact hx
  exact ⟨w, pt, vl, pp, va, pa, wa, ⟨⟨q (by omega) (by omega) (by omega) p0, a⟩, ⟨q (by omega) (by omega) (by omega) b0, q (by omega) (by omega) (by omega) b1, q (by omega) (by omega) (by omega) b2, q (by omega) (by omega) (by omega) b3, q (by omega) (by omega) (by omega) b4, q (by omega) (by omega) (by omega) b5, q (by omega) (by omega) (by omega) b6, q (by omega) (by omega) (by omega) b7⟩, hE, hV⟩, hI⟩
/-- what is entered anew -/
theorem r_anew {v1 v3 v4 v5 : Int32} {old : Nat → Int32} {lg1 : Nat → Int32} (hW : WF lg E) (hZ : ZP lg E) (hE : E ≤ 6000) (ho : ∀ j, j < 18 * E → old j = lg j) (c366 : G[366]? = some (cI 108000 old)) (hL : 378 ≤ G.length) (k : ∀ lg' G' fx' nn', lgE lg lg' E → RT G' lg' E fx' st sh shs mnI im tp rs nn' → FA G G' → Ex (d + 8) mX11_restore (242, [(0, .ref 364), (1, .int v1), (2, .int (nI E)), (3, .int v3), (4, .int v4), (5, .int v5), (6, .int (nI E))], [], G') Q) : ∀ (e i : Nat) (a : Int32) (lg' : Nat → Int32) (fx' : Nat) (nn : Nat → Int32) (G1 : bo_G), a = nI i → i + e = E → lgE lg lg' i → RT G1 lg' i fx' st sh shs mnI im tp rs nn → FA G G1 → Ex (d + 8) mX11_restore (173, [(0, .ref 364), (1, .int v1), (2, .int (nI E)), (3, .int v3), (4, .int v4), (5, .int v5), (6, .int a)], [], G1) Q := by
  intro e
  induction e with
  | zero =>
    intro i a lg' fx' nn G1 ha hi hg R1 F1
    subst ha
    have hiE : i = E := by omega
    rw [hiE] at hg R1
    have k := k lg' G1 fx' nn hg R1 F1
    (repeat (first | refine Ex.go rfl rfl ?_ | refine Ex.gf rfl rfl (by assumption) (by rfl) (by first | rfl | assumption) ?_))
    refine Ex.br (fun hc => ?_) (fun hc => ?_); rotate_left
    · exact absurd (nI_le (show E ≤ i by omega) (by omega)) hc
    rw [hiE]
    (repeat (first | exact k | refine Ex.go rfl rfl ?_ | refine Ex.gf rfl rfl (by assumption) (by rfl) (by first | rfl | assumption) ?_))
  | succ e ih =>
    intro i a lg' fx' nn G1 ha hi hg R1 F1
    subst ha
    obtain ⟨c, hc12, hcc⟩ := cod_nat (hW.1 i (by omega))
    have inner : ∀ (e2 j : Nat) (b : Int32) (nn : Nat → Int32) (G2 : bo_G), b = nI j → j + e2 = 15 → RT G2 lg' i fx' st sh shs mnI im tp rs nn → FA G G2 → (∀ q, q < j → nn q = num lg i q) → Ex (d + 8) mX11_restore (182, [(0, .ref 364), (1, .int v1), (2, .int (nI E)), (3, .int v3), (4, .int v4), (5, .int v5), (6, .int (nI i)), (7, .int b)], [], G2) Q := by
      intro e2
      induction e2 with
      | zero =>
        intro j b nn G2 hb hj R2 F2 hn
        subst hb
        obtain ⟨w2, q2, -⟩ := RT_fs R2
        have c366' : G2[366]? = some (cI 108000 old) := by rw [F2.2 _ (by omega)]; exact c366
        obtain ⟨c373, -⟩ := RT_n R2
        obtain ⟨hg2, ok⟩ := lgE_again hW.1 hZ (show i < E by omega) hc12 hcc hW.2.1 hE hg (fun k hk => hn k (by omega))
        have hWi : ∀ j, j < i → wfE lg' j := fun j hj => wfE_E hg hj (hW.1 j (by omega))
        (repeat (first | refine Ex.go rfl rfl ?_ | refine Ex.gf rfl rfl (by assumption) (by rfl) (by first | rfl | assumption) ?_))
        refine Ex.ali rfl c373 ?_
        (repeat (first | refine Ex.go rfl rfl ?_ | refine Ex.gf rfl rfl (by assumption) (by rfl) (by first | rfl | assumption) ?_))
        refine Ex.br (fun h1 => ?_) (fun h1 => ?_); rotate_left
        · exact absurd (nI_le (show 15 ≤ j by omega) (by omega)) h1
        (repeat (first | refine Ex.go rfl rfl ?_ | refine Ex.gf rfl rfl (by assumption) (by rfl) (by first | rfl | assumption) ?_))
        refine Ex.ialN rfl (pk_mul 18 i) c366' (by omega) (by omega) ?_
        rw [show old (18 * i) = nI c from (ho _ (by omega)).trans hcc]
        (repeat (first | refine Ex.go rfl rfl ?_ | refine Ex.gf rfl rfl (by assumption) (by rfl) (by first | rfl | assumption) ?_))
        refine Ex.cv1 rfl rfl rfl q2 (by rfl) (by decide) rfl ?_
        refine r_enter R2 hWi (by rw [F2.1]; exact hL) (by omega) hc12 ok (fun G3 R3 F3 => ?_)
        have nxt := ih (i + 1) _ _ _ _ G3 (nI_1 i) (by omega) hg2 R3 (F2.trans F3)
        (repeat (first | exact nxt | refine Ex.go rfl rfl ?_ | refine Ex.gf rfl rfl (by assumption) (by rfl) (by first | rfl | assumption) ?_))
      | succ e2 ihe =>
        intro j b nn G2 hb hj R2 F2 hn
        subst hb
        obtain ⟨w2, q2, -⟩ := RT_fs R2
        have c366' : G2[366]? = some (cI 108000 old) := by rw [F2.2 _ (by omega)]; exact c366
        obtain ⟨c373, hn4⟩ := RT_n R2
        (repeat (first | refine Ex.go rfl rfl ?_ | refine Ex.gf rfl rfl (by assumption) (by rfl) (by first | rfl | assumption) ?_))
        refine Ex.ali rfl c373 ?_
        (repeat (first | refine Ex.go rfl rfl ?_ | refine Ex.gf rfl rfl (by assumption) (by rfl) (by first | rfl | assumption) ?_))
        refine Ex.br (fun h1 => ?_) (fun h1 => ?_)
        · have := (n_ge (a := j) (b := 15) (by omega) (by omega)).mp h1
          omega
        (repeat (first | refine Ex.go rfl rfl ?_ | refine Ex.gf rfl rfl (by assumption) (by rfl) (by first | rfl | assumption) ?_))
        refine Ex.ialN rfl (show nI 18 * nI i + nI 3 + nI j = nI (18 * i + 3 + j) by rw [pk_mul, nI_add, nI_add]) c366' (by omega) (by omega) ?_
        rw [show old (18 * i + 3 + j) = num lg i j from ho _ (by omega)]
        refine Ex.iasN rfl (j := j) rfl c373 (by omega) (by omega) ?_
        have nxt := ihe (j + 1) _ _ _ (nI_1 j) (by omega) (hn4 (upd nn j (num lg i j))) (F2.set (by omega)) (fun q hq => by
          by_cases hqj : q = j
          · rw [hqj, pk_us]
          · rw [pk_un hqj]; exact hn q (by omega))
        (repeat (first | exact nxt | refine Ex.go rfl rfl ?_ | refine Ex.gf rfl rfl (by assumption) (by rfl) (by first | rfl | assumption) ?_))
    have i0 := inner 15 0 _ nn G1 rfl (by omega) R1 F1 (fun q hq => absurd hq (Nat.not_lt_zero _))
    (repeat (first | refine Ex.go rfl rfl ?_ | refine Ex.gf rfl rfl (by assumption) (by rfl) (by first | rfl | assumption) ?_))
    refine Ex.br (fun hc => ?_) (fun hc => ?_)
    · have := (n_ge (a := i) (b := E) (by omega) (by omega)).mp hc
      omega
    (repeat (first | exact i0 | refine Ex.go rfl rfl ?_ | refine Ex.gf rfl rfl (by assumption) (by rfl) (by first | rfl | assumption) ?_))
theorem r_restore {r : Nat} (h : RS G lg E fx st sh shs gv mn ls ts (nI r)) (hr : r ≤ 8) (hW : WF lg E) (hZ : ZP lg E) (hL : 378 ≤ G.length) (k8 : r = 8 → ∀ G', RS G' lg E fx st sh shs gv mn ls [] (nI r) → FR G G' → Q (some (.int (-4))) G') (kg : ¬ r = 8 → (rst ts (ts.length + 1) 0 lg 0).1 = true → ∀ G', RS G' (rst ts (ts.length + 1) 0 lg 0).2.2.1 (rst ts (ts.length + 1) 0 lg 0).2.2.2 (rst ts (ts.length + 1) 0 lg 0).2.2.2 0 (-1) shs gv 0 ls [] (nI (r + 1)) → FR G G' → Q (some (.int (nI (acl (rst ts (ts.length + 1) 0 lg 0).2.2.1 (rst ts (ts.length + 1) 0 lg 0).2.2.2).length))) G') (kb : ¬ r = 8 → (rst ts (ts.length + 1) 0 lg 0).1 = false → ∀ G' lg', lgE lg lg' E → RS G' lg' E fx st sh shs gv mn ls [] (nI (r + 1)) → FR G G' → Q (some (.int (-10 - nI (rst ts (ts.length + 1) 0 lg 0).2.1))) G') : Cx (d + 8) mX11_restore [.ref 364] G Q := by
  obtain ⟨nn, im, imf, old, tpf, R, ⟨c366, c374, c375, c376, c377⟩, ht, h4⟩ := h
  obtain ⟨w, q0, hf⟩ := RT_fs R
  have hE : E ≤ 6000 := by obtain ⟨_, _, _, _, _, _, _, R', -⟩ := R; exact R'.2.2.1
  have R0 := hf w st sh shs (nI mn) im (nI 0) (nI r) fx
  refine Cx.body rfl rfl ?_
  refine Ex.lay [(364, cO 11 (rF E fx (tdy lg E) (acl lg E).length (osl lg E).length (vsl lg E).length (rsl lg E).length st sh shs w (nI mn) im (nI ts.length) (nI r)))] (lay1 q0) ?_
  have hA := ap1 q0
  (repeat (first | refine Ex.go rfl rfl ?_ | refine Ex.gf rfl rfl (ov_get hA 0 rfl) (by rfl) (by rfl) ?_ | refine Ex.gf rfl rfl (ov_get hA 1 rfl) (by rfl) (by rfl) ?_ | refine Ex.gf rfl rfl (ov_get hA 2 rfl) (by rfl) (by rfl) ?_ | refine Ex.gf rfl rfl (ov_get hA 3 rfl) (by rfl) (by rfl) ?_ | refine Ex.gf rfl rfl (ov_get hA 4 rfl) (by rfl) (by rfl) ?_ | refine Ex.gf rfl rfl (ov_get hA 5 rfl) (by rfl) (by rfl) ?_ | refine Ex.gf rfl rfl (ov_get hA 6 rfl) (by rfl) (by rfl) ?_ | (refine Ex.pfo hA 0 rfl rfl rfl (by rfl) (by rfl) (by rfl) ?_; dsimp only [List.set]) | (refine Ex.pfo hA 1 rfl rfl rfl (by rfl) (by rfl) (by rfl) ?_; dsimp only [List.set]) | (refine Ex.pfo hA 2 rfl rfl rfl (by rfl) (by rfl) (by rfl) ?_; dsimp only [List.set]) | (refine Ex.pfo hA 3 rfl rfl rfl (by rfl) (by rfl) (by rfl) ?_; dsimp only [List.set]) | (refine Ex.pfo hA 4 rfl rfl rfl (by rfl) (by rfl) (by rfl) ?_; dsimp only [List.set]) | (refine Ex.pfo hA 5 rfl rfl rfl (by rfl) (by rfl) (by rfl) ?_; dsimp only [List.set]) | (refine Ex.pfo hA 6 rfl rfl rfl (by rfl) (by rfl) (by rfl) ?_; dsimp only [List.set])))
  refine Ex.br (fun h8 => ?_) (fun h8 => ?_); rotate_left
  · have hr8 : r = 8 := (nI_eq (b := 8) (by omega) (by omega)).mp (Decidable.not_not.mp h8)
    have k8 := k8 hr8 _ ⟨nn, im, imf, old, tpf, R0, ⟨by rw [List.getElem?_set_ne (by omega)]; exact c366, by rw [List.getElem?_set_ne (by omega)]; exact c374, by rw [List.getElem?_set_ne (by omega)]; exact c375, by rw [List.getElem?_set_ne (by omega)]; exact c376, by rw [List.getElem?_set_ne (by omega)]; exact c377⟩, agr.nil _, Nat.zero_le _⟩ ((FR.rfl' G).set (by omega))
    (repeat (first | refine Ex.go rfl rfl ?_ | refine Ex.gf rfl rfl (ov_get hA 0 rfl) (by rfl) (by rfl) ?_ | refine Ex.gf rfl rfl (ov_get hA 1 rfl) (by rfl) (by rfl) ?_ | refine Ex.gf rfl rfl (ov_get hA 2 rfl) (by rfl) (by rfl) ?_ | refine Ex.gf rfl rfl (ov_get hA 3 rfl) (by rfl) (by rfl) ?_ | refine Ex.gf rfl rfl (ov_get hA 4 rfl) (by rfl) (by rfl) ?_ | refine Ex.gf rfl rfl (ov_get hA 5 rfl) (by rfl) (by rfl) ?_ | refine Ex.gf rfl rfl (ov_get hA 6 rfl) (by rfl) (by rfl) ?_ | (refine Ex.pfo hA 0 rfl rfl rfl (by rfl) (by rfl) (by rfl) ?_; dsimp only [List.set]) | (refine Ex.pfo hA 1 rfl rfl rfl (by rfl) (by rfl) (by rfl) ?_; dsimp only [List.set]) | (refine Ex.pfo hA 2 rfl rfl rfl (by rfl) (by rfl) (by rfl) ?_; dsimp only [List.set]) | (refine Ex.pfo hA 3 rfl rfl rfl (by rfl) (by rfl) (by rfl) ?_; dsimp only [List.set]) | (refine Ex.pfo hA 4 rfl rfl rfl (by rfl) (by rfl) (by rfl) ?_; dsimp only [List.set]) | (refine Ex.pfo hA 5 rfl rfl rfl (by rfl) (by rfl) (by rfl) ?_; dsimp only [List.set]) | (refine Ex.pfo hA 6 rfl rfl rfl (by rfl) (by rfl) (by rfl) ?_; dsimp only [List.set])))
    refine Ex.ret rfl rfl rfl ?_
    exact k8
  have hr8 : ¬ r = 8 := fun z => h8 (by rw [z]; rfl)
  have kg := kg hr8
  have kb := kb hr8
  have R1 := hf w st sh shs (nI mn) im (nI 0) (nI (r + 1)) fx
  -- the copy
  have rest : ∀ G1 : bo_G, FR G G1 → RT G1 lg E fx st sh shs (nI mn) im (nI 0) (nI (r + 1)) nn → G1[366]? = some (cI 108000 old) → G1[374]? = some (cI 40 gv) → G1[375]? = some (cI 360 ls) → G1[376]? = some (cI 40000 imf) → G1[377]? = some (cI 40000 tpf) → Ex (d + 8) mX11_restore (32, [(0, .ref 364), (1, .int (nI ts.length))], [], G1) Q := by
    intro G1 F1 R1 c366 c374 c375 c376 c377
    have hL1 : 378 ≤ G1.length := by rw [F1.1]; exact hL
    obtain ⟨w1, q1, -⟩ := RT_fs R1
    have after : ∀ (old' : Nat → Int32), (∀ j, j < 18 * E → old' j = lg j) → Ex (d + 8) mX11_restore (74, [(0, .ref 364), (1, .int (nI ts.length)), (2, .int (nI E)), (3, .int (nI fx)), (4, .int (nI (18 * E)))], [], G1.set 366 (cI 108000 old')) Q := by
      intro old' ho
      have R2 : RT (G1.set 366 (cI 108000 old')) lg E fx st sh shs (nI mn) im (nI 0) (nI (r + 1)) nn := RT_out R1 fun j h1 h2 h3 => List.getElem?_set_ne (fun z => h3 z.symm)
      have F2 : FR G (G1.set 366 (cI 108000 old')) := F1.set (by omega)
      have d366 : (G1.set 366 (cI 108000 old'))[366]? = some (cI 108000 old') := get_set c366
      have d374 : (G1.set 366 (cI 108000 old'))[374]? = some (cI 40 gv) := by rw [List.getElem?_set_ne (by omega)]; exact c374
      have d375 : (G1.set 366 (cI 108000 old'))[375]? = some (cI 360 ls) := by rw [List.getElem?_set_ne (by omega)]; exact c375
      have d376 : (G1.set 366 (cI 108000 old'))[376]? = some (cI 40000 imf) := by rw [List.getElem?_set_ne (by omega)]; exact c376
      have d377 : (G1.set 366 (cI 108000 old'))[377]? = some (cI 40000 tpf) := by rw [List.getElem?_set_ne (by omega)]; exact c377
      have hL2 : 378 ≤ (G1.set 366 (cI 108000 old')).length := by rw [List.length_set]; exact hL1
      generalize G1.set 366 (cI 108000 old') = G2 at R2 F2 d366 d374 d375 d376 d377 hL2 ⊢
      obtain ⟨w2, q2, -⟩ := RT_fs R2
      -- it could not be
      have bad : ∀ (a : Nat) (lg1 : Nat → Int32) (E1 fx1 : Nat) (nn1 : Nat → Int32) (G3 : bo_G), a ≤ 40000 → rst ts (ts.length + 1) 0 lg 0 = (false, a, lg1, E1) → RT G3 lg1 E1 fx1 st sh shs (nI mn) im (nI 0) (nI (r + 1)) nn1 → FA G2 G3 → Ex (d + 8) mX11_restore (166, [(0, .ref 364), (1, .int (nI ts.length)), (2, .int (nI E)), (3, .int (nI fx)), (4, .int (nI a)), (5, .int 0)], [], G3) Q := by
        intro a lg1 E1 fx1 nn1 G3 ha4 hres R3 F3
        rw [hres] at kb
        have kb := kb rfl
        obtain ⟨w3, q3, -⟩ := RT_fs R3
        (repeat (first | refine Ex.go rfl rfl ?_ | refine Ex.gf rfl rfl (by assumption) (by rfl) (by first | rfl | assumption) ?_))
        refine Ex.cv0 rfl rfl rfl (by assumption) (by rfl) (by decide) rfl ?_
        refine r_empty R3 (fun G4 R4 F4 => ?_)
        have F4 := F3.trans F4
        have l0 := r_anew (d := d) (Q := Q) (G := G2) (v1 := nI ts.length) (v3 := nI fx) (v4 := nI a) (v5 := 0) (st := st) (sh := sh) (shs := shs) (mnI := nI mn) (im := im) (tp := nI 0) (rs := nI (r + 1)) (lg1 := lg1) hW hZ hE ho d366 hL2 (fun lg' G5 fx' nn' hg R5 F5 => by
          obtain ⟨w5, q5, hf5⟩ := RT_fs R5
          have R6 := hf5 w5 st sh shs (nI mn) im (nI 0) (nI (r + 1)) fx
          have F6 := F5.set (c := cO 11 (rF E fx (tdy lg' E) (acl lg' E).length (osl lg' E).length (vsl lg' E).length (rsl lg' E).length st sh shs w5 (nI mn) im (nI 0) (nI (r + 1)))) (show 364 ≤ 364 ∧ 364 ≤ 373 ∧ 364 ≠ 366 by omega)
          have kb := kb _ lg' hg (RS_fa (tpf := tpf) (ts := []) (old := old') ⟨agr.nil _, Nat.zero_le _⟩ ⟨d366, d374, d375, d376, d377⟩ F6 R6) (F2.trans F6.fr)
          (repeat (first | refine Ex.go rfl rfl ?_ | refine Ex.gf rfl rfl (by assumption) (by rfl) (by first | rfl | assumption) ?_))
          refine Ex.pf rfl rfl (by assumption) (by rfl) (by rfl) (by rfl) ?_
          (repeat (first | refine Ex.go rfl rfl ?_ | refine Ex.gf rfl rfl (by assumption) (by rfl) (by first | rfl | assumption) ?_))
          refine Ex.ret rfl rfl rfl ?_
          exact kb) E 0 _ lg1 0 nn1 G4 rfl (by omega) (fun j hj => absurd hj (by omega)) R4 F4
        (repeat (first | exact l0 | refine Ex.go rfl rfl ?_ | refine Ex.gf rfl rfl (by assumption) (by rfl) (by first | rfl | assumption) ?_))
      have loop : ∀ (f a : Nat) (b : Int32) (lg1 : Nat → Int32) (E1 fx1 : Nat) (nn1 : Nat → Int32) (G3 : bo_G), b = nI a → ts.length < a + f → a ≤ 40020 → rst ts (ts.length + 1) 0 lg 0 = rst ts f a lg1 E1 → WF lg1 E1 → RT G3 lg1 E1 fx1 st sh shs (nI mn) im (nI 0) (nI (r + 1)) nn1 → FA G2 G3 → Ex (d + 8) mX11_restore (84, [(0, .ref 364), (1, .int (nI ts.length)), (2, .int (nI E)), (3, .int (nI fx)), (4, .int b), (5, .int 1)], [], G3) Q := by
        intro f
        induction f with
        | zero =>
          intro a b lg1 E1 fx1 nn1 G3 hb hlt ha hres hW1 R3 F3
          subst hb
          have hres' : rst ts (ts.length + 1) 0 lg 0 = (true, a, lg1, E1) := hres
          rw [hres'] at kg
          have kg := kg rfl
          obtain ⟨w3, q3, hf3⟩ := RT_fs R3
          have R6 := hf3 w3 0 (-1) shs (nI 0) im (nI 0) (nI (r + 1)) E1
          have F6 := F3.set (c := cO 11 (rF E1 E1 (tdy lg1 E1) (acl lg1 E1).length (osl lg1 E1).length (vsl lg1 E1).length (rsl lg1 E1).length 0 (-1) shs w3 (nI 0) im (nI 0) (nI (r + 1)))) (show 364 ≤ 364 ∧ 364 ≤ 373 ∧ 364 ≠ 366 by omega)
          have kg := kg _ (RS_fa (tpf := tpf) (ts := []) (old := old') (mn := 0) ⟨agr.nil _, Nat.zero_le _⟩ ⟨d366, d374, d375, d376, d377⟩ F6 R6) (F2.trans F6.fr)
          (repeat (first | refine Ex.go rfl rfl ?_ | refine Ex.gf rfl rfl (by assumption) (by rfl) (by first | rfl | assumption) ?_))
          refine Ex.br (fun h1 => ?_) (fun h1 => ?_); rotate_left
          · exact absurd (nI_le (show ts.length ≤ a by omega) (by omega)) h1
          refine Ex.lay [(364, cO 11 (rF E1 fx1 (tdy lg1 E1) (acl lg1 E1).length (osl lg1 E1).length (vsl lg1 E1).length (rsl lg1 E1).length st sh shs w3 (nI mn) im (nI 0) (nI (r + 1))))] (lay1 q3) ?_
          have hA := ap1 q3
          (repeat (first | refine Ex.go rfl rfl ?_ | refine Ex.gf rfl rfl (ov_get hA 0 rfl) (by rfl) (by rfl) ?_ | refine Ex.gf rfl rfl (ov_get hA 1 rfl) (by rfl) (by rfl) ?_ | refine Ex.gf rfl rfl (ov_get hA 2 rfl) (by rfl) (by rfl) ?_ | refine Ex.gf rfl rfl (ov_get hA 3 rfl) (by rfl) (by rfl) ?_ | refine Ex.gf rfl rfl (ov_get hA 4 rfl) (by rfl) (by rfl) ?_ | refine Ex.gf rfl rfl (ov_get hA 5 rfl) (by rfl) (by rfl) ?_ | refine Ex.gf rfl rfl (ov_get hA 6 rfl) (by rfl) (by rfl) ?_ | (refine Ex.pfo hA 0 rfl rfl rfl (by rfl) (by rfl) (by rfl) ?_; dsimp only [List.set]) | (refine Ex.pfo hA 1 rfl rfl rfl (by rfl) (by rfl) (by rfl) ?_; dsimp only [List.set]) | (refine Ex.pfo hA 2 rfl rfl rfl (by rfl) (by rfl) (by rfl) ?_; dsimp only [List.set]) | (refine Ex.pfo hA 3 rfl rfl rfl (by rfl) (by rfl) (by rfl) ?_; dsimp only [List.set]) | (refine Ex.pfo hA 4 rfl rfl rfl (by rfl) (by rfl) (by rfl) ?_; dsimp only [List.set]) | (refine Ex.pfo hA 5 rfl rfl rfl (by rfl) (by rfl) (by rfl) ?_; dsimp only [List.set]) | (refine Ex.pfo hA 6 rfl rfl rfl (by rfl) (by rfl) (by rfl) ?_; dsimp only [List.set])))
          refine Ex.ret rfl rfl rfl ?_
          exact kg
        | succ f ih =>
          intro a b lg1 E1 fx1 nn1 G3 hb hlt ha hres hW1 R3 F3
          subst hb
          obtain ⟨w3, q3, hf3⟩ := RT_fs R3
          by_cases hal : a < ts.length
          · have es : rst ts (f + 1) a lg1 E1 = if tkP ts a lg1 E1 then rst ts f (a + 1 + numc (tpC ts a).toNatClampNeg) (lgN lg1 E1 (tpC ts a).toNatClampNeg (tpN ts a)) (E1 + 1) else (false, a, lg1, E1) := if_pos hal
            have e377 : G3[377]? = some (cI 40000 tpf) := by rw [F3.2 _ (by omega)]; exact d377
            (repeat (first | refine Ex.go rfl rfl ?_ | refine Ex.gf rfl rfl (by assumption) (by rfl) (by first | rfl | assumption) ?_))
            refine Ex.br (fun h1 => ?_) (fun h1 => ?_)
            · have := (n_ge (a := a) (b := ts.length) (by omega) (by omega)).mp h1
              omega
            (repeat (first | refine Ex.go rfl rfl ?_ | refine Ex.gf rfl rfl (by assumption) (by rfl) (by first | rfl | assumption) ?_))
            refine Ex.cv2 rfl rfl rfl (by assumption) (by rfl) (by decide) rfl ?_
            refine r_taken R3 hW1 (by rw [F3.1]; exact hL2) e377 ht h4 hal (fun hno G4 nn4 R4 F4 => ?_) (fun hyes G4 nn4 R4 F4 => ?_)
            · rw [if_neg hno] at es
              have bb := bad a lg1 E1 fx1 nn4 G4 (by omega) (hres.trans es) R4 (F3.trans F4)
              have e0 : nI a + 0 = nI a := Int32.add_zero _
              rw [← e0] at bb
              (repeat (first | exact bb | refine Ex.go rfl rfl ?_ | refine Ex.gf rfl rfl (by assumption) (by rfl) (by first | rfl | assumption) ?_))
            · rw [if_pos hyes] at es
              obtain ⟨w4, q4, -⟩ := RT_fs R4
              have e377' : G4[377]? = some (cI 40000 tpf) := by rw [F4.2 _ (by omega)]; exact e377
              have e0 : tpf a = tpC ts a := by unfold tpC; rw [List.getD_eq_getElem?_getD, ht a hal]; rfl
              obtain ⟨e1, e2, e3⟩ := nI_iof hyes.1.1
              have hc12 : (tpC ts a).toNatClampNeg < 12 := by have := hyes.1.2; omega
              have hn15 := numc_le (tpC ts a).toNatClampNeg
              have hlen := hyes.2.1
              have hWN := (WF_N hW1 hc12 hyes.2.2).2.2
              generalize (tpC ts a).toNatClampNeg = c at e1 e2 e3 hc12 hn15 hlen hWN es R4
              have ea : nI a + (1 + nI (numc c)) = nI (a + 1 + numc c) := by
                show nI a + (nI 1 + nI (numc c)) = _
                rw [nI_add, nI_add]
                congr 1
                omega
              have nxt := ih _ _ _ _ _ _ G4 ea (by omega) (by omega) (hres.trans es) hWN R4 (F3.trans F4)
              (repeat (first | refine Ex.go rfl rfl ?_ | refine Ex.gf rfl rfl (by assumption) (by rfl) (by first | rfl | assumption) ?_))
              refine Ex.ialN rfl (j := a) rfl e377' (by omega) (by omega) ?_
              rw [e0, e1]
              refine Ex.cs1 rfl rfl rfl rfl rfl rfl ?_
              refine r_numbers hc12 ?_
              (repeat (first | exact nxt | refine Ex.go rfl rfl ?_ | refine Ex.gf rfl rfl (by assumption) (by rfl) (by first | rfl | assumption) ?_))
          · have es : rst ts (f + 1) a lg1 E1 = (true, a, lg1, E1) := if_neg hal
            rw [hres.trans es] at kg
            have kg := kg rfl
            have R6 := hf3 w3 0 (-1) shs (nI 0) im (nI 0) (nI (r + 1)) E1
            have F6 := F3.set (c := cO 11 (rF E1 E1 (tdy lg1 E1) (acl lg1 E1).length (osl lg1 E1).length (vsl lg1 E1).length (rsl lg1 E1).length 0 (-1) shs w3 (nI 0) im (nI 0) (nI (r + 1)))) (show 364 ≤ 364 ∧ 364 ≤ 373 ∧ 364 ≠ 366 by omega)
            have kg := kg _ (RS_fa (tpf := tpf) (ts := []) (old := old') (mn := 0) ⟨agr.nil _, Nat.zero_le _⟩ ⟨d366, d374, d375, d376, d377⟩ F6 R6) (F2.trans F6.fr)
            (repeat (first | refine Ex.go rfl rfl ?_ | refine Ex.gf rfl rfl (by assumption) (by rfl) (by first | rfl | assumption) ?_))
            refine Ex.br (fun h1 => ?_) (fun h1 => ?_); rotate_left
            · exact absurd (nI_le (show ts.length ≤ a by omega) (by omega)) h1
            refine Ex.lay [(364, cO 11 (rF E1 fx1 (tdy lg1 E1) (acl lg1 E1).length (osl lg1 E1).length (vsl lg1 E1).length (rsl lg1 E1).length st sh shs w3 (nI mn) im (nI 0) (nI (r + 1))))] (lay1 q3) ?_
            have hA := ap1 q3
            (repeat (first | refine Ex.go rfl rfl ?_ | refine Ex.gf rfl rfl (ov_get hA 0 rfl) (by rfl) (by rfl) ?_ | refine Ex.gf rfl rfl (ov_get hA 1 rfl) (by rfl) (by rfl) ?_ | refine Ex.gf rfl rfl (ov_get hA 2 rfl) (by rfl) (by rfl) ?_ | refine Ex.gf rfl rfl (ov_get hA 3 rfl) (by rfl) (by rfl) ?_ | refine Ex.gf rfl rfl (ov_get hA 4 rfl) (by rfl) (by rfl) ?_ | refine Ex.gf rfl rfl (ov_get hA 5 rfl) (by rfl) (by rfl) ?_ | refine Ex.gf rfl rfl (ov_get hA 6 rfl) (by rfl) (by rfl) ?_ | (refine Ex.pfo hA 0 rfl rfl rfl (by rfl) (by rfl) (by rfl) ?_; dsimp only [List.set]) | (refine Ex.pfo hA 1 rfl rfl rfl (by rfl) (by rfl) (by rfl) ?_; dsimp only [List.set]) | (refine Ex.pfo hA 2 rfl rfl rfl (by rfl) (by rfl) (by rfl) ?_; dsimp only [List.set]) | (refine Ex.pfo hA 3 rfl rfl rfl (by rfl) (by rfl) (by rfl) ?_; dsimp only [List.set]) | (refine Ex.pfo hA 4 rfl rfl rfl (by rfl) (by rfl) (by rfl) ?_; dsimp only [List.set]) | (refine Ex.pfo hA 5 rfl rfl rfl (by rfl) (by rfl) (by rfl) ?_; dsimp only [List.set]) | (refine Ex.pfo hA 6 rfl rfl rfl (by rfl) (by rfl) (by rfl) ?_; dsimp only [List.set])))
            refine Ex.ret rfl rfl rfl ?_
            exact kg
      (repeat (first | refine Ex.go rfl rfl ?_ | refine Ex.gf rfl rfl (by assumption) (by rfl) (by first | rfl | assumption) ?_))
      refine Ex.cv0 rfl rfl rfl (by assumption) (by rfl) (by decide) rfl ?_
      refine r_empty R2 (fun G4 R4 F4 => ?_)
      have hW0 : WF lg 0 := ⟨fun i hi => absurd hi (Nat.not_lt_zero _), Nat.zero_le _, Nat.zero_le _, Nat.zero_le _⟩
      have l0 := loop (ts.length + 1) 0 _ lg 0 0 nn G4 rfl (by omega) (by omega) rfl hW0 R4 F4
      (repeat (first | exact l0 | refine Ex.go rfl rfl ?_ | refine Ex.gf rfl rfl (by assumption) (by rfl) (by first | rfl | assumption) ?_))
    have copy : ∀ (e i : Nat) (b : Int32) (old' : Nat → Int32), b = nI i → i + e = 18 * E → (∀ j, j < i → old' j = lg j) → Ex (d + 8) mX11_restore (45, [(0, .ref 364), (1, .int (nI ts.length)), (2, .int (nI E)), (3, .int (nI fx)), (4, .int b)], [], G1.set 366 (cI 108000 old')) Q := by
      intro e
      induction e with
      | zero =>
        intro i b old' hb hi ho
        have hiE : i = 18 * E := by omega
        subst hb
        have af := after old' (fun j hj => ho j (by omega))
        (repeat (first | refine Ex.go rfl rfl ?_ | refine Ex.gf rfl rfl (by assumption) (by rfl) (by first | rfl | assumption) ?_))
        refine Ex.br (fun h1 => ?_) (fun h1 => ?_); rotate_left
        · exact absurd (show nI 18 * nI E ≤ nI i by rw [pk_mul]; exact nI_le (by omega) (by omega)) h1
        rw [hiE]
        (repeat (first | exact af | refine Ex.go rfl rfl ?_ | refine Ex.gf rfl rfl (by assumption) (by rfl) (by first | rfl | assumption) ?_))
      | succ e ih =>
        intro i b old' hb hi ho
        subst hb
        have p1 : (G1.set 366 (cI 108000 old'))[364]? = some (cO 11 (rF E fx (tdy lg E) (acl lg E).length (osl lg E).length (vsl lg E).length (rsl lg E).length st sh shs w1 (nI mn) im (nI 0) (nI (r + 1)))) := by rw [List.getElem?_set_ne (by omega)]; exact q1
        have p365 : (G1.set 366 (cI 108000 old'))[365]? = some (cI 108000 lg) := by
          rw [List.getElem?_set_ne (by omega)]
          obtain ⟨_, _, _, _, _, _, _, R', -⟩ := R1
          exact R'.2.1.1
        have p366 : (G1.set 366 (cI 108000 old'))[366]? = some (cI 108000 old') := get_set c366
        have nxt := ih (i + 1) _ (upd old' i (lg i)) (nI_1 i) (by omega) (fun j hj => by
          by_cases hji : j = i
          · rw [hji, pk_us]
          · rw [pk_un hji]; exact ho j (by omega))
        (repeat (first | refine Ex.go rfl rfl ?_ | refine Ex.gf rfl rfl (by assumption) (by rfl) (by first | rfl | assumption) ?_))
        refine Ex.br (fun h1 => ?_) (fun h1 => ?_)
        · have h2 : nI 18 * nI E ≤ nI i := h1
          rw [pk_mul, nI_leI (by omega) (by omega)] at h2
          omega
        (repeat (first | refine Ex.go rfl rfl ?_ | refine Ex.gf rfl rfl (by assumption) (by rfl) (by first | rfl | assumption) ?_))
        refine Ex.ialN rfl (j := i) rfl p365 (by omega) (by omega) ?_
        refine Ex.iasN rfl (j := i) rfl p366 (by omega) (by omega) ?_
        rw [List.set_set]
        (repeat (first | exact nxt | refine Ex.go rfl rfl ?_ | refine Ex.gf rfl rfl (by assumption) (by rfl) (by first | rfl | assumption) ?_))
    have c0 := copy (18 * E) 0 _ old rfl (by omega) (fun j hj => absurd hj (Nat.not_lt_zero _))
    rw [set_self c366] at c0
    (repeat (first | exact c0 | refine Ex.go rfl rfl ?_ | refine Ex.gf rfl rfl (by assumption) (by rfl) (by first | rfl | assumption) ?_))
  have rr := rest _ ((FR.rfl' G).set (by omega)) R1 (by rw [List.getElem?_set_ne (by omega)]; exact c366) (by rw [List.getElem?_set_ne (by omega)]; exact c374) (by rw [List.getElem?_set_ne (by omega)]; exact c375) (by rw [List.getElem?_set_ne (by omega)]; exact c376) (by rw [List.getElem?_set_ne (by omega)]; exact c377)
  unfold rF at rr
  rw [← nI_1 r] at rr
  (repeat (first | exact rr | refine Ex.go rfl rfl ?_ | refine Ex.gf rfl rfl (ov_get hA 0 rfl) (by rfl) (by rfl) ?_ | refine Ex.gf rfl rfl (ov_get hA 1 rfl) (by rfl) (by rfl) ?_ | refine Ex.gf rfl rfl (ov_get hA 2 rfl) (by rfl) (by rfl) ?_ | refine Ex.gf rfl rfl (ov_get hA 3 rfl) (by rfl) (by rfl) ?_ | refine Ex.gf rfl rfl (ov_get hA 4 rfl) (by rfl) (by rfl) ?_ | refine Ex.gf rfl rfl (ov_get hA 5 rfl) (by rfl) (by rfl) ?_ | refine Ex.gf rfl rfl (ov_get hA 6 rfl) (by rfl) (by rfl) ?_ | (refine Ex.pfo hA 0 rfl rfl rfl (by rfl) (by rfl) (by rfl) ?_; dsimp only [List.set]) | (refine Ex.pfo hA 1 rfl rfl rfl (by rfl) (by rfl) (by rfl) ?_; dsimp only [List.set]) | (refine Ex.pfo hA 2 rfl rfl rfl (by rfl) (by rfl) (by rfl) ?_; dsimp only [List.set]) | (refine Ex.pfo hA 3 rfl rfl rfl (by rfl) (by rfl) (by rfl) ?_; dsimp only [List.set]) | (refine Ex.pfo hA 4 rfl rfl rfl (by rfl) (by rfl) (by rfl) ?_; dsimp only [List.set]) | (refine Ex.pfo hA 5 rfl rfl rfl (by rfl) (by rfl) (by rfl) ?_; dsimp only [List.set]) | (refine Ex.pfo hA 6 rfl rfl rfl (by rfl) (by rfl) (by rfl) ?_; dsimp only [List.set])))
end RR
