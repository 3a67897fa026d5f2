/-! The class: taking back, going over a tape. -/
/-- what several notings leave as it is: ws are the vessels made -/
def FD (a : Nat) (us : List Nat) (G : bo_G) (us' : List Nat) (G' : bo_G) : Prop := (∃ ws, us' = us ++ ws ∧ (∀ w ∈ ws, G.length ≤ w ∧ w + 6 ≤ G'.length) ∧ G'.length = G.length + 6 * ws.length) ∧ ∀ j, j < G.length → ¬ (a ≤ j ∧ j ≤ a + 4) → (∀ u ∈ us, ¬ (u ≤ j ∧ j < u + 6)) → G'[j]? = G[j]?
section FDs
variable {a : Nat} {us us1 us2 : List Nat} {G G1 G2 : bo_G}
theorem FD.rfl' (a : Nat) (us : List Nat) (G : bo_G) : FD a us G us G := ⟨⟨[], (List.append_nil _).symm, fun _ z => absurd z List.not_mem_nil, rfl⟩, fun _ _ _ _ => rfl⟩
theorem FC.fd (h : FC a us G us1 G1) : FD a us G us1 G1 := by
  refine ⟨?_, h.2⟩
  rcases h.1 with ⟨e, l⟩ | ⟨e, l⟩
  · exact ⟨[], by rw [e, List.append_nil], fun _ z => absurd z List.not_mem_nil, l⟩
  · exact ⟨[G.length], e, fun w hw => by rw [List.mem_singleton] at hw; omega, l⟩
theorem FO.fd (h : FO a G G1) : FD a us G us G1 := ⟨⟨[], (List.append_nil _).symm, fun _ z => absurd z List.not_mem_nil, h.1⟩, fun j _ hj _ => h.2 j hj⟩
theorem FD.trans (h : FD a us G us1 G1) (h2 : FD a us1 G1 us2 G2) : FD a us G us2 G2 := by
  obtain ⟨⟨ws, e, hw, l⟩, f⟩ := h
  obtain ⟨⟨ws2, e2, hw2, l2⟩, f2⟩ := h2
  refine ⟨⟨ws ++ ws2, by rw [e2, e, List.append_assoc], fun w h => ?_, by rw [List.length_append]; omega⟩, fun j hj hja hju => ?_⟩
  · rw [List.mem_append] at h
    rcases h with h | h
    · have := hw w h; omega
    · have := hw2 w h; omega
  · rw [f2 j (by omega) hja fun u hu => ?_]
    · exact f j hj hja hju
    · rw [e, List.mem_append] at hu
      rcases hu with hu | hu
      · exact hju u hu
      · have := hw u hu; omega
theorem FD.len (h : FD a us G us1 G1) {m : Nat} (hm : G.length = 378 + 6 * m) : ∃ m', G1.length = 378 + 6 * m' := by
  obtain ⟨⟨ws, -, -, l⟩, -⟩ := h
  exact ⟨m + ws.length, by omega⟩
end FDs
section CB
variable {d a m r lim cap : Nat} {G G' : bo_G} {Q : Option Value → bo_G → Prop} {us : List Nat} {lg : Nat → Int32} {E c i : Nat} {ke : Int32} {nn : Nat → Int32} {ts : List Int32} {y : rlT} {im pl en : List Int32} {f : Nat → Option Nat}
theorem NT_skip (N : NT G us lg i) (hc : cod lg i = 0) : NT G us lg (i + 1) := by
  have ev : vsl lg (i + 1) = vsl lg i := by rw [vsl_s, if_neg (by rw [hc]; decide), List.append_nil]
  refine ⟨N.1, by rw [ev]; exact N.2.1, N.2.2.1, N.2.2.2.1, fun j u hu => ?_⟩
  obtain ⟨x, K, v, l, n⟩ := N.2.2.2.2 j u hu
  refine ⟨x, K, v, l, fun hj => ?_⟩
  rw [ev] at hj
  exact VN_other (n hj) hj fun z => by
    have := z.1.1
    rw [hc] at this
    exact absurd this (by decide)
theorem c_lastAct0 (R : RW G a y im pl en f) (k : Q (some (.int (nI pl.length - 1))) G) : Cx (d + 1) mX3_lastAct [.ref a] G Q := by
  have h0 := R.1
  obtain ⟨c2, h2⟩ := R.2.2.1
  refine Cx.body rfl rfl ?_
  (repeat (first | refine Ex.go rfl rfl ?_ | refine Ex.gf rfl rfl (by assumption) (by rfl) (by first | rfl | assumption) ?_))
  refine Ex.cv0 rfl rfl rfl h2 (by rfl) (by decide) rfl ?_
  refine s_size h2 ?_
  (repeat (first | refine Ex.go rfl rfl ?_ | refine Ex.gf rfl rfl (by assumption) (by rfl) (by first | rfl | assumption) ?_))
  refine Ex.ret rfl rfl rfl ?_
  exact k
theorem n_m1 {n : Nat} (h : n < 2 ^ 30) : (nI n - 1).toInt = (n : Int) - 1 := z_sub (nI_toInt (by omega)) rfl (by omega)
theorem c_takeBack0 (C : CR G a us lg E (nI (acl lg E).length)) (hE : E ≤ 6000) (k : Q (some (.int (-1))) G) : Cx (d + 2) mX3_takeBack [.ref a] G Q := by
  have h0 := C.1.1
  have hl := sel_len E fun i => !(cod lg i == 0)
  have hal : (acl lg E).length ≤ E := hl
  refine Cx.body rfl rfl ?_
  (repeat (first | refine Ex.go rfl rfl ?_ | refine Ex.gf rfl rfl (by assumption) (by rfl) (by first | rfl | assumption) ?_))
  refine Ex.cv0 rfl rfl rfl h0 (by rfl) (by decide) rfl ?_
  refine c_lastAct0 C.1 ?_
  rw [List.length_map]
  (repeat (first | refine Ex.go rfl rfl ?_ | refine Ex.gf rfl rfl (by assumption) (by rfl) (by first | rfl | assumption) ?_))
  refine Ex.br (fun h1 => ?_) (fun h1 => ?_)
  · have h2 : (nI (acl lg E).length).toInt ≤ (nI (acl lg E).length - 1).toInt := Int32.le_iff_toInt_le.mp h1
    rw [n_m1 (by omega), nI_toInt (by omega)] at h2
    omega
  (repeat (first | refine Ex.go rfl rfl ?_ | refine Ex.gf rfl rfl (by assumption) (by rfl) (by first | rfl | assumption) ?_))
  refine Ex.ret rfl rfl rfl ?_
  exact k
theorem rcut_n {xs : List Int32} {n : Nat} (h : n ≤ xs.length) (h31 : n < 2 ^ 31) : rcut (nI n) xs = xs.take n := by
  unfold rcut
  rw [if_pos ⟨nI_pos' h31, by rw [nI_clamp h31]; exact h⟩, nI_clamp h31]
theorem take_app {α : Type} {xs ys : List α} : (xs ++ ys).take xs.length = xs := by simp
theorem c_takeBack {kk : Nat} (ha : a = 2 ∨ a = 7) (C : CR G a us lg (E + 1) (nI kk)) (hW : WF lg (E + 1)) (hE : E < 6000) (hc0 : ¬ cod lg E = 0) (hkk : kk ≤ (acl lg E).length) (hm : G.length = 378 + 6 * m) (k : ∀ G' us', CR G' a us' lg E (nI kk) → FD a us G us' G' → Q (some (.int (cod lg E))) G') : Cx (d + 5) mX3_takeBack [.ref a] G Q := by
  have h0 := C.1.1
  have hl := sel_len E fun i => !(cod lg i == 0)
  have hal : (acl lg E).length ≤ E := hl
  have ea : acl lg (E + 1) = acl lg E ++ [E] := by rw [acl_s, if_neg hc0]
  have eo : osl lg (E + 1) = osl lg E := by rw [osl_s, if_neg hc0, List.append_nil]
  have et : tdy lg (E + 1) = tdy lg E := if_neg hc0
  have hil := WF_img hW
  have ei : img lg (E + 1) = img lg E ++ (cod lg E :: (List.range (nums (cod lg E))).map (num lg E)) := rfl
  have hpl : posn lg E < 40000 := by
    have := posn_s lg E
    unfold posn at this ⊢
    omega
  have hW2 := WF_U hW
  have hlt := C.1.lt
  obtain ⟨R, N⟩ := C
  obtain ⟨ci, h1⟩ := R.2.1
  obtain ⟨cp, h2⟩ := R.2.2.1
  obtain ⟨ce, h3⟩ := R.2.2.2.1
  have epl : bo_at ((acl lg (E + 1)).map fun q => nI (posn lg q)) (nI (acl lg E).length) = nI (posn lg E) := map_at (by rw [ea, List.getElem?_append_right (Nat.le_refl _), Nat.sub_self]; rfl) (by omega)
  have eco : bo_at (img lg (E + 1)) (nI (posn lg E)) = cod lg E := by
    have := img_bo (lg := lg) (i := E) (E := E + 1) (k := 0) (by omega) hil (by omega)
    rw [if_pos rfl] at this
    rw [← this]
    congr 1
    exact (Int32.add_zero _).symm
  refine Cx.body rfl rfl ?_
  (repeat (first | refine Ex.go rfl rfl ?_ | refine Ex.gf rfl rfl (by assumption) (by rfl) (by first | rfl | assumption) ?_))
  refine Ex.cv0 rfl rfl rfl h0 (by rfl) (by decide) rfl ?_
  refine c_lastAct R (by rw [ea]; simp) ?_
  rw [show ((acl lg (E + 1)).map fun q => nI (posn lg q)).length - 1 = (acl lg E).length by rw [ea]; simp]
  (repeat (first | refine Ex.go rfl rfl ?_ | refine Ex.gf rfl rfl (by assumption) (by rfl) (by first | rfl | assumption) ?_))
  refine Ex.br (fun b1 => ?_) (fun b1 => ?_); rotate_left
  · exact absurd (show nI kk ≤ nI (acl lg E).length from nI_le hkk (by omega)) b1
  (repeat (first | refine Ex.go rfl rfl ?_ | refine Ex.gf rfl rfl (by assumption) (by rfl) (by first | rfl | assumption) ?_))
  refine Ex.cv1 rfl rfl rfl h2 (by rfl) (by decide) rfl ?_
  refine Cx.ratE h2 epl ?_
  (repeat (first | refine Ex.go rfl rfl ?_ | refine Ex.gf rfl rfl (by assumption) (by rfl) (by first | rfl | assumption) ?_))
  refine Ex.cv1 rfl rfl rfl h1 (by rfl) (by decide) rfl ?_
  refine Cx.ratE h1 eco ?_
  (repeat (first | refine Ex.go rfl rfl ?_ | refine Ex.gf rfl rfl (by assumption) (by rfl) (by first | rfl | assumption) ?_))
  refine Ex.cv1 rfl rfl rfl h1 (by rfl) (by decide) rfl ?_
  refine s_cut h1 (by omega) ?_
  rw [show rcut (nI (posn lg E)) (img lg (E + 1)) = img lg E by rw [rcut_n (by rw [ei, List.length_append]; unfold posn; omega) (by omega), ei]; exact take_app]
  obtain ⟨R1, F1⟩ := R.setI ci (img lg E)
  generalize G.set (a + 1) (cR 40000 ci (img lg E)) = G1 at R1 F1 ⊢
  have h01 := R1.1
  obtain ⟨cp, h2⟩ := R1.2.2.1
  (repeat (first | refine Ex.go rfl rfl ?_ | refine Ex.gf rfl rfl (by assumption) (by rfl) (by first | rfl | assumption) ?_))
  refine Ex.cv1 rfl rfl rfl h2 (by rfl) (by decide) rfl ?_
  refine s_cut h2 (by rw [List.length_map, ea]; simp; omega) ?_
  rw [show rcut (nI (acl lg E).length) ((acl lg (E + 1)).map fun q => nI (posn lg q)) = (acl lg E).map fun q => nI (posn lg q) by
    rw [rcut_n (by rw [List.length_map, ea]; simp) (by omega), ea, List.map_append]
    conv => lhs; arg 1; rw [← List.length_map (fun q => nI (posn lg q)) (as := acl lg E)]
    exact take_app]
  obtain ⟨R2, F2⟩ := R1.setP cp ((acl lg E).map fun q => nI (posn lg q))
  generalize G1.set (a + 2) (cR 2000 cp ((acl lg E).map fun q => nI (posn lg q))) = G2 at R2 F2 ⊢
  have h02 := R2.1
  obtain ⟨ce, h3⟩ := R2.2.2.2.1
  (repeat (first | refine Ex.go rfl rfl ?_ | refine Ex.gf rfl rfl (by assumption) (by rfl) (by first | rfl | assumption) ?_))
  refine Ex.cv1 rfl rfl rfl h3 (by rfl) (by decide) rfl ?_
  refine s_cut h3 (by rw [List.length_map, ea]; simp; omega) ?_
  rw [show rcut (nI (acl lg E).length) ((acl lg (E + 1)).map (ent lg)) = (acl lg E).map (ent lg) by
    rw [rcut_n (by rw [List.length_map, ea]; simp) (by omega), ea, List.map_append]
    conv => lhs; arg 1; rw [← List.length_map (ent lg) (as := acl lg E)]
    exact take_app]
  obtain ⟨R3, F3⟩ := R2.setE ce ((acl lg E).map (ent lg))
  generalize G2.set (a + 3) (cR 2000 ce ((acl lg E).map (ent lg))) = G3 at R3 F3 ⊢
  have h03 := R3.1
  obtain ⟨R4, F4⟩ := R3.setO (nI 0, nI 0, nI (osl lg E).length, tdy lg E, nI kk)
  have F5 := ((F1.trans F2).trans F3).trans F4
  have N4 : NT (G3.set a (rC a (nI 0, nI 0, nI (osl lg E).length, tdy lg E, nI kk))) us lg 0 := NT_0 (N.FO (by omega) F5)
  have loop : ∀ (e n : Nat) (b : Int32) (us1 : List Nat) (G5 : bo_G), n + e = E → b = nI (acl lg n).length → RW G5 a (nI (vsl lg n).length, nI (rsl lg n).length, nI (osl lg E).length, tdy lg E, nI kk) (img lg E) ((acl lg E).map fun q => nI (posn lg q)) ((acl lg E).map (ent lg)) (fun j => us1[j]?) → NT G5 us1 lg n → FD a us G us1 G5 → Ex (d + 5) mX3_takeBack (73, [(0, .ref a), (1, .int (nI (acl lg E).length)), (2, .int (nI (posn lg E))), (3, .int (cod lg E)), (4, .int b)], [], G5) Q := by
    intro e
    induction e with
    | zero =>
      intro n b us1 G5 hn hb R5 N5 F5
      have hnE : n = E := by omega
      rw [hnE] at R5 N5 hb
      subst hb
      have k := k G5 us1 ⟨R5, N5⟩ F5
      (repeat (first | refine Ex.go rfl rfl ?_ | refine Ex.gf rfl rfl (by assumption) (by rfl) (by first | rfl | assumption) ?_))
      refine Ex.br (fun c1 => ?_) (fun c1 => ?_); rotate_left
      · exact absurd (Int32.le_refl _) c1
      (repeat (first | refine Ex.go rfl rfl ?_ | refine Ex.gf rfl rfl (by assumption) (by rfl) (by first | rfl | assumption) ?_))
      refine Ex.ret rfl rfl rfl ?_
      exact k
    | succ e ih =>
      intro n b us1 G5 hn hb R5 N5 F5
      by_cases hcn : cod lg n = 0
      · have e1 : vsl lg (n + 1) = vsl lg n := by rw [vsl_s, if_neg (by rw [hcn]; decide), List.append_nil]
        have e2 : rsl lg (n + 1) = rsl lg n := by rw [rsl_s, if_neg (by rw [hcn]; decide), List.append_nil]
        have e3 : acl lg (n + 1) = acl lg n := by rw [acl_s, if_pos hcn, List.append_nil]
        exact ih (n + 1) b us1 G5 (by omega) (by rw [e3]; exact hb) (by rw [e1, e2]; exact R5) (NT_skip N5 hcn) F5
      · have e3 : acl lg (n + 1) = acl lg n ++ [n] := by rw [acl_s, if_neg hcn]
        obtain ⟨rr, hrr⟩ := sel_pre (P := fun i => !(cod lg i == 0)) (show n + 1 ≤ E by omega)
        have hrr' : acl lg E = acl lg (n + 1) ++ rr := hrr
        have hk : (acl lg E)[(acl lg n).length]? = some n := by
          rw [hrr', e3, List.append_assoc, List.getElem?_append_right (Nat.le_refl _), Nat.sub_self]; rfl
        have hlt2 : (acl lg n).length < (acl lg E).length := by rw [hrr', e3]; simp
        subst hb
        have h05 := R5.1
        obtain ⟨m5, hm5⟩ := F5.len hm
        (repeat (first | refine Ex.go rfl rfl ?_ | refine Ex.gf rfl rfl (by assumption) (by rfl) (by first | rfl | assumption) ?_))
        refine Ex.br (fun c1 => ?_) (fun c1 => ?_)
        · have c2 := (n_ge (a := (acl lg n).length) (b := (acl lg E).length) (by omega) (by omega)).mp c1
          omega
        (repeat (first | refine Ex.go rfl rfl ?_ | refine Ex.gf rfl rfl (by assumption) (by rfl) (by first | rfl | assumption) ?_))
        refine Ex.cv2 rfl rfl rfl h05 (by rfl) (by decide) rfl ?_
        refine c_noted (m := m5) ha R5 N5 hm5 hk hW2.1 (by omega) (WF_img hW2) hW2.2.1 (fun G6 us2 R6 N6 F6 => ?_)
        have nxt := ih (n + 1) (nI (acl lg n).length + 1) us2 G6 (by omega) (by rw [e3, List.length_append]; exact nI_1 _) R6 N6 (F5.trans F6.fd)
        (repeat (first | exact nxt | refine Ex.go rfl rfl ?_ | refine Ex.gf rfl rfl (by assumption) (by rfl) (by first | rfl | assumption) ?_))
  have l0 := loop E 0 0 us _ (by omega) rfl R4 N4 F5.fd
  rw [eo, et] at h03
  refine Ex.lay [(a, rC a (nI (vsl lg (E + 1)).length, nI (rsl lg (E + 1)).length, nI (osl lg E).length, tdy lg E, nI kk))] (lay1 h03) ?_
  have hA := ap1 h03
  (repeat (first | exact l0 | refine Ex.go rfl rfl ?_ | refine Ex.gf rfl rfl (ov_get hA 0 rfl) (by rfl) (by rfl) ?_ | refine Ex.gf rfl rfl (ov_get hA 1 rfl) (by rfl) (by rfl) ?_ | refine Ex.gf rfl rfl (ov_get hA 2 rfl) (by rfl) (by rfl) ?_ | refine Ex.gf rfl rfl (ov_get hA 3 rfl) (by rfl) (by rfl) ?_ | refine Ex.gf rfl rfl (ov_get hA 4 rfl) (by rfl) (by rfl) ?_ | refine Ex.gf rfl rfl (ov_get hA 5 rfl) (by rfl) (by rfl) ?_ | refine Ex.gf rfl rfl (ov_get hA 6 rfl) (by rfl) (by rfl) ?_ | (refine Ex.pfo hA 0 rfl rfl rfl (by rfl) (by rfl) (by rfl) ?_; dsimp only [List.set]) | (refine Ex.pfo hA 1 rfl rfl rfl (by rfl) (by rfl) (by rfl) ?_; dsimp only [List.set]) | (refine Ex.pfo hA 2 rfl rfl rfl (by rfl) (by rfl) (by rfl) ?_; dsimp only [List.set]) | (refine Ex.pfo hA 3 rfl rfl rfl (by rfl) (by rfl) (by rfl) ?_; dsimp only [List.set]) | (refine Ex.pfo hA 4 rfl rfl rfl (by rfl) (by rfl) (by rfl) ?_; dsimp only [List.set]) | (refine Ex.pfo hA 5 rfl rfl rfl (by rfl) (by rfl) (by rfl) ?_; dsimp only [List.set]) | (refine Ex.pfo hA 6 rfl rfl rfl (by rfl) (by rfl) (by rfl) ?_; dsimp only [List.set])))
theorem c_clear (ha : a = 2 ∨ a = 7) (C : CR G a us lg E ke) (hW : WF lg E) (k : ∀ G', CR G' a us lg 0 0 → FO a G G' → Q none G') : Cx (d + 1) mX3_clear [.ref a] G Q := by
  obtain ⟨R, N⟩ := C
  have h0 := R.1
  have hil := WF_img hW
  have hal := hW.2.2.1
  obtain ⟨ci, h1⟩ := R.2.1
  have r0 : ∀ xs, rcut (Int32.ofInt 0) xs = [] := rcut_0
  refine Cx.body rfl rfl ?_
  (repeat (first | refine Ex.go rfl rfl ?_ | refine Ex.gf rfl rfl (by assumption) (by rfl) (by first | rfl | assumption) ?_))
  refine Ex.cv1 rfl rfl rfl h1 (by rfl) (by decide) rfl ?_
  refine s_cut h1 (by omega) ?_
  rw [r0]
  obtain ⟨R1, F1⟩ := R.setI ci []
  generalize G.set (a + 1) (cR 40000 ci []) = G1 at R1 F1 ⊢
  have h01 := R1.1
  obtain ⟨cp, h2⟩ := R1.2.2.1
  (repeat (first | refine Ex.go rfl rfl ?_ | refine Ex.gf rfl rfl (by assumption) (by rfl) (by first | rfl | assumption) ?_))
  refine Ex.cv1 rfl rfl rfl h2 (by rfl) (by decide) rfl ?_
  refine s_cut h2 (by rw [List.length_map]; omega) ?_
  rw [r0]
  obtain ⟨R2, F2⟩ := R1.setP cp []
  generalize G1.set (a + 2) (cR 2000 cp []) = G2 at R2 F2 ⊢
  have h02 := R2.1
  obtain ⟨ce, h3⟩ := R2.2.2.2.1
  (repeat (first | refine Ex.go rfl rfl ?_ | refine Ex.gf rfl rfl (by assumption) (by rfl) (by first | rfl | assumption) ?_))
  refine Ex.cv1 rfl rfl rfl h3 (by rfl) (by decide) rfl ?_
  refine s_cut h3 (by rw [List.length_map]; omega) ?_
  rw [r0]
  obtain ⟨R3, F3⟩ := R2.setE ce []
  generalize G2.set (a + 3) (cR 2000 ce []) = G3 at R3 F3 ⊢
  have h03 := R3.1
  obtain ⟨R4, F4⟩ := R3.setO (nI 0, nI 0, nI 0, 0, 0)
  have F5 := ((F1.trans F2).trans F3).trans F4
  refine Ex.lay [(a, rC a (nI (vsl lg E).length, nI (rsl lg E).length, nI (osl lg E).length, tdy lg E, ke))] (lay1 h03) ?_
  have hA := ap1 h03
  (repeat (first | refine Ex.go rfl rfl ?_ | refine Ex.gf rfl rfl (ov_get hA 0 rfl) (by rfl) (by rfl) ?_ | refine Ex.gf rfl rfl (ov_get hA 1 rfl) (by rfl) (by rfl) ?_ | refine Ex.gf rfl rfl (ov_get hA 2 rfl) (by rfl) (by rfl) ?_ | refine Ex.gf rfl rfl (ov_get hA 3 rfl) (by rfl) (by rfl) ?_ | refine Ex.gf rfl rfl (ov_get hA 4 rfl) (by rfl) (by rfl) ?_ | refine Ex.gf rfl rfl (ov_get hA 5 rfl) (by rfl) (by rfl) ?_ | refine Ex.gf rfl rfl (ov_get hA 6 rfl) (by rfl) (by rfl) ?_ | (refine Ex.pfo hA 0 rfl rfl rfl (by rfl) (by rfl) (by rfl) ?_; dsimp only [List.set]) | (refine Ex.pfo hA 1 rfl rfl rfl (by rfl) (by rfl) (by rfl) ?_; dsimp only [List.set]) | (refine Ex.pfo hA 2 rfl rfl rfl (by rfl) (by rfl) (by rfl) ?_; dsimp only [List.set]) | (refine Ex.pfo hA 3 rfl rfl rfl (by rfl) (by rfl) (by rfl) ?_; dsimp only [List.set]) | (refine Ex.pfo hA 4 rfl rfl rfl (by rfl) (by rfl) (by rfl) ?_; dsimp only [List.set]) | (refine Ex.pfo hA 5 rfl rfl rfl (by rfl) (by rfl) (by rfl) ?_; dsimp only [List.set]) | (refine Ex.pfo hA 6 rfl rfl rfl (by rfl) (by rfl) (by rfl) ?_; dsimp only [List.set])))
  refine Ex.ret rfl rfl rfl ?_
  exact k _ ⟨R4, NT_0 (N.FO (by omega) F5)⟩ F5
/-- answers are not below 0 -/
theorem ans_ge (hW : WF lg E) (hc : c < 12) (h : rfs lg E c nn = 0) : 0 ≤ (ansI lg E c nn).toInt := by
  obtain ⟨ok, hE, hW2⟩ := WF_N hW hc h
  have hw := hW2.1 E (by omega)
  have nn0 : ∀ {n : Nat}, n ≤ 7000 → 0 ≤ (nI n).toInt := fun hn => by rw [nI_toInt (by omega)]; omega
  have N : ∀ k, k < numc c → num (lgN lg E c nn) E k = nn k := fun k hk => lgN_num hk
  have L : ∀ P : Nat → Bool, (sel E P).length ≤ 6000 := fun P => by have := sel_len E P; omega
  match c, hc with
  | 0, _ =>
    have w := wf_c0 hw lgN_cod
    have t := tdy_rng (lg := lgN lg E 0 nn) (E := E) (fun i hi => hW2.1 i (by omega))
    have w2 := w.2.1
    rw [N 0 (by decide)] at w2
    simp only [ansI]
    have := t.1
    have := w2.1
    omega
  | 1, _ => simp only [ansI]; exact nn0 (by have := L fun i => cod lg i == 1; unfold vsl; omega)
  | 2, _ => simp only [ansI]; exact nn0 (by have := L fun i => cod lg i == 2 && num lg i 0 == nI (nn 0).toNatClampNeg; unfold psl; omega)
  | 3, _ =>
    obtain ⟨_, -, -, _, -, -, w⟩ := wf_c3 hw lgN_cod
    have w2 := w.2.1
    rw [N 2 (by decide)] at w2
    simp only [ansI]
    have := w2.1
    omega
  | 4, _ => simp only [ansI]; exact nn0 (by have := msd_le (nn := nn) 12; omega)
  | 5, _ => simp only [ansI]; decide
  | 6, _ => simp only [ansI]; decide
  | 7, _ =>
    obtain ⟨_, -, -, _, -, -, w⟩ := wf_c7 hw lgN_cod
    have w2 := w.2.2.1
    rw [N 2 (by decide)] at w2
    simp only [ansI]
    exact w2.1
  | 8, _ => simp only [ansI]; exact nn0 (by have := L fun i => cod lg i == 8 && num lg i 0 == nI (nn 0).toNatClampNeg; unfold wsl; omega)
  | 9, _ =>
    obtain ⟨_, -, -, w⟩ := wf_c9 hw lgN_cod
    obtain ⟨-, _, -, -, w2, -⟩ := w
    rw [N 2 (by decide)] at w2
    simp only [ansI]
    have := w2.1
    omega
  | 10, _ => simp only [ansI]; exact nn0 (by have := L fun i => cod lg i == 10 && num lg i 0 == nI (nn 0).toNatClampNeg; unfold qsl; omega)
  | 11, _ => simp only [ansI]; exact nn0 (by have := L fun i => cod lg i == 11; unfold rsl; omega)
  | c + 12, z => exact absurd z (by omega)
theorem tp_at {pl j : Nat} (h : pl + 1 + j < 2 ^ 31) : bo_at ts (nI (pl + 1 + j)) = tpN ts pl j := by
  unfold bo_at tpN
  rw [if_pos (nI_pos' h), nI_clamp h]
theorem tp_c {pl : Nat} (h : pl < 2 ^ 31) : bo_at ts (nI pl) = tpC ts pl := by
  unfold bo_at tpC
  rw [if_pos (nI_pos' h), nI_clamp h]
theorem c_from0 {pl : Nat} {x0 x1 x2 x3 x4 x5 : Int32} (ha : a = 2 ∨ a = 7) (C : CR G a us lg E ke) (hW : WF lg E) (hm : G.length = 378 + 6 * m) (k0 : rfs lg E 0 (n6 x0 0 0 0 0 0) < 0 → Q (some (.int (rfs lg E 0 (n6 x0 0 0 0 0 0)))) G) (k1 : rfs lg E 0 (n6 x0 0 0 0 0 0) = 0 → ∀ G' us' ke', CR G' a us' (lgN lg E 0 (n6 x0 0 0 0 0 0)) (E + 1) ke' → FD a us G us' G' → Q (some (.int (ansI lg E 0 (n6 x0 0 0 0 0 0)))) G') : Ex (d + 7) mX3_enterFrom (120, [(0, .ref a), (1, .ref r), (2, .int (nI pl)), (3, .int x0), (4, .int x1), (5, .int x2), (6, .int x3), (7, .int x4), (8, .int x5)], [], G) Q := by
  have h0 := C.1.1
  (repeat (first | refine Ex.go rfl rfl ?_ | refine Ex.gf rfl rfl (by assumption) (by rfl) (by first | rfl | assumption) ?_))
  refine Ex.cv1 rfl rfl rfl h0 (by rfl) (by decide) rfl ?_
  refine c_goTo ha C hW (fun z => ?_) (fun z G2 C2 F2 => ?_)
  · have k := k0 z
    generalize rfs lg E 0 (n6 x0 0 0 0 0 0) = no at k
    (repeat (first | refine Ex.go rfl rfl ?_ | refine Ex.gf rfl rfl (by assumption) (by rfl) (by first | rfl | assumption) ?_))
    refine Ex.ret rfl rfl rfl ?_
    exact k
  · have k := k1 z G2 us _ C2 F2.fd
    rw [show ansI lg E 0 (n6 x0 0 0 0 0 0) = x0 by simp only [ansI]; rfl] at k
    (repeat (first | refine Ex.go rfl rfl ?_ | refine Ex.gf rfl rfl (by assumption) (by rfl) (by first | rfl | assumption) ?_))
    refine Ex.ret rfl rfl rfl ?_
    exact k
theorem c_from1 {pl : Nat} {x0 x1 x2 x3 x4 x5 : Int32} (ha : a = 2 ∨ a = 7) (C : CR G a us lg E ke) (hW : WF lg E) (hm : G.length = 378 + 6 * m) (k0 : rfs lg E 1 (n6 x0 x1 x2 x3 0 0) < 0 → Q (some (.int (rfs lg E 1 (n6 x0 x1 x2 x3 0 0)))) G) (k1 : rfs lg E 1 (n6 x0 x1 x2 x3 0 0) = 0 → ∀ G' us' ke', CR G' a us' (lgN lg E 1 (n6 x0 x1 x2 x3 0 0)) (E + 1) ke' → FD a us G us' G' → Q (some (.int (ansI lg E 1 (n6 x0 x1 x2 x3 0 0)))) G') : Ex (d + 7) mX3_enterFrom (126, [(0, .ref a), (1, .ref r), (2, .int (nI pl)), (3, .int x0), (4, .int x1), (5, .int x2), (6, .int x3), (7, .int x4), (8, .int x5)], [], G) Q := by
  have h0 := C.1.1
  (repeat (first | refine Ex.go rfl rfl ?_ | refine Ex.gf rfl rfl (by assumption) (by rfl) (by first | rfl | assumption) ?_))
  refine Ex.cv4 rfl rfl rfl h0 (by rfl) (by decide) rfl ?_
  refine c_enterVessel (m := m) ha C hW hm (fun z => ?_) (fun z G2 us2 C2 F2 => ?_)
  · have k := k0 z
    generalize rfs lg E 1 (n6 x0 x1 x2 x3 0 0) = no at k
    (repeat (first | refine Ex.go rfl rfl ?_ | refine Ex.gf rfl rfl (by assumption) (by rfl) (by first | rfl | assumption) ?_))
    refine Ex.ret rfl rfl rfl ?_
    exact k
  · have k := k1 z G2 us2 _ C2 F2.fd
    generalize ansI lg E 1 (n6 x0 x1 x2 x3 0 0) = an at k
    (repeat (first | refine Ex.go rfl rfl ?_ | refine Ex.gf rfl rfl (by assumption) (by rfl) (by first | rfl | assumption) ?_))
    refine Ex.ret rfl rfl rfl ?_
    exact k
theorem c_from2 {pl : Nat} {x0 x1 x2 x3 x4 x5 : Int32} (ha : a = 2 ∨ a = 7) (C : CR G a us lg E ke) (hW : WF lg E) (hm : G.length = 378 + 6 * m) (k0 : rfs lg E 2 (n6 x0 x1 x2 x3 x4 x5) < 0 → Q (some (.int (rfs lg E 2 (n6 x0 x1 x2 x3 x4 x5)))) G) (k1 : rfs lg E 2 (n6 x0 x1 x2 x3 x4 x5) = 0 → ∀ G' us' ke', CR G' a us' (lgN lg E 2 (n6 x0 x1 x2 x3 x4 x5)) (E + 1) ke' → FD a us G us' G' → Q (some (.int (ansI lg E 2 (n6 x0 x1 x2 x3 x4 x5)))) G') : Ex (d + 7) mX3_enterFrom (138, [(0, .ref a), (1, .ref r), (2, .int (nI pl)), (3, .int x0), (4, .int x1), (5, .int x2), (6, .int x3), (7, .int x4), (8, .int x5)], [], G) Q := by
  have h0 := C.1.1
  (repeat (first | refine Ex.go rfl rfl ?_ | refine Ex.gf rfl rfl (by assumption) (by rfl) (by first | rfl | assumption) ?_))
  refine Ex.cv6 rfl rfl rfl h0 (by rfl) (by decide) rfl ?_
  refine c_enterPart (m := m) ha C hW hm (fun z => ?_) (fun z G2 us2 C2 F2 => ?_)
  · have k := k0 z
    generalize rfs lg E 2 (n6 x0 x1 x2 x3 x4 x5) = no at k
    (repeat (first | refine Ex.go rfl rfl ?_ | refine Ex.gf rfl rfl (by assumption) (by rfl) (by first | rfl | assumption) ?_))
    refine Ex.ret rfl rfl rfl ?_
    exact k
  · have k := k1 z G2 us2 _ C2 F2.fd
    generalize ansI lg E 2 (n6 x0 x1 x2 x3 x4 x5) = an at k
    (repeat (first | refine Ex.go rfl rfl ?_ | refine Ex.gf rfl rfl (by assumption) (by rfl) (by first | rfl | assumption) ?_))
    refine Ex.ret rfl rfl rfl ?_
    exact k
theorem c_from3 {pl : Nat} {x0 x1 x2 x3 x4 x5 : Int32} (ha : a = 2 ∨ a = 7) (C : CR G a us lg E ke) (hW : WF lg E) (hm : G.length = 378 + 6 * m) (k0 : rfs lg E 3 (n6 x0 x1 x2 x3 x4 0) < 0 → Q (some (.int (rfs lg E 3 (n6 x0 x1 x2 x3 x4 0)))) G) (k1 : rfs lg E 3 (n6 x0 x1 x2 x3 x4 0) = 0 → ∀ G' us' ke', CR G' a us' (lgN lg E 3 (n6 x0 x1 x2 x3 x4 0)) (E + 1) ke' → FD a us G us' G' → Q (some (.int (ansI lg E 3 (n6 x0 x1 x2 x3 x4 0)))) G') : Ex (d + 7) mX3_enterFrom (154, [(0, .ref a), (1, .ref r), (2, .int (nI pl)), (3, .int x0), (4, .int x1), (5, .int x2), (6, .int x3), (7, .int x4), (8, .int x5)], [], G) Q := by
  have h0 := C.1.1
  (repeat (first | refine Ex.go rfl rfl ?_ | refine Ex.gf rfl rfl (by assumption) (by rfl) (by first | rfl | assumption) ?_))
  refine Ex.cv5 rfl rfl rfl h0 (by rfl) (by decide) rfl ?_
  refine c_enterShape (m := m) ha C hW hm (fun z => ?_) (fun z G2 us2 C2 F2 => ?_)
  · have k := k0 z
    generalize rfs lg E 3 (n6 x0 x1 x2 x3 x4 0) = no at k
    (repeat (first | refine Ex.go rfl rfl ?_ | refine Ex.gf rfl rfl (by assumption) (by rfl) (by first | rfl | assumption) ?_))
    refine Ex.ret rfl rfl rfl ?_
    exact k
  · have k := k1 z G2 us2 _ C2 F2.fd
    generalize ansI lg E 3 (n6 x0 x1 x2 x3 x4 0) = an at k
    (repeat (first | refine Ex.go rfl rfl ?_ | refine Ex.gf rfl rfl (by assumption) (by rfl) (by first | rfl | assumption) ?_))
    refine Ex.ret rfl rfl rfl ?_
    exact k
theorem c_from4 {pl : Nat} {x0 x1 x2 x3 x4 x5 : Int32} (ha : a = 2 ∨ a = 7) (C : CR G a us lg E ke) (hW : WF lg E) (hm : G.length = 378 + 6 * m) (hr0 : G[r]? = some (cR lim cap ts)) (hra : 12 ≤ r ∧ r < 378) (k0 : rfs lg E 4 (mNn x0 x1 x2 ts (pl + 4)) < 0 → Q (some (.int (rfs lg E 4 (mNn x0 x1 x2 ts (pl + 4))))) G) (k1 : rfs lg E 4 (mNn x0 x1 x2 ts (pl + 4)) = 0 → ∀ G' us' ke', CR G' a us' (lgN lg E 4 (mNn x0 x1 x2 ts (pl + 4))) (E + 1) ke' → FD a us G us' G' → Q (some (.int (ansI lg E 4 (mNn x0 x1 x2 ts (pl + 4))))) G') : Ex (d + 7) mX3_enterFrom (168, [(0, .ref a), (1, .ref r), (2, .int (nI pl)), (3, .int x0), (4, .int x1), (5, .int x2), (6, .int x3), (7, .int x4), (8, .int x5)], [], G) Q := by
  have h0 := C.1.1
  have e4 : nI pl + Int32.ofInt 4 = nI (pl + 4) := nI_add pl 4
  have f : Ex (d + 7) mX3_enterFrom (178, [(0, .ref a), (1, .ref r), (2, .int (nI pl)), (3, .int x0), (4, .int x1), (5, .int x2), (6, .int x3), (7, .int x4), (8, .int x5)], [.int (nI pl + Int32.ofInt 4), .ref r, .int x2, .int x1, .int x0, .ref a], G) Q := by
    rw [e4]
    refine Ex.cv5 rfl rfl rfl h0 (by rfl) (by decide) rfl ?_
    refine c_enterMeasure (m := m) ha C hW hm hr0 hra (fun z => ?_) (fun z G2 us2 C2 F2 => ?_)
    · have k := k0 z
      generalize rfs lg E 4 (mNn x0 x1 x2 ts (pl + 4)) = no at k
      (repeat (first | refine Ex.go rfl rfl ?_ | refine Ex.gf rfl rfl (by assumption) (by rfl) (by first | rfl | assumption) ?_))
      refine Ex.ret rfl rfl rfl ?_
      exact k
    · have k := k1 z G2 us2 _ C2 F2.fd
      generalize ansI lg E 4 (mNn x0 x1 x2 ts (pl + 4)) = an at k
      (repeat (first | refine Ex.go rfl rfl ?_ | refine Ex.gf rfl rfl (by assumption) (by rfl) (by first | rfl | assumption) ?_))
      refine Ex.ret rfl rfl rfl ?_
      exact k
  (repeat (first | exact f | refine Ex.go rfl rfl ?_ | refine Ex.gf rfl rfl (by assumption) (by rfl) (by first | rfl | assumption) ?_))
theorem c_from5 {pl : Nat} {x0 x1 x2 x3 x4 x5 : Int32} (ha : a = 2 ∨ a = 7) (C : CR G a us lg E ke) (hW : WF lg E) (hm : G.length = 378 + 6 * m) (k0 : rfs lg E 5 (n6 x0 x1 x2 x3 x4 x5) < 0 → Q (some (.int (rfs lg E 5 (n6 x0 x1 x2 x3 x4 x5)))) G) (k1 : rfs lg E 5 (n6 x0 x1 x2 x3 x4 x5) = 0 → ∀ G' us' ke', CR G' a us' (lgN lg E 5 (n6 x0 x1 x2 x3 x4 x5)) (E + 1) ke' → FD a us G us' G' → Q (some (.int (ansI lg E 5 (n6 x0 x1 x2 x3 x4 x5)))) G') : Ex (d + 7) mX3_enterFrom (182, [(0, .ref a), (1, .ref r), (2, .int (nI pl)), (3, .int x0), (4, .int x1), (5, .int x2), (6, .int x3), (7, .int x4), (8, .int x5)], [], G) Q := by
  have h0 := C.1.1
  (repeat (first | refine Ex.go rfl rfl ?_ | refine Ex.gf rfl rfl (by assumption) (by rfl) (by first | rfl | assumption) ?_))
  refine Ex.cv6 rfl rfl rfl h0 (by rfl) (by decide) rfl ?_
  refine c_enterPatch (m := m) ha C hW hm (fun z => ?_) (fun z G2 us2 C2 F2 => ?_)
  · have k := k0 z
    generalize rfs lg E 5 (n6 x0 x1 x2 x3 x4 x5) = no at k
    (repeat (first | refine Ex.go rfl rfl ?_ | refine Ex.gf rfl rfl (by assumption) (by rfl) (by first | rfl | assumption) ?_))
    refine Ex.ret rfl rfl rfl ?_
    exact k
  · have k := k1 z G2 us2 _ C2 F2.fd
    generalize ansI lg E 5 (n6 x0 x1 x2 x3 x4 x5) = an at k
    (repeat (first | refine Ex.go rfl rfl ?_ | refine Ex.gf rfl rfl (by assumption) (by rfl) (by first | rfl | assumption) ?_))
    refine Ex.ret rfl rfl rfl ?_
    exact k
theorem c_from6 {pl : Nat} {x0 x1 x2 x3 x4 x5 : Int32} (ha : a = 2 ∨ a = 7) (C : CR G a us lg E ke) (hW : WF lg E) (hm : G.length = 378 + 6 * m) (k0 : rfs lg E 6 (n6 x0 x1 x2 x3 0 0) < 0 → Q (some (.int (rfs lg E 6 (n6 x0 x1 x2 x3 0 0)))) G) (k1 : rfs lg E 6 (n6 x0 x1 x2 x3 0 0) = 0 → ∀ G' us' ke', CR G' a us' (lgN lg E 6 (n6 x0 x1 x2 x3 0 0)) (E + 1) ke' → FD a us G us' G' → Q (some (.int (ansI lg E 6 (n6 x0 x1 x2 x3 0 0)))) G') : Ex (d + 7) mX3_enterFrom (198, [(0, .ref a), (1, .ref r), (2, .int (nI pl)), (3, .int x0), (4, .int x1), (5, .int x2), (6, .int x3), (7, .int x4), (8, .int x5)], [], G) Q := by
  have h0 := C.1.1
  (repeat (first | refine Ex.go rfl rfl ?_ | refine Ex.gf rfl rfl (by assumption) (by rfl) (by first | rfl | assumption) ?_))
  refine Ex.cv4 rfl rfl rfl h0 (by rfl) (by decide) rfl ?_
  refine c_enterPlate (m := m) ha C hW hm (fun z => ?_) (fun z G2 us2 C2 F2 => ?_)
  · have k := k0 z
    generalize rfs lg E 6 (n6 x0 x1 x2 x3 0 0) = no at k
    (repeat (first | refine Ex.go rfl rfl ?_ | refine Ex.gf rfl rfl (by assumption) (by rfl) (by first | rfl | assumption) ?_))
    refine Ex.ret rfl rfl rfl ?_
    exact k
  · have k := k1 z G2 us2 _ C2 F2.fd
    generalize ansI lg E 6 (n6 x0 x1 x2 x3 0 0) = an at k
    (repeat (first | refine Ex.go rfl rfl ?_ | refine Ex.gf rfl rfl (by assumption) (by rfl) (by first | rfl | assumption) ?_))
    refine Ex.ret rfl rfl rfl ?_
    exact k
theorem c_from7 {pl : Nat} {x0 x1 x2 x3 x4 x5 : Int32} (ha : a = 2 ∨ a = 7) (C : CR G a us lg E ke) (hW : WF lg E) (hm : G.length = 378 + 6 * m) (k0 : rfs lg E 7 (n6 x0 x1 x2 x3 0 0) < 0 → Q (some (.int (rfs lg E 7 (n6 x0 x1 x2 x3 0 0)))) G) (k1 : rfs lg E 7 (n6 x0 x1 x2 x3 0 0) = 0 → ∀ G' us' ke', CR G' a us' (lgN lg E 7 (n6 x0 x1 x2 x3 0 0)) (E + 1) ke' → FD a us G us' G' → Q (some (.int (ansI lg E 7 (n6 x0 x1 x2 x3 0 0)))) G') : Ex (d + 7) mX3_enterFrom (210, [(0, .ref a), (1, .ref r), (2, .int (nI pl)), (3, .int x0), (4, .int x1), (5, .int x2), (6, .int x3), (7, .int x4), (8, .int x5)], [], G) Q := by
  have h0 := C.1.1
  (repeat (first | refine Ex.go rfl rfl ?_ | refine Ex.gf rfl rfl (by assumption) (by rfl) (by first | rfl | assumption) ?_))
  refine Ex.cv4 rfl rfl rfl h0 (by rfl) (by decide) rfl ?_
  refine c_enterPlug (m := m) ha C hW hm (fun z => ?_) (fun z G2 us2 C2 F2 => ?_)
  · have k := k0 z
    generalize rfs lg E 7 (n6 x0 x1 x2 x3 0 0) = no at k
    (repeat (first | refine Ex.go rfl rfl ?_ | refine Ex.gf rfl rfl (by assumption) (by rfl) (by first | rfl | assumption) ?_))
    refine Ex.ret rfl rfl rfl ?_
    exact k
  · have k := k1 z G2 us2 _ C2 F2.fd
    generalize ansI lg E 7 (n6 x0 x1 x2 x3 0 0) = an at k
    (repeat (first | refine Ex.go rfl rfl ?_ | refine Ex.gf rfl rfl (by assumption) (by rfl) (by first | rfl | assumption) ?_))
    refine Ex.ret rfl rfl rfl ?_
    exact k
theorem c_from8 {pl : Nat} {x0 x1 x2 x3 x4 x5 : Int32} (ha : a = 2 ∨ a = 7) (C : CR G a us lg E ke) (hW : WF lg E) (hm : G.length = 378 + 6 * m) (k0 : rfs lg E 8 (n6 x0 x1 x2 x3 0 0) < 0 → Q (some (.int (rfs lg E 8 (n6 x0 x1 x2 x3 0 0)))) G) (k1 : rfs lg E 8 (n6 x0 x1 x2 x3 0 0) = 0 → ∀ G' us' ke', CR G' a us' (lgN lg E 8 (n6 x0 x1 x2 x3 0 0)) (E + 1) ke' → FD a us G us' G' → Q (some (.int (ansI lg E 8 (n6 x0 x1 x2 x3 0 0)))) G') : Ex (d + 7) mX3_enterFrom (222, [(0, .ref a), (1, .ref r), (2, .int (nI pl)), (3, .int x0), (4, .int x1), (5, .int x2), (6, .int x3), (7, .int x4), (8, .int x5)], [], G) Q := by
  have h0 := C.1.1
  (repeat (first | refine Ex.go rfl rfl ?_ | refine Ex.gf rfl rfl (by assumption) (by rfl) (by first | rfl | assumption) ?_))
  refine Ex.cv4 rfl rfl rfl h0 (by rfl) (by decide) rfl ?_
  refine c_enterValve (m := m) ha C hW hm (fun z => ?_) (fun z G2 us2 C2 F2 => ?_)
  · have k := k0 z
    generalize rfs lg E 8 (n6 x0 x1 x2 x3 0 0) = no at k
    (repeat (first | refine Ex.go rfl rfl ?_ | refine Ex.gf rfl rfl (by assumption) (by rfl) (by first | rfl | assumption) ?_))
    refine Ex.ret rfl rfl rfl ?_
    exact k
  · have k := k1 z G2 us2 _ C2 F2.fd
    generalize ansI lg E 8 (n6 x0 x1 x2 x3 0 0) = an at k
    (repeat (first | refine Ex.go rfl rfl ?_ | refine Ex.gf rfl rfl (by assumption) (by rfl) (by first | rfl | assumption) ?_))
    refine Ex.ret rfl rfl rfl ?_
    exact k
theorem c_from9 {pl : Nat} {x0 x1 x2 x3 x4 x5 : Int32} (ha : a = 2 ∨ a = 7) (C : CR G a us lg E ke) (hW : WF lg E) (hm : G.length = 378 + 6 * m) (k0 : rfs lg E 9 (n6 x0 x1 x2 x3 0 0) < 0 → Q (some (.int (rfs lg E 9 (n6 x0 x1 x2 x3 0 0)))) G) (k1 : rfs lg E 9 (n6 x0 x1 x2 x3 0 0) = 0 → ∀ G' us' ke', CR G' a us' (lgN lg E 9 (n6 x0 x1 x2 x3 0 0)) (E + 1) ke' → FD a us G us' G' → Q (some (.int (ansI lg E 9 (n6 x0 x1 x2 x3 0 0)))) G') : Ex (d + 7) mX3_enterFrom (234, [(0, .ref a), (1, .ref r), (2, .int (nI pl)), (3, .int x0), (4, .int x1), (5, .int x2), (6, .int x3), (7, .int x4), (8, .int x5)], [], G) Q := by
  have h0 := C.1.1
  (repeat (first | refine Ex.go rfl rfl ?_ | refine Ex.gf rfl rfl (by assumption) (by rfl) (by first | rfl | assumption) ?_))
  refine Ex.cv4 rfl rfl rfl h0 (by rfl) (by decide) rfl ?_
  refine c_enterSet (m := m) ha C hW hm (fun z => ?_) (fun z G2 us2 C2 F2 => ?_)
  · have k := k0 z
    generalize rfs lg E 9 (n6 x0 x1 x2 x3 0 0) = no at k
    (repeat (first | refine Ex.go rfl rfl ?_ | refine Ex.gf rfl rfl (by assumption) (by rfl) (by first | rfl | assumption) ?_))
    refine Ex.ret rfl rfl rfl ?_
    exact k
  · have k := k1 z G2 us2 _ C2 F2.fd
    generalize ansI lg E 9 (n6 x0 x1 x2 x3 0 0) = an at k
    (repeat (first | refine Ex.go rfl rfl ?_ | refine Ex.gf rfl rfl (by assumption) (by rfl) (by first | rfl | assumption) ?_))
    refine Ex.ret rfl rfl rfl ?_
    exact k
theorem c_from10 {pl : Nat} {x0 x1 x2 x3 x4 x5 : Int32} (ha : a = 2 ∨ a = 7) (C : CR G a us lg E ke) (hW : WF lg E) (hm : G.length = 378 + 6 * m) (k0 : rfs lg E 10 (n6 x0 x1 x2 x3 x4 0) < 0 → Q (some (.int (rfs lg E 10 (n6 x0 x1 x2 x3 x4 0)))) G) (k1 : rfs lg E 10 (n6 x0 x1 x2 x3 x4 0) = 0 → ∀ G' us' ke', CR G' a us' (lgN lg E 10 (n6 x0 x1 x2 x3 x4 0)) (E + 1) ke' → FD a us G us' G' → Q (some (.int (ansI lg E 10 (n6 x0 x1 x2 x3 x4 0)))) G') : Ex (d + 7) mX3_enterFrom (246, [(0, .ref a), (1, .ref r), (2, .int (nI pl)), (3, .int x0), (4, .int x1), (5, .int x2), (6, .int x3), (7, .int x4), (8, .int x5)], [], G) Q := by
  have h0 := C.1.1
  (repeat (first | refine Ex.go rfl rfl ?_ | refine Ex.gf rfl rfl (by assumption) (by rfl) (by first | rfl | assumption) ?_))
  refine Ex.cv5 rfl rfl rfl h0 (by rfl) (by decide) rfl ?_
  refine c_enterPaper (m := m) ha C hW hm (fun z => ?_) (fun z G2 us2 C2 F2 => ?_)
  · have k := k0 z
    generalize rfs lg E 10 (n6 x0 x1 x2 x3 x4 0) = no at k
    (repeat (first | refine Ex.go rfl rfl ?_ | refine Ex.gf rfl rfl (by assumption) (by rfl) (by first | rfl | assumption) ?_))
    refine Ex.ret rfl rfl rfl ?_
    exact k
  · have k := k1 z G2 us2 _ C2 F2.fd
    generalize ansI lg E 10 (n6 x0 x1 x2 x3 x4 0) = an at k
    (repeat (first | refine Ex.go rfl rfl ?_ | refine Ex.gf rfl rfl (by assumption) (by rfl) (by first | rfl | assumption) ?_))
    refine Ex.ret rfl rfl rfl ?_
    exact k
theorem c_from11 {pl : Nat} {x0 x1 x2 x3 x4 x5 : Int32} (ha : a = 2 ∨ a = 7) (C : CR G a us lg E ke) (hW : WF lg E) (hm : G.length = 378 + 6 * m) (k0 : rfs lg E 11 (n6 x0 x1 x2 0 0 0) < 0 → Q (some (.int (rfs lg E 11 (n6 x0 x1 x2 0 0 0)))) G) (k1 : rfs lg E 11 (n6 x0 x1 x2 0 0 0) = 0 → ∀ G' us' ke', CR G' a us' (lgN lg E 11 (n6 x0 x1 x2 0 0 0)) (E + 1) ke' → FD a us G us' G' → Q (some (.int (ansI lg E 11 (n6 x0 x1 x2 0 0 0)))) G') : Ex (d + 7) mX3_enterFrom (260, [(0, .ref a), (1, .ref r), (2, .int (nI pl)), (3, .int x0), (4, .int x1), (5, .int x2), (6, .int x3), (7, .int x4), (8, .int x5)], [], G) Q := by
  have h0 := C.1.1
  (repeat (first | refine Ex.go rfl rfl ?_ | refine Ex.gf rfl rfl (by assumption) (by rfl) (by first | rfl | assumption) ?_))
  refine Ex.cv3 rfl rfl rfl h0 (by rfl) (by decide) rfl ?_
  refine c_enterRule (m := m) ha C hW hm (fun z => ?_) (fun z G2 us2 C2 F2 => ?_)
  · have k := k0 z
    generalize rfs lg E 11 (n6 x0 x1 x2 0 0 0) = no at k
    (repeat (first | refine Ex.go rfl rfl ?_ | refine Ex.gf rfl rfl (by assumption) (by rfl) (by first | rfl | assumption) ?_))
    refine Ex.ret rfl rfl rfl ?_
    exact k
  · have k := k1 z G2 us2 _ C2 F2.fd
    generalize ansI lg E 11 (n6 x0 x1 x2 0 0 0) = an at k
    (repeat (first | refine Ex.go rfl rfl ?_ | refine Ex.gf rfl rfl (by assumption) (by rfl) (by first | rfl | assumption) ?_))
    refine Ex.ret rfl rfl rfl ?_
    exact k
end CB
