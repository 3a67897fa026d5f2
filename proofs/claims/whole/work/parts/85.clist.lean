/-! The class's listing. -/
section CT
variable {d q : Nat} {G G1 : bo_G} {Q : Option Value → bo_G → Prop} {ks : List Int32} {on : Int32}
def LW (G : bo_G) (q : Nat) (on : Int32) (ks : List Int32) : Prop := G[q]? = some (cO 0 [.ref (q + 1), .int on]) ∧ ∃ c, G[q + 1]? = some (cR 90 c ks)
theorem LW.of (h : LW G q on ks) (e : ∀ j, q ≤ j → j < q + 2 → G1[j]? = G[j]?) : LW G1 q on ks := by
  obtain ⟨h0, h1⟩ := h
  exact ⟨by rw [e q (by omega) (by omega)]; exact h0, by rw [e (q + 1) (by omega) (by omega)]; exact h1⟩
theorem LW.setO (h : LW G q on ks) (on' : Int32) : LW (G.set q (cO 0 [.ref (q + 1), .int on'])) q on' ks ∧ FN q 2 G (G.set q (cO 0 [.ref (q + 1), .int on'])) := by
  obtain ⟨h0, h1⟩ := h
  refine ⟨⟨List.getElem?_set_self (List.getElem?_eq_some_iff.mp h0).1, ?_⟩, List.length_set, fun j hj => List.getElem?_set_ne (by omega)⟩
  rw [List.getElem?_set_ne (by omega)]
  exact h1
theorem LW.setR (h : LW G q on ks) (c : Nat) (xs : List Int32) : LW (G.set (q + 1) (cR 90 c xs)) q on xs ∧ FN q 2 G (G.set (q + 1) (cR 90 c xs)) := by
  obtain ⟨h0, ⟨c1, h1⟩⟩ := h
  refine ⟨⟨?_, ⟨c, List.getElem?_set_self (List.getElem?_eq_some_iff.mp h1).1⟩⟩, List.length_set, fun j hj => List.getElem?_set_ne (by omega)⟩
  rw [List.getElem?_set_ne (by omega)]
  exact h0
theorem lw_size (h : LW G q on ks) (k : Q (some (.int (nI ks.length))) G) : Cx (d + 1) mX0_size [.ref q] G Q := by
  obtain ⟨a0, c, a1⟩ := h
  refine Cx.body rfl rfl ?_
  (repeat (first | refine Ex.go rfl rfl ?_ | refine Ex.gf rfl rfl (by assumption) (by rfl) (by first | rfl | assumption) ?_))
  refine Ex.cv0 rfl rfl rfl a1 (by rfl) (by decide) rfl ?_
  refine s_size a1 ?_
  (repeat (first | refine Ex.go rfl rfl ?_ | refine Ex.gf rfl rfl (by assumption) (by rfl) (by first | rfl | assumption) ?_))
  refine Ex.ret rfl rfl rfl ?_
  exact k
theorem lw_begin {t : Int32} (h : LW G q on ks) (l : ks.length ≤ 90) (k : ∀ G', LW G' q t [] → FN q 2 G G' → Q none G') : Cx (d + 1) mX0_begin [.ref q, .int t] G Q := by
  obtain ⟨a0, c, a1⟩ := id h
  refine Cx.body rfl rfl ?_
  (repeat (first | refine Ex.go rfl rfl ?_ | refine Ex.gf rfl rfl (by assumption) (by rfl) (by first | rfl | assumption) ?_))
  refine Ex.cv1 rfl rfl rfl a1 (by rfl) (by decide) rfl ?_
  refine s_cut a1 (by omega) ?_
  rw [show rcut (Int32.ofInt 0) ks = [] from rcut_0 _]
  obtain ⟨h2, F2⟩ := h.setR c []
  have b0 := h2.1
  obtain ⟨h3, F3⟩ := h2.setO t
  have k := k _ h3 (F2.trans F3)
  generalize G.set (q + 1) (cR 90 c []) = G2 at *
  refine Ex.lay [(q, cO 0 [.ref (q + 1), .int on])] (lay1 b0) ?_
  have hA := ap1 b0
  (repeat (first | refine Ex.go rfl rfl ?_ | refine Ex.gf rfl rfl (ov_get hA 0 rfl) (by rfl) (by rfl) ?_ | refine Ex.gf rfl rfl (ov_get hA 1 rfl) (by rfl) (by rfl) ?_ | refine Ex.gf rfl rfl (ov_get hA 2 rfl) (by rfl) (by rfl) ?_ | refine Ex.gf rfl rfl (ov_get hA 3 rfl) (by rfl) (by rfl) ?_ | refine Ex.gf rfl rfl (ov_get hA 4 rfl) (by rfl) (by rfl) ?_ | refine Ex.gf rfl rfl (ov_get hA 5 rfl) (by rfl) (by rfl) ?_ | refine Ex.gf rfl rfl (ov_get hA 6 rfl) (by rfl) (by rfl) ?_ | (refine Ex.pfo hA 0 rfl rfl rfl (by rfl) (by rfl) (by rfl) ?_; dsimp only [List.set]) | (refine Ex.pfo hA 1 rfl rfl rfl (by rfl) (by rfl) (by rfl) ?_; dsimp only [List.set]) | (refine Ex.pfo hA 2 rfl rfl rfl (by rfl) (by rfl) (by rfl) ?_; dsimp only [List.set]) | (refine Ex.pfo hA 3 rfl rfl rfl (by rfl) (by rfl) (by rfl) ?_; dsimp only [List.set]) | (refine Ex.pfo hA 4 rfl rfl rfl (by rfl) (by rfl) (by rfl) ?_; dsimp only [List.set]) | (refine Ex.pfo hA 5 rfl rfl rfl (by rfl) (by rfl) (by rfl) ?_; dsimp only [List.set]) | (refine Ex.pfo hA 6 rfl rfl rfl (by rfl) (by rfl) (by rfl) ?_; dsimp only [List.set])))
  refine Ex.ret rfl rfl rfl ?_
  exact k
theorem hole_put {n : Nat} {x v : Int32} (hn : n ≤ ks.length) (h31 : ks.length < 2 ^ 31) : bo_put (ks.take n ++ x :: ks.drop n) (nI n) v = ks.take n ++ v :: ks.drop n := by
  unfold bo_put
  rw [if_pos (nI_pos' (by omega)), nI_clamp (by omega), List.set_append_right _ _ (by rw [List.length_take]; omega), show n - (ks.take n).length = 0 by rw [List.length_take]; omega]
  rfl
theorem hole_down {n : Nat} {x : Int32} (hx : ks[n]? = some x) : ks.take (n + 1) ++ x :: ks.drop (n + 1) = ks.take n ++ x :: ks.drop n := by
  have hn := (List.getElem?_eq_some_iff.mp hx)
  obtain ⟨hl, he⟩ := hn
  rw [List.take_succ, hx, List.drop_eq_getElem_cons hl, he]
  simp
theorem lw_insert {dy v kd : Int32} (h : LW G q on ks) (l : ks.length < 90) (k : ∀ G' p, p = insP (fun j => decide (dy * 90 + v * 3 + kd < bo_at ks (nI j))) ks.length → LW G' q on (ks.take p ++ (dy * 90 + v * 3 + kd) :: ks.drop p) → FN q 2 G G' → Q none G') : Cx (d + 3) mX0_insert [.ref q, .int dy, .int v, .int kd] G Q := by
  obtain ⟨a0, c, a1⟩ := id h
  generalize hkey : dy * 90 + v * 3 + kd = key at *
  have loop : ∀ (n : Nat) (b x : Int32) (G1 : bo_G), b = nI n → n ≤ ks.length → insP (fun j => decide (key < bo_at ks (nI j))) n = insP (fun j => decide (key < bo_at ks (nI j))) ks.length → LW G1 q on (ks.take n ++ x :: ks.drop n) → FN q 2 G G1 → Ex (d + 3) mX0_insert (31, [(0, .ref q), (1, .int dy), (2, .int v), (3, .int kd), (4, .int key), (5, .int b)], [], G1) Q := by
    intro n
    induction n with
    | zero =>
      intro b x G1 hb hn hp H F
      obtain ⟨b0, c1, b1⟩ := id H
      obtain ⟨h2, F2⟩ := H.setR c1 (ks.take 0 ++ key :: ks.drop 0)
      have k := k _ 0 hp h2 (F.trans F2)
      have hb0 : b ≤ 0 := by rw [hb]; decide
      have e := hole_put (ks := ks) (n := 0) (x := x) (v := key) (by omega) (by omega)
      rw [← hb] at e
      clear hb
      (repeat (first | refine Ex.go rfl rfl ?_ | refine Ex.gf rfl rfl (by assumption) (by rfl) (by first | rfl | assumption) ?_))
      refine Ex.br (fun z1 => ?_) (fun z1 => ?_); rotate_left
      · exact absurd hb0 z1
      (repeat (first | refine Ex.go rfl rfl ?_ | refine Ex.gf rfl rfl (by assumption) (by rfl) (by first | rfl | assumption) ?_))
      refine Ex.cv2 rfl rfl rfl b1 (by rfl) (by decide) rfl ?_
      refine Cx.rput b1 ?_
      rw [e]
      (repeat (first | refine Ex.go rfl rfl ?_ | refine Ex.gf rfl rfl (by assumption) (by rfl) (by first | rfl | assumption) ?_))
      refine Ex.ret rfl rfl rfl ?_
      exact k
    | succ n ih =>
      intro b x G1 hb hn hp H F
      obtain ⟨b0, c1, b1⟩ := id H
      have st : insP (fun j => decide (key < bo_at ks (nI j))) (n + 1) = if decide (key < bo_at ks (nI n)) = true then insP (fun j => decide (key < bo_at ks (nI j))) n else n + 1 := rfl
      obtain ⟨y, hy⟩ : ∃ y, ks[n]? = some y := ⟨_, List.getElem?_eq_getElem (by omega)⟩
      have ey : bo_at ks (nI n) = y := lst_at (by omega) (by omega) hy
      have ey2 : bo_at (ks.take (n + 1) ++ x :: ks.drop (n + 1)) (nI n) = y := lst_at (by simp; omega) (by omega) (by rw [List.getElem?_append_left (by rw [List.length_take]; omega), List.getElem?_take_of_lt (by omega)]; exact hy)
      have e1 : nI (n + 1) - 1 = nI n := show nI (n + 1) - nI 1 = _ from pk_sub (by omega)
      have ey3 : bo_at (ks.take (n + 1) ++ x :: ks.drop (n + 1)) (b - 1) = y := by rw [hb, e1]; exact ey2
      have hb1 : ¬ b ≤ 0 := by
        rw [hb]
        intro z
        have z2 : nI (n + 1) ≤ nI 0 := z
        rw [nI_leI (by omega) (by omega)] at z2
        omega
      (repeat (first | refine Ex.go rfl rfl ?_ | refine Ex.gf rfl rfl (by assumption) (by rfl) (by first | rfl | assumption) ?_))
      refine Ex.br (fun z1 => ?_) (fun z1 => ?_)
      · exact absurd z1 hb1
      (repeat (first | refine Ex.go rfl rfl ?_ | refine Ex.gf rfl rfl (by assumption) (by rfl) (by first | rfl | assumption) ?_))
      refine Ex.cv1 rfl rfl rfl b1 (by rfl) (by decide) rfl ?_
      refine Cx.ratE (v := y) b1 ey3 ?_
      (repeat (first | refine Ex.go rfl rfl ?_ | refine Ex.gf rfl rfl (by assumption) (by rfl) (by first | rfl | assumption) ?_))
      refine Ex.br (fun z2 => ?_) (fun z2 => ?_)
      · have z3 : ¬ key < bo_at ks (nI n) := by rw [ey]; exact Int32.not_lt.mpr z2
        rw [st, if_neg (by rw [decide_eq_false z3]; decide)] at hp
        have e := hole_put (ks := ks) (n := n + 1) (x := x) (v := key) hn (by omega)
        obtain ⟨h2, F2⟩ := H.setR c1 (ks.take (n + 1) ++ key :: ks.drop (n + 1))
        have k := k _ (n + 1) hp h2 (F.trans F2)
        rw [← hb] at e
        (repeat (first | refine Ex.go rfl rfl ?_ | refine Ex.gf rfl rfl (by assumption) (by rfl) (by first | rfl | assumption) ?_))
        refine Ex.cv2 rfl rfl rfl b1 (by rfl) (by decide) rfl ?_
        refine Cx.rput b1 ?_
        rw [e]
        (repeat (first | refine Ex.go rfl rfl ?_ | refine Ex.gf rfl rfl (by assumption) (by rfl) (by first | rfl | assumption) ?_))
        refine Ex.ret rfl rfl rfl ?_
        exact k
      · have z3 : key < bo_at ks (nI n) := by rw [ey]; exact Int32.not_le.mp z2
        rw [st, if_pos (by rw [decide_eq_true z3])] at hp
        have e := hole_put (ks := ks) (n := n + 1) (x := x) (v := y) hn (by omega)
        rw [hole_down hy, ← hb] at e
        obtain ⟨h2, F2⟩ := H.setR c1 (ks.take n ++ y :: ks.drop n)
        have nx := ih (b + Int32.ofInt (-1)) y _ (by rw [hb]; exact nI_m1 n) (by omega) hp h2 (F.trans F2)
        (repeat (first | refine Ex.go rfl rfl ?_ | refine Ex.gf rfl rfl (by assumption) (by rfl) (by first | rfl | assumption) ?_))
        refine Ex.cv1 rfl rfl rfl b1 (by rfl) (by decide) rfl ?_
        refine Cx.ratE (v := y) b1 ey3 ?_
        (repeat (first | refine Ex.go rfl rfl ?_ | refine Ex.gf rfl rfl (by assumption) (by rfl) (by first | rfl | assumption) ?_))
        refine Ex.cv2 rfl rfl rfl b1 (by rfl) (by decide) rfl ?_
        refine Cx.rput b1 ?_
        rw [e]
        (repeat (first | exact nx | refine Ex.go rfl rfl ?_ | refine Ex.gf rfl rfl (by assumption) (by rfl) (by first | rfl | assumption) ?_))
  have l0 := fun x G1 => loop ks.length (nI ks.length) x G1 rfl (Nat.le_refl _) rfl
  rw [List.take_length, List.drop_length] at l0
  have hk2 : dy * Int32.ofInt 90 + v * Int32.ofInt 3 + kd = key := hkey
  refine Cx.body rfl rfl ?_
  (repeat (first | refine Ex.go rfl rfl ?_ | refine Ex.gf rfl rfl (by assumption) (by rfl) (by first | rfl | assumption) ?_))
  rw [hk2]
  show Ex (d + 3) mX0_insert (16, [(0, .ref q), (1, .int dy), (2, .int v), (3, .int kd), (4, .int key)], [.ref (q + 1)], G) Q
  refine Ex.cv0 rfl rfl rfl a1 (by rfl) (by decide) rfl ?_
  refine s_size a1 ?_
  obtain ⟨h2, F2⟩ := h.setR (bo_cap 90 c ks.length) (ks ++ [key])
  have l0 := l0 key _ h2 F2
  (repeat (first | refine Ex.go rfl rfl ?_ | refine Ex.gf rfl rfl (by assumption) (by rfl) (by first | rfl | assumption) ?_))
  refine Ex.cv1 rfl rfl rfl a1 (by rfl) (by decide) rfl ?_
  refine Cx.radd a1 ?_
  rw [show bo_add 90 ks key = ks ++ [key] from if_pos l]
  (repeat (first | exact l0 | refine Ex.go rfl rfl ?_ | refine Ex.gf rfl rfl (by assumption) (by rfl) (by first | rfl | assumption) ?_))
end CT
