/-! The class: a roll's rows; a new vessel; what is noted. -/
theorem app_get {G : bo_G} {c : bo_C} : (G ++ [c])[G.length]? = some c := by
  rw [List.getElem?_append_right (Nat.le_refl _), Nat.sub_self]; rfl
theorem app_set {G : bo_G} {c c' : bo_C} : (G ++ [c]).set G.length c' = G ++ [c'] := by
  rw [List.set_append_right _ _ (Nat.le_refl _), Nat.sub_self]; rfl
/-- a Row more, and a field of the object at u -/
def nwR (H : bo_G) (u lim : Nat) (c : bo_C) : bo_G := (H ++ [cR lim (min lim 16) []]).set u c
section NW
variable {H : bo_G} {u lim : Nat} {c : bo_C}
theorem nwR_len : (nwR H u lim c).length = H.length + 1 := by unfold nwR; rw [List.length_set, List.length_append]; rfl
theorem nwR_u (h : u < H.length) : (nwR H u lim c)[u]? = some c := by
  unfold nwR
  exact List.getElem?_set_self (by rw [List.length_append]; omega)
theorem nwR_n (h : u < H.length) : (nwR H u lim c)[H.length]? = some (cR lim (min lim 16) []) := by
  unfold nwR
  rw [List.getElem?_set_ne (by omega)]
  exact app_get
theorem nwR_lt {j : Nat} (hj : j < H.length) (hu : j ≠ u) : (nwR H u lim c)[j]? = H[j]? := by
  unfold nwR
  rw [List.getElem?_set_ne (fun z => hu z.symm), List.getElem?_append_left hj]
end NW
theorem c_vinit {d u : Nat} {G : bo_G} {Q : Option Value → bo_G → Prop} (hG : G[u]? = some (cO 8 (bo_df 8))) (hl : G.length = u + 1) (k : ∀ G', VC G' u (0, 0, 0, 0, 0, 0) ([], [], [], [], []) → G'.length = u + 6 → (∀ j, j < u → G'[j]? = G[j]?) → Q none G') : Cx (d + 2) mX8_init [.ref u] G Q := by
  have NEW : ∀ (H : bo_G) (x : Nat), H.length = x → (H ++ [cO 4 (bo_df 4)])[x]? = some (cO 4 (bo_df 4)) := fun H x h => by rw [← h]; exact app_get
  refine Cx.body rfl rfl ?_
  (repeat (first | refine Ex.go rfl rfl ?_ | refine Ex.gf rfl rfl (by assumption) (by rfl) (by first | rfl | assumption) ?_))
  refine Ex.co rfl rfl rfl ?_
  (repeat (first | refine Ex.go rfl rfl ?_ | refine Ex.gf rfl rfl (by assumption) (by rfl) (by first | rfl | assumption) ?_))
  refine Ex.ci1 (q := 2) rfl rfl (Or.inl rfl) rfl app_get rfl (by decide) rfl ?_
  refine Cx.rinit app_get (by decide) (by decide) ?_
  rw [app_set]
  refine Ex.pf rfl rfl (show (G ++ [cR 24 16 []])[u]? = some (cO 8 (bo_df 8)) by rw [List.getElem?_append_left (by omega)]; exact hG) (by rfl) (by rfl) (by rfl) ?_
  have a0 : u < G.length := by omega
  have g1 : ∀ c, nwR G u 24 c = (G ++ [cR 24 16 []]).set u c := fun c => rfl
  show Ex (d + 2) mX8_init (17, lv_args 0 [Value.ref u], [], nwR G u 24 (cO 8 [.int 0, .int 0, .int 0, .int 0, .int 0, .int 0, .ref G.length, .null, .null, .null, .null])) Q
  rw [hl]
  generalize hH1 : nwR G u 24 _ = H1
  have l1 : H1.length = u + 2 := by rw [← hH1, nwR_len, hl]
  have u1 : H1[u]? = some (cO 8 [.int 0, .int 0, .int 0, .int 0, .int 0, .int 0, .ref (u + 1), .null, .null, .null, .null]) := by rw [← hH1]; exact nwR_u a0
  have n1 : H1[u + 1]? = some (cR 24 16 []) := by rw [← hH1, ← hl]; exact nwR_n a0
  have f1 : ∀ j, j < u → H1[j]? = G[j]? := fun j hj => by rw [← hH1]; exact nwR_lt (by omega) (by omega)
  clear hH1 g1
  (repeat (first | refine Ex.go rfl rfl ?_ | refine Ex.gf rfl rfl (by assumption) (by rfl) (by first | rfl | assumption) ?_))
  refine Ex.ci1 (q := 2) rfl rfl (Or.inl rfl) rfl app_get rfl (by decide) rfl ?_
  refine Cx.rinit app_get (by decide) (by decide) ?_
  rw [app_set]
  refine Ex.pf rfl rfl (show (H1 ++ [cR 24 16 []])[u]? = some _ by rw [List.getElem?_append_left (by omega)]; exact u1) (by rfl) (by rfl) (by rfl) ?_
  have g1 : ∀ c, nwR H1 u 24 c = (H1 ++ [cR 24 16 []]).set u c := fun c => rfl
  show Ex (d + 2) mX8_init (30, lv_args 0 [Value.ref u], [], nwR H1 u 24 (cO 8 [.int 0, .int 0, .int 0, .int 0, .int 0, .int 0, .ref (u + 1), .ref H1.length, .null, .null, .null])) Q
  rw [l1]
  generalize hH2 : nwR H1 u 24 _ = H2
  have l2 : H2.length = u + 3 := by rw [← hH2, nwR_len, l1]
  have u2 : H2[u]? = some (cO 8 [.int 0, .int 0, .int 0, .int 0, .int 0, .int 0, .ref (u + 1), .ref (u + 2), .null, .null, .null]) := by rw [← hH2]; exact nwR_u (by omega)
  have n21 : H2[u + 1]? = some (cR 24 16 []) := by rw [← hH2, nwR_lt (by omega) (by omega)]; exact n1
  have n22 : H2[u + 2]? = some (cR 24 16 []) := by rw [← hH2, ← l1]; exact nwR_n (by omega)
  have f2 : ∀ j, j < u → H2[j]? = G[j]? := fun j hj => by rw [← hH2, nwR_lt (by omega) (by omega)]; exact f1 j hj
  clear hH2 g1
  (repeat (first | refine Ex.go rfl rfl ?_ | refine Ex.gf rfl rfl (by assumption) (by rfl) (by first | rfl | assumption) ?_))
  refine Ex.ci1 (q := 2) rfl rfl (Or.inl rfl) rfl app_get rfl (by decide) rfl ?_
  refine Cx.rinit app_get (by decide) (by decide) ?_
  rw [app_set]
  refine Ex.pf rfl rfl (show (H2 ++ [cR 24 16 []])[u]? = some _ by rw [List.getElem?_append_left (by omega)]; exact u2) (by rfl) (by rfl) (by rfl) ?_
  have g1 : ∀ c, nwR H2 u 24 c = (H2 ++ [cR 24 16 []]).set u c := fun c => rfl
  show Ex (d + 2) mX8_init (43, lv_args 0 [Value.ref u], [], nwR H2 u 24 (cO 8 [.int 0, .int 0, .int 0, .int 0, .int 0, .int 0, .ref (u + 1), .ref (u + 2), .ref H2.length, .null, .null])) Q
  rw [l2]
  generalize hH3 : nwR H2 u 24 _ = H3
  have l3 : H3.length = u + 4 := by rw [← hH3, nwR_len, l2]
  have u3 : H3[u]? = some (cO 8 [.int 0, .int 0, .int 0, .int 0, .int 0, .int 0, .ref (u + 1), .ref (u + 2), .ref (u + 3), .null, .null]) := by rw [← hH3]; exact nwR_u (by omega)
  have n31 : H3[u + 1]? = some (cR 24 16 []) := by rw [← hH3, nwR_lt (by omega) (by omega)]; exact n21
  have n32 : H3[u + 2]? = some (cR 24 16 []) := by rw [← hH3, nwR_lt (by omega) (by omega)]; exact n22
  have n33 : H3[u + 3]? = some (cR 24 16 []) := by rw [← hH3, ← l2]; exact nwR_n (by omega)
  have f3 : ∀ j, j < u → H3[j]? = G[j]? := fun j hj => by rw [← hH3, nwR_lt (by omega) (by omega)]; exact f2 j hj
  clear hH3 g1
  (repeat (first | refine Ex.go rfl rfl ?_ | refine Ex.gf rfl rfl (by assumption) (by rfl) (by first | rfl | assumption) ?_))
  refine Ex.ci1 (q := 2) rfl rfl (Or.inl rfl) rfl app_get rfl (by decide) rfl ?_
  refine Cx.rinit app_get (by decide) (by decide) ?_
  rw [app_set]
  refine Ex.pf rfl rfl (show (H3 ++ [cR 24 16 []])[u]? = some _ by rw [List.getElem?_append_left (by omega)]; exact u3) (by rfl) (by rfl) (by rfl) ?_
  have g1 : ∀ c, nwR H3 u 24 c = (H3 ++ [cR 24 16 []]).set u c := fun c => rfl
  show Ex (d + 2) mX8_init (56, lv_args 0 [Value.ref u], [], nwR H3 u 24 (cO 8 [.int 0, .int 0, .int 0, .int 0, .int 0, .int 0, .ref (u + 1), .ref (u + 2), .ref (u + 3), .ref H3.length, .null])) Q
  rw [l3]
  generalize hH4 : nwR H3 u 24 _ = H4
  have l4 : H4.length = u + 5 := by rw [← hH4, nwR_len, l3]
  have u4 : H4[u]? = some (cO 8 [.int 0, .int 0, .int 0, .int 0, .int 0, .int 0, .ref (u + 1), .ref (u + 2), .ref (u + 3), .ref (u + 4), .null]) := by rw [← hH4]; exact nwR_u (by omega)
  have n41 : H4[u + 1]? = some (cR 24 16 []) := by rw [← hH4, nwR_lt (by omega) (by omega)]; exact n31
  have n42 : H4[u + 2]? = some (cR 24 16 []) := by rw [← hH4, nwR_lt (by omega) (by omega)]; exact n32
  have n43 : H4[u + 3]? = some (cR 24 16 []) := by rw [← hH4, nwR_lt (by omega) (by omega)]; exact n33
  have n44 : H4[u + 4]? = some (cR 24 16 []) := by rw [← hH4, ← l3]; exact nwR_n (by omega)
  have f4 : ∀ j, j < u → H4[j]? = G[j]? := fun j hj => by rw [← hH4, nwR_lt (by omega) (by omega)]; exact f3 j hj
  clear hH4 g1
  (repeat (first | refine Ex.go rfl rfl ?_ | refine Ex.gf rfl rfl (by assumption) (by rfl) (by first | rfl | assumption) ?_))
  refine Ex.ci1 (q := 2) rfl rfl (Or.inl rfl) rfl app_get rfl (by decide) rfl ?_
  refine Cx.rinit app_get (by decide) (by decide) ?_
  rw [app_set]
  refine Ex.pf rfl rfl (show (H4 ++ [cR 6 6 []])[u]? = some _ by rw [List.getElem?_append_left (by omega)]; exact u4) (by rfl) (by rfl) (by rfl) ?_
  have g1 : ∀ c, nwR H4 u 6 c = (H4 ++ [cR 6 6 []]).set u c := fun c => rfl
  show Ex (d + 2) mX8_init (69, lv_args 0 [Value.ref u], [], nwR H4 u 6 (cO 8 [.int 0, .int 0, .int 0, .int 0, .int 0, .int 0, .ref (u + 1), .ref (u + 2), .ref (u + 3), .ref (u + 4), .ref H4.length])) Q
  rw [l4]
  generalize hH5 : nwR H4 u 6 _ = H5
  have l5 : H5.length = u + 6 := by rw [← hH5, nwR_len, l4]
  have u5 : H5[u]? = some (cO 8 [.int 0, .int 0, .int 0, .int 0, .int 0, .int 0, .ref (u + 1), .ref (u + 2), .ref (u + 3), .ref (u + 4), .ref (u + 5)]) := by rw [← hH5]; exact nwR_u (by omega)
  have n51 : H5[u + 1]? = some (cR 24 16 []) := by rw [← hH5, nwR_lt (by omega) (by omega)]; exact n41
  have n52 : H5[u + 2]? = some (cR 24 16 []) := by rw [← hH5, nwR_lt (by omega) (by omega)]; exact n42
  have n53 : H5[u + 3]? = some (cR 24 16 []) := by rw [← hH5, nwR_lt (by omega) (by omega)]; exact n43
  have n54 : H5[u + 4]? = some (cR 24 16 []) := by rw [← hH5, nwR_lt (by omega) (by omega)]; exact n44
  have n55 : H5[u + 5]? = some (cR 6 6 []) := by rw [← hH5, ← l4]; exact nwR_n (by omega)
  have f5 : ∀ j, j < u → H5[j]? = G[j]? := fun j hj => by rw [← hH5, nwR_lt (by omega) (by omega)]; exact f4 j hj
  (repeat (first | refine Ex.go rfl rfl ?_ | refine Ex.gf rfl rfl (by assumption) (by rfl) (by first | rfl | assumption) ?_))
  refine Ex.ret rfl rfl rfl ?_
  exact k H5 ⟨u5, ⟨16, n51⟩, ⟨16, n52⟩, ⟨16, n53⟩, ⟨16, n54⟩, ⟨6, n55⟩⟩ l5 f5
/-- a roll's cells: counters; its image, places, days of entry; its vessels -/
abbrev rlT : Type := Int32 × Int32 × Int32 × Int32 × Int32
abbrev rC (a : Nat) (y : rlT) : bo_C := cO 3 [.ref (a + 1), .ref (a + 2), .ref (a + 3), .ref (a + 4), .int y.1, .int y.2.1, .int y.2.2.1, .int y.2.2.2.1, .int y.2.2.2.2]
def RW (G : bo_G) (a : Nat) (y : rlT) (im pl en : List Int32) (f : Nat → Option Nat) : Prop := G[a]? = some (rC a y) ∧ (∃ c, G[a + 1]? = some (cR 40000 c im)) ∧ (∃ c, G[a + 2]? = some (cR 2000 c pl)) ∧ (∃ c, G[a + 3]? = some (cR 2000 c en)) ∧ G[a + 4]? = some (cQ 8 30 f)
theorem RW.of {G G' : bo_G} {a : Nat} {y : rlT} {im pl en : List Int32} {f : Nat → Option Nat} (h : RW G a y im pl en f) (e : ∀ j, a ≤ j → j ≤ a + 4 → G'[j]? = G[j]?) : RW G' a y im pl en f := by
  obtain ⟨h0, ⟨c1, h1⟩, ⟨c2, h2⟩, ⟨c3, h3⟩, h4⟩ := h
  exact ⟨(e _ (by omega) (by omega)).trans h0, ⟨c1, (e _ (by omega) (by omega)).trans h1⟩, ⟨c2, (e _ (by omega) (by omega)).trans h2⟩, ⟨c3, (e _ (by omega) (by omega)).trans h3⟩, (e _ (by omega) (by omega)).trans h4⟩
def FO (a : Nat) (G G' : bo_G) : Prop := G'.length = G.length ∧ ∀ j, ¬ (a ≤ j ∧ j ≤ a + 4) → G'[j]? = G[j]?
theorem FO.rfl' (a : Nat) (G : bo_G) : FO a G G := ⟨rfl, fun _ _ => rfl⟩
theorem FO.trans {a : Nat} {G1 G2 G3 : bo_G} (h : FO a G1 G2) (h2 : FO a G2 G3) : FO a G1 G3 := ⟨h2.1.trans h.1, fun j hj => (h2.2 j hj).trans (h.2 j hj)⟩
section RO
variable {d a : Nat} {G : bo_G} {Q : Option Value → bo_G → Prop} {y : rlT} {im pl en : List Int32} {f : Nat → Option Nat}
theorem RW.lt (R : RW G a y im pl en f) : a + 4 < G.length := (List.getElem?_eq_some_iff.mp R.2.2.2.2).1
theorem RW.setO (R : RW G a y im pl en f) (y' : rlT) : RW (G.set a (rC a y')) a y' im pl en f ∧ FO a G (G.set a (rC a y')) := by
  have q : ∀ {j : Nat} {x : bo_C}, j ≠ a → G[j]? = some x → (G.set a (rC a y'))[j]? = some x := fun hj hx => by rw [List.getElem?_set_ne (fun z => hj z.symm)]; exact hx
  obtain ⟨h0, ⟨c1, h1⟩, ⟨c2, h2⟩, ⟨c3, h3⟩, h4⟩ := R
  exact ⟨⟨get_set h0, ⟨c1, q (by omega) h1⟩, ⟨c2, q (by omega) h2⟩, ⟨c3, q (by omega) h3⟩, q (by omega) h4⟩, List.length_set .., fun j hj => List.getElem?_set_ne (by omega)⟩
theorem RW.setI (R : RW G a y im pl en f) (c : Nat) (im' : List Int32) : RW (G.set (a + 1) (cR 40000 c im')) a y im' pl en f ∧ FO a G (G.set (a + 1) (cR 40000 c im')) := by
  have q : ∀ {j : Nat} {x : bo_C}, j ≠ a + 1 → G[j]? = some x → (G.set (a + 1) (cR 40000 c im'))[j]? = some x := fun hj hx => by rw [List.getElem?_set_ne (fun z => hj z.symm)]; exact hx
  obtain ⟨h0, ⟨c1, h1⟩, ⟨c2, h2⟩, ⟨c3, h3⟩, h4⟩ := R
  exact ⟨⟨q (by omega) h0, ⟨c, get_set h1⟩, ⟨c2, q (by omega) h2⟩, ⟨c3, q (by omega) h3⟩, q (by omega) h4⟩, List.length_set .., fun j hj => List.getElem?_set_ne (by omega)⟩
theorem RW.setP (R : RW G a y im pl en f) (c : Nat) (pl' : List Int32) : RW (G.set (a + 2) (cR 2000 c pl')) a y im pl' en f ∧ FO a G (G.set (a + 2) (cR 2000 c pl')) := by
  have q : ∀ {j : Nat} {x : bo_C}, j ≠ a + 2 → G[j]? = some x → (G.set (a + 2) (cR 2000 c pl'))[j]? = some x := fun hj hx => by rw [List.getElem?_set_ne (fun z => hj z.symm)]; exact hx
  obtain ⟨h0, ⟨c1, h1⟩, ⟨c2, h2⟩, ⟨c3, h3⟩, h4⟩ := R
  exact ⟨⟨q (by omega) h0, ⟨c1, q (by omega) h1⟩, ⟨c, get_set h2⟩, ⟨c3, q (by omega) h3⟩, q (by omega) h4⟩, List.length_set .., fun j hj => List.getElem?_set_ne (by omega)⟩
theorem RW.setE (R : RW G a y im pl en f) (c : Nat) (en' : List Int32) : RW (G.set (a + 3) (cR 2000 c en')) a y im pl en' f ∧ FO a G (G.set (a + 3) (cR 2000 c en')) := by
  have q : ∀ {j : Nat} {x : bo_C}, j ≠ a + 3 → G[j]? = some x → (G.set (a + 3) (cR 2000 c en'))[j]? = some x := fun hj hx => by rw [List.getElem?_set_ne (fun z => hj z.symm)]; exact hx
  obtain ⟨h0, ⟨c1, h1⟩, ⟨c2, h2⟩, ⟨c3, h3⟩, h4⟩ := R
  exact ⟨⟨q (by omega) h0, ⟨c1, q (by omega) h1⟩, ⟨c2, q (by omega) h2⟩, ⟨c, get_set h3⟩, q (by omega) h4⟩, List.length_set .., fun j hj => List.getElem?_set_ne (by omega)⟩
theorem RW.setV (R : RW G a y im pl en f) (f' : Nat → Option Nat) : RW (G.set (a + 4) (cQ 8 30 f')) a y im pl en f' ∧ FO a G (G.set (a + 4) (cQ 8 30 f')) := by
  have q : ∀ {j : Nat} {x : bo_C}, j ≠ a + 4 → G[j]? = some x → (G.set (a + 4) (cQ 8 30 f'))[j]? = some x := fun hj hx => by rw [List.getElem?_set_ne (fun z => hj z.symm)]; exact hx
  obtain ⟨h0, ⟨c1, h1⟩, ⟨c2, h2⟩, ⟨c3, h3⟩, h4⟩ := R
  exact ⟨⟨q (by omega) h0, ⟨c1, q (by omega) h1⟩, ⟨c2, q (by omega) h2⟩, ⟨c3, q (by omega) h3⟩, get_set h4⟩, List.length_set .., fun j hj => List.getElem?_set_ne (by omega)⟩
/-- the image gets one int more -/
theorem Ex.rwadd {m : bo_M} {pc nx tg kp q : Nat} {lv : bo_LV} {r : List Value} {v : Int32} (R : RW G a y im pl en f) (hl : im.length < 40000) (he : bo_cd m pc = some (.invokevirtual q, nx, tg, kp)) (hlk : bo_lk (bo_o m) q = some (0, mX4_add)) (hc : bo_cat r = true) (k1 : ∀ G', RW G' a y (im ++ [v]) pl en f → FO a G G' → Ex (d + 3) m (nx, lv, .ref (a + 1) :: r, G') Q) : Ex (d + 3) m (pc, lv, .int v :: .ref (a + 1) :: r, G) Q := by
  obtain ⟨c1, h1⟩ := R.2.1
  refine Ex.cv1 he hlk rfl h1 (by rfl) (by decide) hc ?_
  refine Cx.radd h1 ?_
  rw [show bo_add 40000 im v = im ++ [v] from if_pos hl]
  exact k1 _ (R.setI _ _).1 (R.setI _ _).2
theorem c_begin {c : Int32} (R : RW G a y im pl en f) (hi : im.length < 40000) (hp : pl.length < 2000) (he : en.length < 2000) (k : ∀ G', RW G' a y (im ++ [c]) (pl ++ [nI im.length]) (en ++ [y.2.2.2.1]) f → FO a G G' → Q (some (.ref (a + 1))) G') : Cx (d + 3) mX3_begin [.ref a, .int c] G Q := by
  have h0 := R.1
  obtain ⟨c1, h1⟩ := R.2.1
  obtain ⟨c2, h2⟩ := R.2.2.1
  refine Cx.body rfl rfl ?_
  (repeat (first | refine Ex.go rfl rfl ?_ | refine Ex.gf rfl rfl (by assumption) (by rfl) (by first | rfl | assumption) ?_))
  refine Ex.cv0 rfl rfl rfl h1 (by rfl) (by decide) rfl ?_
  refine s_size h1 ?_
  refine Ex.cv1 rfl rfl rfl h2 (by rfl) (by decide) rfl ?_
  refine Cx.radd h2 ?_
  rw [show bo_add 2000 pl (Int32.ofNat im.length) = pl ++ [nI im.length] from if_pos hp]
  obtain ⟨R2, F2⟩ := R.setP (bo_cap 2000 c2 pl.length) (pl ++ [nI im.length])
  generalize G.set (a + 2) (cR 2000 (bo_cap 2000 c2 pl.length) (pl ++ [nI im.length])) = G2 at R2 F2 ⊢
  have h02 := R2.1
  obtain ⟨c3, h3⟩ := R2.2.2.2.1
  (repeat (first | refine Ex.go rfl rfl ?_ | refine Ex.gf rfl rfl (by assumption) (by rfl) (by first | rfl | assumption) ?_))
  refine Ex.cv1 rfl rfl rfl h3 (by rfl) (by decide) rfl ?_
  refine Cx.radd h3 ?_
  rw [show bo_add 2000 en y.2.2.2.1 = en ++ [y.2.2.2.1] from if_pos he]
  obtain ⟨R3, F3⟩ := R2.setE (bo_cap 2000 c3 en.length) (en ++ [y.2.2.2.1])
  generalize G2.set (a + 3) (cR 2000 (bo_cap 2000 c3 en.length) (en ++ [y.2.2.2.1])) = G3 at R3 F3 ⊢
  have h03 := R3.1
  (repeat (first | refine Ex.go rfl rfl ?_ | refine Ex.gf rfl rfl (by assumption) (by rfl) (by first | rfl | assumption) ?_))
  refine Ex.rwadd R3 hi rfl rfl rfl (fun G4 R4 F4 => ?_)
  refine Ex.ret rfl rfl rfl ?_
  exact k G4 R4 ((F2.trans F3).trans F4)
theorem c_lastAct (R : RW G a y im pl en f) (hp : 0 < pl.length) (k : Q (some (.int (nI (pl.length - 1)))) G) : Cx (d + 1) mX3_lastAct [.ref a] G Q := by
  have h0 := R.1
  obtain ⟨c2, h2⟩ := R.2.2.1
  have e : nI pl.length - 1 = nI (pl.length - 1) := show nI pl.length - nI 1 = _ from pk_sub (by omega)
  rw [← e] at k
  refine Cx.body rfl rfl ?_
  (repeat (first | refine Ex.go rfl rfl ?_ | refine Ex.gf rfl rfl (by assumption) (by rfl) (by first | rfl | assumption) ?_))
  refine Ex.cv0 rfl rfl rfl h2 (by rfl) (by decide) rfl ?_
  refine s_size h2 ?_
  (repeat (first | refine Ex.go rfl rfl ?_ | refine Ex.gf rfl rfl (by assumption) (by rfl) (by first | rfl | assumption) ?_))
  refine Ex.ret rfl rfl rfl ?_
  exact k
theorem c_isFull (R : RW G a y im pl en f) (hp : pl.length ≤ 2000) (k : Q (some (.int (bo_b (pl.length = 2000)))) G) : Cx (d + 1) mX3_isFull [.ref a] G Q := by
  have h0 := R.1
  obtain ⟨c2, h2⟩ := R.2.2.1
  refine Cx.body rfl rfl ?_
  (repeat (first | refine Ex.go rfl rfl ?_ | refine Ex.gf rfl rfl (by assumption) (by rfl) (by first | rfl | assumption) ?_))
  refine Ex.cv0 rfl rfl rfl h2 (by rfl) (by decide) rfl ?_
  refine s_size h2 ?_
  (repeat (first | refine Ex.go rfl rfl ?_ | refine Ex.gf rfl rfl (by assumption) (by rfl) (by first | rfl | assumption) ?_))
  refine Ex.br (fun h1 => ?_) (fun h1 => ?_)
  · have h3 : nI pl.length < nI 2000 := h1
    rw [nI_ltI (by omega) (by omega)] at h3
    rw [bo_b_f (by omega)] at k
    (repeat (first | refine Ex.go rfl rfl ?_ | refine Ex.gf rfl rfl (by assumption) (by rfl) (by first | rfl | assumption) ?_))
    refine Ex.retz rfl rfl rfl (Or.inl rfl) ?_
    exact k
  · have h3 : ¬ pl.length < 2000 := fun z => h1 (show nI pl.length < nI 2000 from nI_lt z (by omega))
    rw [bo_b_t (by omega)] at k
    (repeat (first | refine Ex.go rfl rfl ?_ | refine Ex.gf rfl rfl (by assumption) (by rfl) (by first | rfl | assumption) ?_))
    refine Ex.retz rfl rfl rfl (Or.inr rfl) ?_
    exact k
end RO
