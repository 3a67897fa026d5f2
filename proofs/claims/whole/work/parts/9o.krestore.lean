/-! The class's restore, over its whole state. -/
section RP
variable {ts : List Int32}
theorem rst_bad : ∀ (f a : Nat) (lg : Nat → Int32) (E : Nat), (rst ts f a lg E).1 = false → (rst ts f a lg E).2.1 < ts.length := by
  intro f
  induction f with
  | zero => intro a lg E h; cases h
  | succ f ih =>
    intro a lg E h
    unfold rst at h ⊢
    by_cases c : a < ts.length
    · rw [if_pos c] at h ⊢
      by_cases c2 : tkP ts a lg E
      · rw [if_pos c2] at h ⊢
        exact ih _ _ _ h
      · rw [if_neg c2]
        exact c
    · rw [if_neg c] at h
      cases h
theorem rst_ZP : ∀ (f a : Nat) (lg : Nat → Int32) (E : Nat), ZP lg E → ZP (rst ts f a lg E).2.2.1 (rst ts f a lg E).2.2.2 := by
  intro f
  induction f with
  | zero => intro a lg E h; exact h
  | succ f ih =>
    intro a lg E h
    unfold rst
    by_cases c : a < ts.length
    · rw [if_pos c]
      by_cases c2 : tkP ts a lg E
      · rw [if_pos c2]
        exact ih _ _ _ (ZP_N h)
      · rw [if_neg c2]
        exact h
    · rw [if_neg c]
      exact h
end RP
section KR
variable {d b : Nat} {G G1 : bo_G} {Q : Option Value → bo_G → Prop} {us ws ws' : List Nat} {lg lg2 : Nat → Int32} {E fx E2 : Nat} {st sh shs on : Int32} {es ks ts : List Int32} {rs : Nat} {ke2 : Int32}
/-- the spare roll changed -/
theorem KS.sp (K : KS G b us ws lg E fx st sh es on ks ts rs) (F : FD (9 - b) ws G ws' G1) (C' : CR G1 (9 - b) ws' lg2 E2 ke2) (hW' : WF lg2 E2) : KS G1 b us ws' lg E fx st sh es on ks ts rs ∧ FK G G1 := by
  obtain ⟨⟨hb, g1, h8⟩, ⟨C, hW, hf, hcc⟩, ⟨hI, hH, l1, ⟨c0, tt, h360⟩, hL, l2, ⟨c3, h363⟩, l3⟩, hlen, ⟨lg3, E3, ke3, C3, hW3⟩, hd⟩ := K
  obtain ⟨u1, u2, u3, u4⟩ := C.cus
  obtain ⟨w1, w2, w3, w4⟩ := C3.cus
  have low : ∀ {j : Nat}, j < 378 → ¬ (9 - b ≤ j ∧ j ≤ 9 - b + 4) → G1[j]? = G[j]? := fun h1 h2 => F.2 _ (by omega) h2 fun w hw z => by
    obtain ⟨m, hm⟩ := w3 w hw
    omega
  have huu : ∀ u ∈ us, ∀ j, u ≤ j → j < u + 6 → G1[j]? = G[j]? := fun u hu j h1 h2 => by
    obtain ⟨m, hm⟩ := u3 u hu
    have := u4 u hu
    refine F.2 j (by omega) (by omega) fun w hw z => ?_
    obtain ⟨m', hm'⟩ := w3 w hw
    have : u = w := by omega
    rw [this] at hu
    exact hd w hu hw
  refine ⟨⟨⟨hb, by rw [low (by omega) (by omega)]; exact g1, h8⟩, ⟨C.of' hb fun j hj => ?_, hW, hf, hcc⟩, ⟨hI.of fun j _ _ => low (by omega) (by omega), hH.of fun j _ _ => low (by omega) (by omega), l1, ⟨c0, tt, by rw [low (by omega) (by omega)]; exact h360⟩, hL.of fun j _ _ => low (by omega) (by omega), l2, ⟨c3, by rw [low (by omega) (by omega)]; exact h363⟩, l3⟩, ?_, ⟨lg2, E2, ke2, C', hW'⟩, ?_⟩, fun j hj => low (by omega) (by omega)⟩
  · rcases hj with q | ⟨u, hu, q1, q2⟩
    · exact low (by omega) (by omega)
    · exact huu u hu j q1 q2
  · obtain ⟨⟨vs, e1, -, e3⟩, -⟩ := F
    rw [e3, e1, List.length_append, hlen]
    omega
  · obtain ⟨⟨vs, e1, e2, -⟩, -⟩ := F
    intro u hu hw
    rw [e1, List.mem_append] at hw
    rcases hw with q | q
    · exact hd u hu q
    · have := (e2 u q).1
      have := u4 u hu
      omega
theorem KS.set1r {rs' : Nat} (K : KS G b us ws lg E fx st sh es on ks ts rs) (h8' : rs' ≤ 8) : KS (G.set 1 (mainC b st (nI rs'))) b us ws lg E fx st sh es on ks ts rs' ∧ FK G (G.set 1 (mainC b st (nI rs'))) := by
  have ne : ∀ j, ¬ j = 1 → (G.set 1 (mainC b st (nI rs')))[j]? = G[j]? := fun j hj => List.getElem?_set_ne fun z => hj z.symm
  obtain ⟨⟨hb, g1, h8⟩, -, ⟨hI, hH, l1, ⟨c0, tt, h360⟩, hL, l2, ⟨c3, h363⟩, l3⟩, -⟩ := id K
  refine ⟨K.mid List.length_set (fun j hj => ne j (by omega)) ⟨get_set g1, h8'⟩ ⟨hI.of fun j _ _ => ne j (by omega), hH.of fun j _ _ => ne j (by omega), l1, ⟨c0, tt, by rw [ne _ (by omega)]; exact h360⟩, hL.of fun j _ _ => ne j (by omega), l2, ⟨c3, by rw [ne _ (by omega)]; exact h363⟩, l3⟩, fun j hj => ne j (by omega)⟩
/-- the rolls change places -/
theorem KS.swap (K : KS G b us ws lg E fx st sh es on ks ts rs) (C2 : CR G (9 - b) ws lg2 E2 (nI (acl lg2 E2).length)) (hW2 : WF lg2 E2) : KS (G.set 1 (mainC (9 - b) st (nI rs))) (9 - b) ws us lg2 E2 E2 st sh es on ks ts rs ∧ FK G (G.set 1 (mainC (9 - b) st (nI rs))) := by
  have ne : ∀ j, ¬ j = 1 → (G.set 1 (mainC (9 - b) st (nI rs)))[j]? = G[j]? := fun j hj => List.getElem?_set_ne fun z => hj z.symm
  obtain ⟨⟨hb, g1, h8⟩, ⟨C, hW, hf, hcc⟩, ⟨hI, hH, l1, ⟨c0, tt, h360⟩, hL, l2, ⟨c3, h363⟩, l3⟩, hlen, -, hd⟩ := K
  have hu := C.cus.2.2.1
  have hw := C2.cus.2.2.1
  have e9 : 9 - (9 - b) = b := by omega
  refine ⟨⟨⟨by omega, get_set g1, h8⟩, ⟨C2.of' (by omega) fun j hj => ne j ?_, hW2, Nat.le_refl _, fun i h1 h2 => absurd h1 (by omega)⟩, ⟨hI.of fun j _ _ => ne j (by omega), hH.of fun j _ _ => ne j (by omega), l1, ⟨c0, tt, by rw [ne _ (by omega)]; exact h360⟩, hL.of fun j _ _ => ne j (by omega), l2, ⟨c3, by rw [ne _ (by omega)]; exact h363⟩, l3⟩, by rw [List.length_set, hlen]; omega, ⟨lg, E, nI (acl lg fx).length, ?_, hW⟩, fun u h1 h2 => hd u h2 h1⟩, fun j hj => ne j (by omega)⟩
  · rcases hj with q | ⟨u, hu2, q1, q2⟩
    · omega
    · obtain ⟨m, hm⟩ := hw u hu2
      omega
  · rw [e9]
    refine C.of' hb fun j hj => ne j ?_
    rcases hj with q | ⟨u, hu2, q1, q2⟩
    · omega
    · obtain ⟨m, hm⟩ := hu u hu2
      omega
theorem KS.lsf {on' : Int32} {ks' : List Int32} (K : KS G b us ws lg E fx st sh es on ks ts rs) (F : FN 361 2 G G1) (hL : LW G1 361 on' ks') (l2 : ks'.length ≤ 90) : KS G1 b us ws lg E fx st sh es on' ks' ts rs ∧ FK G G1 := K.fl F.fl (K.2.2.1.1.of fun j _ _ => F.2 j (by omega)) hL l2
theorem k_swap (K : KS G b us ws lg E fx st sh es on ks ts rs) (C2 : CR G (9 - b) ws lg2 E2 (nI (acl lg2 E2).length)) (hW2 : WF lg2 E2) (k : ∀ G', KS G' (9 - b) ws us lg2 E2 E2 0 (-1) [] 0 [] ts rs → FK G G' → Q none G') : Cx (d + 2) mX10_goOnWithSpare [.ref 1] G Q := by
  have g1 := K.1.2.1
  have hA := ap1 g1
  obtain ⟨K1, F1⟩ := K.swap C2 hW2
  have go : Ex (d + 2) mX10_goOnWithSpare (18, [(0, .ref 1), (1, .ref b)], [], G.set 1 (mainC (9 - b) st (nI rs))) Q := by
    generalize G.set 1 (mainC (9 - b) st (nI rs)) = G1 at *
    have g1 := K1.1.2.1
    have hH := K1.2.2.1.2.1
    have h358 := hH.1
    (repeat (first | refine Ex.go rfl rfl ?_ | refine Ex.gf rfl rfl (by assumption) (by rfl) (by first | rfl | assumption) ?_))
    refine Ex.cv0 rfl rfl rfl h358 (by rfl) (by decide) rfl ?_
    refine hw_drop hH K1.2.2.1.2.2.1 (fun G2 hH2 F2 => ?_)
    obtain ⟨K2, F2⟩ := K1.shf F2 hH2 (Nat.zero_le _)
    have g1 := K2.1.2.1
    have hL := K2.2.2.1.2.2.2.2.1
    have h361 := hL.1
    (repeat (first | refine Ex.go rfl rfl ?_ | refine Ex.gf rfl rfl (by assumption) (by rfl) (by first | rfl | assumption) ?_))
    refine Ex.cv1 rfl rfl rfl h361 (by rfl) (by decide) rfl ?_
    refine lw_begin hL K2.2.2.1.2.2.2.2.2.1 (fun G3 hL3 F3 => ?_)
    obtain ⟨K3, F3⟩ := K2.lsf F3 hL3 (Nat.zero_le _)
    have g1 := K3.1.2.1
    have hA := ap1 g1
    obtain ⟨K4, F4⟩ := K3.set1 (st' := 0)
    have k := k _ K4 (((F1.trans F2).trans F3).trans F4)
    refine Ex.lay [(1, mainC (9 - b) st (nI rs))] (lay1 g1) ?_
    (repeat (first | refine Ex.go rfl rfl ?_ | refine Ex.gf rfl rfl (ov_get hA 0 rfl) (by rfl) (by rfl) ?_ | refine Ex.gf rfl rfl (ov_get hA 1 rfl) (by rfl) (by rfl) ?_ | refine Ex.gf rfl rfl (ov_get hA 2 rfl) (by rfl) (by rfl) ?_ | refine Ex.gf rfl rfl (ov_get hA 3 rfl) (by rfl) (by rfl) ?_ | refine Ex.gf rfl rfl (ov_get hA 4 rfl) (by rfl) (by rfl) ?_ | refine Ex.gf rfl rfl (ov_get hA 5 rfl) (by rfl) (by rfl) ?_ | refine Ex.gf rfl rfl (ov_get hA 6 rfl) (by rfl) (by rfl) ?_ | (refine Ex.pfo hA 0 rfl rfl rfl (by rfl) (by rfl) (by rfl) ?_; dsimp only [List.set]) | (refine Ex.pfo hA 1 rfl rfl rfl (by rfl) (by rfl) (by rfl) ?_; dsimp only [List.set]) | (refine Ex.pfo hA 2 rfl rfl rfl (by rfl) (by rfl) (by rfl) ?_; dsimp only [List.set]) | (refine Ex.pfo hA 3 rfl rfl rfl (by rfl) (by rfl) (by rfl) ?_; dsimp only [List.set]) | (refine Ex.pfo hA 4 rfl rfl rfl (by rfl) (by rfl) (by rfl) ?_; dsimp only [List.set]) | (refine Ex.pfo hA 5 rfl rfl rfl (by rfl) (by rfl) (by rfl) ?_; dsimp only [List.set]) | (refine Ex.pfo hA 6 rfl rfl rfl (by rfl) (by rfl) (by rfl) ?_; dsimp only [List.set])))
    refine Ex.ret rfl rfl rfl ?_
    exact k
  rcases K.1.1 with q | q
  · subst q
    refine Cx.body rfl rfl ?_
    refine Ex.lay [(1, mainC 2 st (nI rs))] (lay1 g1) ?_
    (repeat (first | exact go | refine Ex.go rfl rfl ?_ | refine Ex.gf rfl rfl (ov_get hA 0 rfl) (by rfl) (by rfl) ?_ | refine Ex.gf rfl rfl (ov_get hA 1 rfl) (by rfl) (by rfl) ?_ | refine Ex.gf rfl rfl (ov_get hA 2 rfl) (by rfl) (by rfl) ?_ | refine Ex.gf rfl rfl (ov_get hA 3 rfl) (by rfl) (by rfl) ?_ | refine Ex.gf rfl rfl (ov_get hA 4 rfl) (by rfl) (by rfl) ?_ | refine Ex.gf rfl rfl (ov_get hA 5 rfl) (by rfl) (by rfl) ?_ | refine Ex.gf rfl rfl (ov_get hA 6 rfl) (by rfl) (by rfl) ?_ | (refine Ex.pfo hA 0 rfl rfl rfl (by rfl) (by rfl) (by rfl) ?_; dsimp only [List.set]) | (refine Ex.pfo hA 1 rfl rfl rfl (by rfl) (by rfl) (by rfl) ?_; dsimp only [List.set]) | (refine Ex.pfo hA 2 rfl rfl rfl (by rfl) (by rfl) (by rfl) ?_; dsimp only [List.set]) | (refine Ex.pfo hA 3 rfl rfl rfl (by rfl) (by rfl) (by rfl) ?_; dsimp only [List.set]) | (refine Ex.pfo hA 4 rfl rfl rfl (by rfl) (by rfl) (by rfl) ?_; dsimp only [List.set]) | (refine Ex.pfo hA 5 rfl rfl rfl (by rfl) (by rfl) (by rfl) ?_; dsimp only [List.set]) | (refine Ex.pfo hA 6 rfl rfl rfl (by rfl) (by rfl) (by rfl) ?_; dsimp only [List.set])))
  · subst q
    refine Cx.body rfl rfl ?_
    refine Ex.lay [(1, mainC 7 st (nI rs))] (lay1 g1) ?_
    (repeat (first | exact go | refine Ex.go rfl rfl ?_ | refine Ex.gf rfl rfl (ov_get hA 0 rfl) (by rfl) (by rfl) ?_ | refine Ex.gf rfl rfl (ov_get hA 1 rfl) (by rfl) (by rfl) ?_ | refine Ex.gf rfl rfl (ov_get hA 2 rfl) (by rfl) (by rfl) ?_ | refine Ex.gf rfl rfl (ov_get hA 3 rfl) (by rfl) (by rfl) ?_ | refine Ex.gf rfl rfl (ov_get hA 4 rfl) (by rfl) (by rfl) ?_ | refine Ex.gf rfl rfl (ov_get hA 5 rfl) (by rfl) (by rfl) ?_ | refine Ex.gf rfl rfl (ov_get hA 6 rfl) (by rfl) (by rfl) ?_ | (refine Ex.pfo hA 0 rfl rfl rfl (by rfl) (by rfl) (by rfl) ?_; dsimp only [List.set]) | (refine Ex.pfo hA 1 rfl rfl rfl (by rfl) (by rfl) (by rfl) ?_; dsimp only [List.set]) | (refine Ex.pfo hA 2 rfl rfl rfl (by rfl) (by rfl) (by rfl) ?_; dsimp only [List.set]) | (refine Ex.pfo hA 3 rfl rfl rfl (by rfl) (by rfl) (by rfl) ?_; dsimp only [List.set]) | (refine Ex.pfo hA 4 rfl rfl rfl (by rfl) (by rfl) (by rfl) ?_; dsimp only [List.set]) | (refine Ex.pfo hA 5 rfl rfl rfl (by rfl) (by rfl) (by rfl) ?_; dsimp only [List.set]) | (refine Ex.pfo hA 6 rfl rfl rfl (by rfl) (by rfl) (by rfl) ?_; dsimp only [List.set])))
theorem k_restore (K : KS G b us ws lg E fx st sh es on ks ts rs) (k8 : rs = 8 → ∀ G', KS G' b us ws lg E fx st sh es on ks [] rs → FK G G' → Q (some (.int (-4))) G') (kg : ¬ rs = 8 → (rst ts (ts.length + 1) 0 lg 0).1 = true → ∀ G' b' us' ws', KS G' b' us' ws' (rst ts (ts.length + 1) 0 lg 0).2.2.1 (rst ts (ts.length + 1) 0 lg 0).2.2.2 (rst ts (ts.length + 1) 0 lg 0).2.2.2 0 (-1) [] 0 [] [] (rs + 1) → FK G G' → Q (some (.int (nI (acl (rst ts (ts.length + 1) 0 lg 0).2.2.1 (rst ts (ts.length + 1) 0 lg 0).2.2.2).length))) G') (kb : ¬ rs = 8 → (rst ts (ts.length + 1) 0 lg 0).1 = false → ∀ G' ws', KS G' b us ws' lg E fx st sh es on ks [] (rs + 1) → FK G G' → Q (some (.int (-10 - nI (rst ts (ts.length + 1) 0 lg 0).2.1))) G') : Cx (d + 9) mX10_restore [.ref 1] G Q := by
  have g1 := K.1.2.1
  have h8 := K.1.2.2
  refine Cx.body rfl rfl ?_
  refine Ex.lay [(1, mainC b st (nI rs))] (lay1 g1) ?_
  have hA := ap1 g1
  (repeat (first | refine Ex.go rfl rfl ?_ | refine Ex.gf rfl rfl (ov_get hA 0 rfl) (by rfl) (by rfl) ?_ | refine Ex.gf rfl rfl (ov_get hA 1 rfl) (by rfl) (by rfl) ?_ | refine Ex.gf rfl rfl (ov_get hA 2 rfl) (by rfl) (by rfl) ?_ | refine Ex.gf rfl rfl (ov_get hA 3 rfl) (by rfl) (by rfl) ?_ | refine Ex.gf rfl rfl (ov_get hA 4 rfl) (by rfl) (by rfl) ?_ | refine Ex.gf rfl rfl (ov_get hA 5 rfl) (by rfl) (by rfl) ?_ | refine Ex.gf rfl rfl (ov_get hA 6 rfl) (by rfl) (by rfl) ?_ | (refine Ex.pfo hA 0 rfl rfl rfl (by rfl) (by rfl) (by rfl) ?_; dsimp only [List.set]) | (refine Ex.pfo hA 1 rfl rfl rfl (by rfl) (by rfl) (by rfl) ?_; dsimp only [List.set]) | (refine Ex.pfo hA 2 rfl rfl rfl (by rfl) (by rfl) (by rfl) ?_; dsimp only [List.set]) | (refine Ex.pfo hA 3 rfl rfl rfl (by rfl) (by rfl) (by rfl) ?_; dsimp only [List.set]) | (refine Ex.pfo hA 4 rfl rfl rfl (by rfl) (by rfl) (by rfl) ?_; dsimp only [List.set]) | (refine Ex.pfo hA 5 rfl rfl rfl (by rfl) (by rfl) (by rfl) ?_; dsimp only [List.set]) | (refine Ex.pfo hA 6 rfl rfl rfl (by rfl) (by rfl) (by rfl) ?_; dsimp only [List.set])))
  refine Ex.br (fun c1 => ?_) (fun c1 => ?_); rotate_left
  · have h9 : rs = 8 := by
      have c2 : nI 8 ≤ nI rs := Int32.not_lt.mp c1
      rw [nI_leI (by omega) (by omega)] at c2
      omega
    have k8 := k8 h9
    obtain ⟨c3, h3⟩ := K.2.2.1.2.2.2.2.2.2.1
    have l3 := K.2.2.1.2.2.2.2.2.2.2
    show Ex (d + 9) mX10_restore (9, lv_args 0 [.ref 1], [], G.set 1 (mainC b st (nI rs))) Q
    rw [set_self g1]
    (repeat (first | refine Ex.go rfl rfl ?_ | refine Ex.gf rfl rfl (by assumption) (by rfl) (by first | rfl | assumption) ?_))
    refine Ex.cv1 rfl rfl rfl h3 (by rfl) (by decide) rfl ?_
    refine s_cut h3 (by omega) ?_
    rw [show rcut (Int32.ofInt 0) ts = [] from rcut_0 _]
    obtain ⟨K1, F1⟩ := K.tape (c := c3) (ts' := []) (Nat.zero_le _)
    have k := k8 _ K1 F1
    (repeat (first | refine Ex.go rfl rfl ?_ | refine Ex.gf rfl rfl (by assumption) (by rfl) (by first | rfl | assumption) ?_))
    refine Ex.ret rfl rfl rfl ?_
    exact k
  have h9 : ¬ rs = 8 := fun z => by
    have c2 : nI rs < nI 8 := c1
    rw [nI_ltI (by omega) (by omega)] at c2
    omega
  have kg := kg h9
  have kb := kb h9
  obtain ⟨K1, F1⟩ := K.set1r (rs' := rs + 1) (by omega)
  (repeat (first | refine Ex.go rfl rfl ?_ | refine Ex.gf rfl rfl (ov_get hA 0 rfl) (by rfl) (by rfl) ?_ | refine Ex.gf rfl rfl (ov_get hA 1 rfl) (by rfl) (by rfl) ?_ | refine Ex.gf rfl rfl (ov_get hA 2 rfl) (by rfl) (by rfl) ?_ | refine Ex.gf rfl rfl (ov_get hA 3 rfl) (by rfl) (by rfl) ?_ | refine Ex.gf rfl rfl (ov_get hA 4 rfl) (by rfl) (by rfl) ?_ | refine Ex.gf rfl rfl (ov_get hA 5 rfl) (by rfl) (by rfl) ?_ | refine Ex.gf rfl rfl (ov_get hA 6 rfl) (by rfl) (by rfl) ?_ | (refine Ex.pfo hA 0 rfl rfl rfl (by rfl) (by rfl) (by rfl) ?_; dsimp only [List.set]) | (refine Ex.pfo hA 1 rfl rfl rfl (by rfl) (by rfl) (by rfl) ?_; dsimp only [List.set]) | (refine Ex.pfo hA 2 rfl rfl rfl (by rfl) (by rfl) (by rfl) ?_; dsimp only [List.set]) | (refine Ex.pfo hA 3 rfl rfl rfl (by rfl) (by rfl) (by rfl) ?_; dsimp only [List.set]) | (refine Ex.pfo hA 4 rfl rfl rfl (by rfl) (by rfl) (by rfl) ?_; dsimp only [List.set]) | (refine Ex.pfo hA 5 rfl rfl rfl (by rfl) (by rfl) (by rfl) ?_; dsimp only [List.set]) | (refine Ex.pfo hA 6 rfl rfl rfl (by rfl) (by rfl) (by rfl) ?_; dsimp only [List.set])))
  show Ex (d + 9) mX10_restore (39, lv_args 0 [.ref 1], [.ref 363, .ref (9 - b)], G.set 1 (mainC b st (nI rs + 1))) Q
  rw [nI_1]
  generalize G.set 1 (mainC b st (nI (rs + 1))) = G1 at *
  clear hA g1
  have g1 := K1.1.2.1
  obtain ⟨c3, h3⟩ := K1.2.2.1.2.2.2.2.2.2.1
  have l3 := K1.2.2.1.2.2.2.2.2.2.2
  obtain ⟨lg2, E2, ke2, C2, hW2⟩ := K1.2.2.2.2.1
  have r0 := C2.1.1
  have hb := K1.1.1
  refine Ex.cv1 rfl rfl rfl r0 (by rfl) (by decide) rfl ?_
  refine c_goOver (lg := lg) (m := us.length + ws.length) (by omega) C2 hW2 K1.2.2.2.1 h3 (by omega) l3 (fun hg G2 ws2 C3 F3 hW3 => ?_) (fun hbd G2 ws2 ke3 C3 F3 hW3 => ?_)
  · have kg := kg hg
    obtain ⟨K2, F2⟩ := K1.sp F3 C3 hW3
    have g1 := K2.1.2.1
    obtain ⟨c4, h4⟩ := K2.2.2.1.2.2.2.2.2.2.1
    have hlen : ¬ nI (acl (rst ts (ts.length + 1) 0 lg 0).2.2.1 (rst ts (ts.length + 1) 0 lg 0).2.2.2).length < 0 := nI_pos (by have := hW3.2.2.1; omega)
    clear kb
    generalize rst ts (ts.length + 1) 0 lg 0 = R at *
    have hl4 := K2.2.2.1.2.2.2.2.2.2.2
    (repeat (first | refine Ex.go rfl rfl ?_ | refine Ex.gf rfl rfl (by assumption) (by rfl) (by first | rfl | assumption) ?_))
    refine Ex.cv1 rfl rfl rfl h4 (by rfl) (by decide) rfl ?_
    refine s_cut h4 (by omega) ?_
    rw [show rcut (Int32.ofInt 0) ts = [] from rcut_0 _]
    obtain ⟨K3, F3'⟩ := K2.tape (c := c4) (ts' := []) (Nat.zero_le _)
    have C4 : CR (G2.set 363 (cR 40000 c4 [])) (9 - b) ws2 R.2.2.1 R.2.2.2 (nI (acl R.2.2.1 R.2.2.2).length) := C3.of' (by omega) fun j hj => List.getElem?_set_ne (by
      rcases hj with q | ⟨u, hu2, q1, q2⟩
      · omega
      · obtain ⟨m, hm⟩ := C3.cus.2.2.1 u hu2
        omega)
    generalize G2.set 363 (cR 40000 c4 []) = G3 at *
    have g1 := K3.1.2.1
    (repeat (first | refine Ex.go rfl rfl ?_ | refine Ex.gf rfl rfl (by assumption) (by rfl) (by first | rfl | assumption) ?_))
    refine Ex.br (fun c2 => ?_) (fun c2 => ?_)
    · exact absurd c2 hlen
    (repeat (first | refine Ex.go rfl rfl ?_ | refine Ex.gf rfl rfl (by assumption) (by rfl) (by first | rfl | assumption) ?_))
    refine Ex.cv0 rfl rfl rfl g1 (by rfl) (by decide) rfl ?_
    refine k_swap K3 C4 hW3 (fun G4 K4 F4 => ?_)
    have k := kg G4 (9 - b) ws2 us K4 (((F1.trans F2).trans F3').trans F4)
    (repeat (first | refine Ex.go rfl rfl ?_ | refine Ex.gf rfl rfl (by assumption) (by rfl) (by first | rfl | assumption) ?_))
    refine Ex.ret rfl rfl rfl ?_
    exact k
  · have kb := kb hbd
    have hlt := rst_bad (ts.length + 1) 0 lg 0 hbd
    obtain ⟨K2, F2⟩ := K1.sp F3 C3 hW3
    have g1 := K2.1.2.1
    obtain ⟨c4, h4⟩ := K2.2.2.1.2.2.2.2.2.2.1
    generalize rst ts (ts.length + 1) 0 lg 0 = R at *
    have hneg : (-10 - nI R.2.1) < 0 := by
      have e : (-10 - nI R.2.1).toInt = -10 - (R.2.1 : Int) := z_sub rfl (nI_toInt (by omega)) (by omega)
      exact Int32.lt_iff_toInt_lt.mpr (by rw [e]; show _ < (0 : Int); omega)
    generalize -10 - nI R.2.1 = an at *
    have hl4 := K2.2.2.1.2.2.2.2.2.2.2
    (repeat (first | refine Ex.go rfl rfl ?_ | refine Ex.gf rfl rfl (by assumption) (by rfl) (by first | rfl | assumption) ?_))
    refine Ex.cv1 rfl rfl rfl h4 (by rfl) (by decide) rfl ?_
    refine s_cut h4 (by omega) ?_
    rw [show rcut (Int32.ofInt 0) ts = [] from rcut_0 _]
    obtain ⟨K3, F3'⟩ := K2.tape (c := c4) (ts' := []) (Nat.zero_le _)
    generalize G2.set 363 (cR 40000 c4 []) = G3 at *
    have g1 := K3.1.2.1
    have k := kb G3 ws2 K3 ((F1.trans F2).trans F3')
    (repeat (first | refine Ex.go rfl rfl ?_ | refine Ex.gf rfl rfl (by assumption) (by rfl) (by first | rfl | assumption) ?_))
    refine Ex.br (fun c2 => ?_) (fun c2 => ?_); rotate_left
    · exact absurd hneg c2
    (repeat (first | refine Ex.go rfl rfl ?_ | refine Ex.gf rfl rfl (by assumption) (by rfl) (by first | rfl | assumption) ?_))
    refine Ex.ret rfl rfl rfl ?_
    exact k
end KR
