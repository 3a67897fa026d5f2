/-! The class's other calls, over its whole state. -/
section KC
variable {d b : Nat} {G G1 : bo_G} {Q : Option Value → bo_G → Prop} {us ws : List Nat} {lg : Nat → Int32} {E fx : Nat} {st sh on : Int32} {es ks ts : List Int32} {rs : Nat} {v p s w x y fr to a1 a2 a3 a4 a5 : Int32}
theorem k_pass (K : KS G b us ws lg E fx st sh es on ks ts rs) (k0 : rfs lg E 0 (n6 a1 0 0 0 0 0) < 0 → ∀ G', KS G' b us ws lg E fx (rfs lg E 0 (n6 a1 0 0 0 0 0)) sh es on ks ts rs → FK G G' → Q (some (.int (rfs lg E 0 (n6 a1 0 0 0 0 0)))) G') (k1 : rfs lg E 0 (n6 a1 0 0 0 0 0) = 0 → ∀ G', KS G' b us ws (lgN lg E 0 (n6 a1 0 0 0 0 0)) (E + 1) (E + 1) 0 sh es on ks ts rs → FK G G' → Q (some (.int (ansI lg E 0 (n6 a1 0 0 0 0 0)))) G') : Cx (d + 4) mX10_pass [.ref 1, .int a1] G Q := by
  have g1 := K.1.2.1
  have C := K.2.1.1
  have hW := K.2.1.2.1
  have r0 := C.1.1
  refine Cx.body rfl rfl ?_
  (repeat (first | refine Ex.go rfl rfl ?_ | refine Ex.gf rfl rfl (by assumption) (by rfl) (by first | rfl | assumption) ?_))
  refine Ex.cv1 rfl rfl rfl r0 (by rfl) (by decide) rfl ?_
  refine c_goTo K.1.1 C hW (fun h0 => ?_) (fun h1 G' C' F => ?_)
  · have k := k0 h0
    (repeat (first | refine Ex.go rfl rfl ?_ | refine Ex.gf rfl rfl (by assumption) (by rfl) (by first | rfl | assumption) ?_))
    refine Ex.cv1 rfl rfl rfl g1 (by rfl) (by decide) rfl ?_
    refine t_told K (fun G2 K2 F2 => ?_)
    rw [if_pos h0] at K2
    have k := k G2 K2 F2
    (repeat (first | refine Ex.go rfl rfl ?_ | refine Ex.gf rfl rfl (by assumption) (by rfl) (by first | rfl | assumption) ?_))
    refine Ex.ret rfl rfl rfl ?_
    exact k
  · have ea : acl (lgN lg E 0 (n6 a1 0 0 0 0 0)) (E + 1) = acl lg E := by rw [acl_s, if_pos (by rw [lgN_cod]; rfl), List.append_nil]; exact acl_E lgN_E (Nat.le_refl E)
    have K1 := K.kfd F.fd (fx' := E + 1) (by rw [ea]; exact C') (WF_N hW (by omega) h1).2.2 (Nat.le_refl _) (fun i a1 a2 => absurd a1 (by omega))
    have g1' := K1.1.2.1
    have hge := ans_nn hW (show 0 < 12 by omega) h1
    have k := k1 h1
    (repeat (first | refine Ex.go rfl rfl ?_ | refine Ex.gf rfl rfl (by assumption) (by rfl) (by first | rfl | assumption) ?_))
    refine Ex.cv1 rfl rfl rfl g1' (by rfl) (by decide) rfl ?_
    refine t_told K1 (fun G2 K2 F2 => ?_)
    have K2 : KS G2 b us ws (lgN lg E 0 (n6 a1 0 0 0 0 0)) (E + 1) (E + 1) (if ansI lg E 0 (n6 a1 0 0 0 0 0) < 0 then a1 else 0) sh es on ks ts rs := K2
    rw [if_neg hge] at K2
    have k := k G2 K2 ((K.fkd F.fd).trans F2)
    (repeat (first | refine Ex.go rfl rfl ?_ | refine Ex.gf rfl rfl (by assumption) (by rfl) (by first | rfl | assumption) ?_))
    refine Ex.ret rfl rfl rfl ?_
    exact k
theorem k_undo (K : KS G b us ws lg E fx st sh es on ks ts rs) (k0 : E = fx → ∀ G', KS G' b us ws lg E fx (-1) sh es on ks ts rs → FK G G' → Q (some (.int (-1))) G') (k1 : ∀ E', E = E' + 1 → fx ≤ E' → ¬ cod lg E' = 0 → ∀ G' us', KS G' b us' ws lg E' fx 0 sh es on ks ts rs → FK G G' → Q (some (.int (cod lg E'))) G') : Cx (d + 6) mX10_undo [.ref 1] G Q := by
  have g1 := K.1.2.1
  have hE := K.E6
  obtain ⟨C, hW, hf, hcc⟩ := K.2.1
  have r0 := C.1.1
  refine Cx.body rfl rfl ?_
  (repeat (first | refine Ex.go rfl rfl ?_ | refine Ex.gf rfl rfl (by assumption) (by rfl) (by first | rfl | assumption) ?_))
  refine Ex.cv0 rfl rfl rfl r0 (by rfl) (by decide) rfl ?_
  by_cases q : E = fx
  · have C0 : CR G b us lg E (nI (acl lg E).length) := by rw [← q] at C; exact C
    refine c_takeBack0 C0 hE ?_
    have k := k0 q
    (repeat (first | refine Ex.go rfl rfl ?_ | refine Ex.gf rfl rfl (by assumption) (by rfl) (by first | rfl | assumption) ?_))
    refine Ex.cv1 rfl rfl rfl g1 (by rfl) (by decide) rfl ?_
    refine t_told K (fun G2 K2 F2 => ?_)
    rw [if_pos (show (-1 : Int32) < 0 by decide)] at K2
    have k := k G2 K2 F2
    (repeat (first | refine Ex.go rfl rfl ?_ | refine Ex.gf rfl rfl (by assumption) (by rfl) (by first | rfl | assumption) ?_))
    refine Ex.ret rfl rfl rfl ?_
    exact k
  · obtain ⟨E', rfl⟩ : ∃ e, E = e + 1 := ⟨E - 1, by omega⟩
    have hc0 := hcc E' (by omega) (by omega)
    have hkk : (acl lg fx).length ≤ (acl lg E').length := by
      obtain ⟨r, hr⟩ := sel_pre (P := fun i => !(cod lg i == 0)) (show fx ≤ E' by omega)
      have hr : acl lg E' = acl lg fx ++ r := hr
      rw [hr, List.length_append]
      omega
    refine c_takeBack K.1.1 C hW (by omega) hc0 hkk (m := us.length + ws.length) K.2.2.2.1 (fun G' us' C' F => ?_)
    have K1 := K.kfd F C' (WF_U hW) (by omega) (fun i a1 a2 => hcc i a1 (by omega))
    have g1' := K1.1.2.1
    have hnn : ¬ cod lg E' < 0 := by
      obtain ⟨c, h12, e⟩ := cod_nat (hW.1 E' (by omega))
      rw [e]
      exact nI_pos (n := c) (by omega)
    have k := k1 E' rfl (by omega) hc0
    (repeat (first | refine Ex.go rfl rfl ?_ | refine Ex.gf rfl rfl (by assumption) (by rfl) (by first | rfl | assumption) ?_))
    refine Ex.cv1 rfl rfl rfl g1' (by rfl) (by decide) rfl ?_
    refine t_told K1 (fun G2 K2 F2 => ?_)
    rw [if_neg hnn] at K2
    have k := k G2 us' K2 ((K.fkd F).trans F2)
    (repeat (first | refine Ex.go rfl rfl ?_ | refine Ex.gf rfl rfl (by assumption) (by rfl) (by first | rfl | assumption) ?_))
    refine Ex.ret rfl rfl rfl ?_
    exact k
theorem k_status (K : KS G b us ws lg E fx st sh es on ks ts rs) (k : Q (some (.int st)) G) : Cx d mX10_status [.ref 1] G Q := by
  have g1 := K.1.2.1
  refine Cx.body rfl rfl ?_
  (repeat (first | refine Ex.go rfl rfl ?_ | refine Ex.gf rfl rfl (by assumption) (by rfl) (by first | rfl | assumption) ?_))
  refine Ex.ret rfl rfl rfl ?_
  exact k
theorem k_count (K : KS G b us ws lg E fx st sh es on ks ts rs) (k : Q (some (.int (cntI lg E x v))) G) : Cx (d + 3) mX10_count [.ref 1, .int x, .int v] G Q := by
  have g1 := K.1.2.1
  have C := K.2.1.1
  have r0 := C.1.1
  refine Cx.body rfl rfl ?_
  (repeat (first | refine Ex.go rfl rfl ?_ | refine Ex.gf rfl rfl (by assumption) (by rfl) (by first | rfl | assumption) ?_))
  refine Ex.cv2 rfl rfl rfl r0 (by rfl) (by decide) rfl ?_
  refine c_countOf C K.2.1.2.1 ?_
  (repeat (first | refine Ex.go rfl rfl ?_ | refine Ex.gf rfl rfl (by assumption) (by rfl) (by first | rfl | assumption) ?_))
  refine Ex.ret rfl rfl rfl ?_
  exact k
theorem k_image (K : KS G b us ws lg E fx st sh es on ks ts rs) (k : Q (some (.int (nI (img lg E).length))) G) : Cx (d + 1) mX10_image [.ref 1] G Q := by
  have g1 := K.1.2.1
  have C := K.2.1.1
  have r0 := C.1.1
  obtain ⟨ci, r1⟩ := C.1.2.1
  refine Cx.body rfl rfl ?_
  (repeat (first | refine Ex.go rfl rfl ?_ | refine Ex.gf rfl rfl (by assumption) (by rfl) (by first | rfl | assumption) ?_))
  refine Ex.cv0 rfl rfl rfl r0 (by rfl) (by decide) rfl ?_
  refine c_imageRow C ?_
  (repeat (first | refine Ex.go rfl rfl ?_ | refine Ex.gf rfl rfl (by assumption) (by rfl) (by first | rfl | assumption) ?_))
  refine Ex.cv0 rfl rfl rfl r1 (by rfl) (by decide) rfl ?_
  refine s_size r1 ?_
  (repeat (first | refine Ex.go rfl rfl ?_ | refine Ex.gf rfl rfl (by assumption) (by rfl) (by first | rfl | assumption) ?_))
  refine Ex.ret rfl rfl rfl ?_
  exact k
theorem k_imageAt (K : KS G b us ws lg E fx st sh es on ks ts rs) (k : Q (some (.int (bo_at (img lg E) x))) G) : Cx (d + 1) mX10_imageAt [.ref 1, .int x] G Q := by
  have g1 := K.1.2.1
  have C := K.2.1.1
  have r0 := C.1.1
  obtain ⟨ci, r1⟩ := C.1.2.1
  refine Cx.body rfl rfl ?_
  (repeat (first | refine Ex.go rfl rfl ?_ | refine Ex.gf rfl rfl (by assumption) (by rfl) (by first | rfl | assumption) ?_))
  refine Ex.cv0 rfl rfl rfl r0 (by rfl) (by decide) rfl ?_
  refine c_imageRow C ?_
  (repeat (first | refine Ex.go rfl rfl ?_ | refine Ex.gf rfl rfl (by assumption) (by rfl) (by first | rfl | assumption) ?_))
  refine Ex.cv1 rfl rfl rfl r1 (by rfl) (by decide) rfl ?_
  refine Cx.rat r1 ?_
  (repeat (first | refine Ex.go rfl rfl ?_ | refine Ex.gf rfl rfl (by assumption) (by rfl) (by first | rfl | assumption) ?_))
  refine Ex.ret rfl rfl rfl ?_
  exact k
theorem k_listed (K : KS G b us ws lg E fx st sh es on ks ts rs) (k : Q (some (.int (lnC on ks x w))) G) : Cx (d + 2) mX10_listed [.ref 1, .int x, .int w] G Q := by
  have g1 := K.1.2.1
  have hL := K.2.2.1.2.2.2.2.1
  have g0 := hL.1
  refine Cx.body rfl rfl ?_
  (repeat (first | refine Ex.go rfl rfl ?_ | refine Ex.gf rfl rfl (by assumption) (by rfl) (by first | rfl | assumption) ?_))
  refine Ex.cv2 rfl rfl rfl g0 (by rfl) (by decide) rfl ?_
  refine lw_number hL K.2.2.1.2.2.2.2.2.1 ?_
  (repeat (first | refine Ex.go rfl rfl ?_ | refine Ex.gf rfl rfl (by assumption) (by rfl) (by first | rfl | assumption) ?_))
  refine Ex.ret rfl rfl rfl ?_
  exact k
theorem k_list {ls : Nat → Int32} (K : KS G b us ws lg E fx st sh es on ks ts rs) (k : ∀ G' ks', KS G' b us ws lg E fx st sh es (tdy lg E) ks' ts rs → FK G G' → LSi (tdy lg E) ks' (lsT lg E (tdy lg E) fr to ls (3 * (vsl lg E).length)).1 (lsT lg E (tdy lg E) fr to ls (3 * (vsl lg E).length)).2 (3 * (vsl lg E).length) → Q (some (.int (nI (lsT lg E (tdy lg E) fr to ls (3 * (vsl lg E).length)).1))) G') : Cx (d + 7) mX10_list [.ref 1, .int fr, .int to] G Q := by
  have h30 := K.2.1.2.1.2.1
  refine q_list (ls := ls) K.bq K.2.2.1.2.2.2.2.1 K.2.2.1.2.2.2.2.2.1 (fun G' ks' hL' hS hI F => ?_)
  obtain ⟨K', F'⟩ := K.fl F hI hL' (by have := hS.1; have := hS.2.1; omega)
  exact k G' ks' K' F' hS
/-- cells of the sheet alone changed -/
theorem KS.shf {sh' : Int32} {es' : List Int32} (K : KS G b us ws lg E fx st sh es on ks ts rs) (F : FN 358 2 G G1) (hH : HW G1 358 sh' es') (l : es'.length ≤ 40) : KS G1 b us ws lg E fx st sh' es' on ks ts rs ∧ FK G G1 := by
  obtain ⟨⟨hb, g1, h8⟩, -, ⟨hI, -, -, ⟨c0, tt, h360⟩, hL, l2, ⟨c3, h363⟩, l3⟩, -⟩ := id K
  exact ⟨K.mid F.1 (fun j hj => F.2 j (by omega)) ⟨by rw [F.2 1 (by omega)]; exact g1, h8⟩ ⟨hI.of fun j _ _ => F.2 j (by omega), hH, l, ⟨c0, tt, by rw [F.2 _ (by omega)]; exact h360⟩, hL.of fun j _ _ => F.2 j (by omega), l2, ⟨c3, by rw [F.2 _ (by omega)]; exact h363⟩, l3⟩, fun j hj => F.2 j (by omega)⟩
theorem k_sheet (K : KS G b us ws lg E fx st sh es on ks ts rs) (k0 : shtI x w < 0 → ∀ G', KS G' b us ws lg E fx (shtI x w) sh es on ks ts rs → FK G G' → Q (some (.int (shtI x w))) G') (k1 : shtI x w = 0 → ∀ G' m, m ≤ 40 → m = (if x = 2 then 0 else w.toNatClampNeg) → KS G' b us ws lg E fx 0 x (List.replicate m 0) on ks ts rs → FK G G' → Q (some (.int (nI m))) G') : Cx (d + 5) mX10_sheet [.ref 1, .int x, .int w] G Q := by
  have g1 := K.1.2.1
  have hH := K.2.2.1.2.1
  have g0 := hH.1
  refine Cx.body rfl rfl ?_
  (repeat (first | refine Ex.go rfl rfl ?_ | refine Ex.gf rfl rfl (by assumption) (by rfl) (by first | rfl | assumption) ?_))
  refine Ex.cv2 rfl rfl rfl g0 (by rfl) (by decide) rfl ?_
  refine hw_begin hH (fun h0 => ?_) (fun h1 G' m hm em hH' F => ?_)
  · have k := k0 h0
    (repeat (first | refine Ex.go rfl rfl ?_ | refine Ex.gf rfl rfl (by assumption) (by rfl) (by first | rfl | assumption) ?_))
    refine Ex.cv1 rfl rfl rfl g1 (by rfl) (by decide) rfl ?_
    refine t_told K (fun G2 K2 F2 => ?_)
    rw [if_pos h0] at K2
    have k := k G2 K2 F2
    (repeat (first | refine Ex.go rfl rfl ?_ | refine Ex.gf rfl rfl (by assumption) (by rfl) (by first | rfl | assumption) ?_))
    refine Ex.ret rfl rfl rfl ?_
    exact k
  · obtain ⟨K1, F1⟩ := K.shf F hH' (by rw [List.length_replicate]; exact hm)
    have g1' := K1.1.2.1
    have k := k1 h1
    (repeat (first | refine Ex.go rfl rfl ?_ | refine Ex.gf rfl rfl (by assumption) (by rfl) (by first | rfl | assumption) ?_))
    refine Ex.cv1 rfl rfl rfl g1' (by rfl) (by decide) rfl ?_
    refine t_told K1 (fun G2 K2 F2 => ?_)
    rw [if_neg (nI_pos (n := m) (by omega))] at K2
    have k := k G2 m hm em K2 (F1.trans F2)
    (repeat (first | refine Ex.go rfl rfl ?_ | refine Ex.gf rfl rfl (by assumption) (by rfl) (by first | rfl | assumption) ?_))
    refine Ex.ret rfl rfl rfl ?_
    exact k
theorem bo_put_len {xs : List Int32} {i v : Int32} : (bo_put xs i v).length = xs.length := by
  unfold bo_put
  split
  · exact List.length_set
  · rfl
theorem k_entry (K : KS G b us ws lg E fx st sh es on ks ts rs) (k0 : ¬ (0 ≤ x.toInt ∧ x.toInt < es.length) → Q (some (.int 0)) G) (k1 : 0 ≤ x.toInt ∧ x.toInt < es.length → ∀ G', KS G' b us ws lg E fx st sh (bo_put es x w) on ks ts rs → FK G G' → Q (some (.int 1)) G') : Cx (d + 2) mX10_entry [.ref 1, .int x, .int w] G Q := by
  have g1 := K.1.2.1
  have hH := K.2.2.1.2.1
  have g0 := hH.1
  refine Cx.body rfl rfl ?_
  (repeat (first | refine Ex.go rfl rfl ?_ | refine Ex.gf rfl rfl (by assumption) (by rfl) (by first | rfl | assumption) ?_))
  refine Ex.cv2 rfl rfl rfl g0 (by rfl) (by decide) rfl ?_
  refine hw_write hH K.2.2.1.2.2.1 (fun h0 => ?_) (fun h1 G' hH' F => ?_)
  · have k := k0 h0
    (repeat (first | refine Ex.go rfl rfl ?_ | refine Ex.gf rfl rfl (by assumption) (by rfl) (by first | rfl | assumption) ?_))
    exact Ex.retz rfl rfl rfl (Or.inl rfl) k
  · obtain ⟨K1, F1⟩ := K.shf F hH' (by rw [bo_put_len]; exact K.2.2.1.2.2.1)
    have k := k1 h1 G' K1 F1
    (repeat (first | refine Ex.go rfl rfl ?_ | refine Ex.gf rfl rfl (by assumption) (by rfl) (by first | rfl | assumption) ?_))
    exact Ex.retz rfl rfl rfl (Or.inr rfl) k
/-- the tape alone changed -/
theorem KS.tape {ts' : List Int32} {c : Nat} (K : KS G b us ws lg E fx st sh es on ks ts rs) (l : ts'.length ≤ 40000) : KS (G.set 363 (cR 40000 c ts')) b us ws lg E fx st sh es on ks ts' rs ∧ FK G (G.set 363 (cR 40000 c ts')) := by
  have ne : ∀ j, ¬ j = 363 → (G.set 363 (cR 40000 c ts'))[j]? = G[j]? := fun j hj => List.getElem?_set_ne fun z => hj z.symm
  obtain ⟨⟨hb, g1, h8⟩, -, ⟨hI, hH, l1, ⟨c0, tt, h360⟩, hL, l2, ⟨c3, h363⟩, l3⟩, -⟩ := id K
  exact ⟨K.mid List.length_set (fun j hj => ne j (by omega)) ⟨by rw [ne 1 (by omega)]; exact g1, h8⟩ ⟨hI.of fun j _ _ => ne j (by omega), hH.of fun j _ _ => ne j (by omega), l1, ⟨c0, tt, by rw [ne _ (by omega)]; exact h360⟩, hL.of fun j _ _ => ne j (by omega), l2, ⟨c, get_set h363⟩, l⟩, fun j hj => ne j (by omega)⟩
theorem rcut_len {n : Int32} {xs : List Int32} : (rcut n xs).length ≤ xs.length := by
  unfold rcut
  split
  · rw [List.length_take]; omega
  · exact Nat.le_refl _
theorem k_end (K : KS G b us ws lg E fx st sh es on ks ts rs) (k : ∀ G', KS G' b us ws lg E fx st sh es on ks (rcut x ts) rs → FK G G' → Q (some (.int (bo_b (0 ≤ x ∧ x.toNatClampNeg ≤ ts.length)))) G') : Cx (d + 1) mX10_end [.ref 1, .int x] G Q := by
  have g1 := K.1.2.1
  obtain ⟨c3, h3⟩ := K.2.2.1.2.2.2.2.2.2.1
  have l3 := K.2.2.1.2.2.2.2.2.2.2
  refine Cx.body rfl rfl ?_
  (repeat (first | refine Ex.go rfl rfl ?_ | refine Ex.gf rfl rfl (by assumption) (by rfl) (by first | rfl | assumption) ?_))
  refine Ex.cv1 rfl rfl rfl h3 (by rfl) (by decide) rfl ?_
  refine s_cut h3 (by omega) ?_
  obtain ⟨K1, F1⟩ := K.tape (c := c3) (ts' := rcut x ts) (by have := rcut_len (n := x) (xs := ts); omega)
  have k := k _ K1 F1
  (repeat (first | refine Ex.go rfl rfl ?_ | refine Ex.gf rfl rfl (by assumption) (by rfl) (by first | rfl | assumption) ?_))
  exact Ex.retz rfl rfl rfl (bo_b_01 _) k
theorem k_again (K : KS G b us ws lg E fx st sh es on ks ts rs) (k : ∀ G', KS G' b us ws lg E fx st sh es on ks (img lg E) rs → FK G G' → Q (some (.int (nI (img lg E).length))) G') : Cx (d + 4) mX10_again [.ref 1] G Q := by
  have g1 := K.1.2.1
  have C := K.2.1.1
  have hb := K.1.1
  have r0 := C.1.1
  obtain ⟨ci, r1⟩ := C.1.2.1
  obtain ⟨c3, h3⟩ := K.2.2.1.2.2.2.2.2.2.1
  have hi := WF_img K.2.1.2.1
  refine Cx.body rfl rfl ?_
  (repeat (first | refine Ex.go rfl rfl ?_ | refine Ex.gf rfl rfl (by assumption) (by rfl) (by first | rfl | assumption) ?_))
  refine Ex.cv0 rfl rfl rfl r0 (by rfl) (by decide) rfl ?_
  refine c_imageRow C ?_
  (repeat (first | refine Ex.go rfl rfl ?_ | refine Ex.gf rfl rfl (by assumption) (by rfl) (by first | rfl | assumption) ?_))
  refine Ex.cv1 rfl rfl rfl h3 (by rfl) (by decide) rfl ?_
  refine s_takeAll h3 r1 (by omega) (by omega) (fun c' => ?_)
  rw [show (img lg E).take 40000 = img lg E from List.take_of_length_le hi]
  obtain ⟨K1, F1⟩ := K.tape (c := c') (ts' := img lg E) hi
  generalize G.set 363 (cR 40000 c' (img lg E)) = G2 at *
  have k := k _ K1 F1
  have g1 := K1.1.2.1
  obtain ⟨c4, h4⟩ := K1.2.2.1.2.2.2.2.2.2.1
  (repeat (first | refine Ex.go rfl rfl ?_ | refine Ex.gf rfl rfl (by assumption) (by rfl) (by first | rfl | assumption) ?_))
  refine Ex.cv0 rfl rfl rfl h4 (by rfl) (by decide) rfl ?_
  refine s_size h4 ?_
  (repeat (first | refine Ex.go rfl rfl ?_ | refine Ex.gf rfl rfl (by assumption) (by rfl) (by first | rfl | assumption) ?_))
  refine Ex.ret rfl rfl rfl ?_
  exact k
theorem k_feed (K : KS G b us ws lg E fx st sh es on ks ts rs) (k0 : ¬ ts.length + 5 ≤ 40000 → Q (some (.int (-1))) G) (k1 : ts.length + 5 ≤ 40000 → ∀ G', KS G' b us ws lg E fx st sh es on ks (ts ++ [a1, a2, a3, a4, a5]) rs → FK G G' → Q (some (.int (nI (ts.length + 5)))) G') : Cx (d + 3) mX10_feed [.ref 1, .int a1, .int a2, .int a3, .int a4, .int a5] G Q := by
  have g1 := K.1.2.1
  obtain ⟨c3, h3⟩ := K.2.2.1.2.2.2.2.2.2.1
  have l3 := K.2.2.1.2.2.2.2.2.2.2
  have e5 : nI ts.length + nI 5 = nI (ts.length + 5) := nI_add _ _
  have e4 : (nI (ts.length + 5)).toInt = ((ts.length + 5 : Nat) : Int) := nI_toInt (by omega)
  refine Cx.body rfl rfl ?_
  (repeat (first | refine Ex.go rfl rfl ?_ | refine Ex.gf rfl rfl (by assumption) (by rfl) (by first | rfl | assumption) ?_))
  refine Ex.cv0 rfl rfl rfl h3 (by rfl) (by decide) rfl ?_
  refine s_size h3 ?_
  (repeat (first | refine Ex.go rfl rfl ?_ | refine Ex.gf rfl rfl (by assumption) (by rfl) (by first | rfl | assumption) ?_))
  refine Ex.br (fun c1 => ?_) (fun c1 => ?_); rotate_left
  · have c2 : ¬ (nI ts.length + nI 5).toInt ≤ (40000 : Int32).toInt := fun z => c1 (Int32.le_iff_toInt_le.mpr z)
    rw [e5, e4, k40] at c2
    have k := k0 (by omega)
    (repeat (first | refine Ex.go rfl rfl ?_ | refine Ex.gf rfl rfl (by assumption) (by rfl) (by first | rfl | assumption) ?_))
    refine Ex.ret rfl rfl rfl ?_
    exact k
  have c2 : (nI ts.length + nI 5).toInt ≤ (40000 : Int32).toInt := Int32.le_iff_toInt_le.mp c1
  rw [e5, e4, k40] at c2
  have hle : ts.length + 5 ≤ 40000 := by omega
  have k := k1 hle
  have ad : ∀ (xs : List Int32) (v : Int32), xs.length < 40000 → bo_add 40000 xs v = xs ++ [v] := fun xs v h => if_pos h
  (repeat (first | refine Ex.go rfl rfl ?_ | refine Ex.gf rfl rfl (by assumption) (by rfl) (by first | rfl | assumption) ?_))
  refine Ex.cv1 rfl rfl rfl h3 (by rfl) (by decide) rfl ?_
  refine Cx.radd h3 ?_
  rw [ad _ _ (by omega)]
  obtain ⟨K1, F1⟩ := K.tape (c := bo_cap 40000 c3 ts.length) (ts' := ts ++ [a1]) (by rw [List.length_append]; simp; omega)
  generalize G.set 363 (cR 40000 (bo_cap 40000 c3 ts.length) (ts ++ [a1])) = G2 at *
  obtain ⟨c3, h3⟩ := K1.2.2.1.2.2.2.2.2.2.1
  (repeat (first | refine Ex.go rfl rfl ?_ | refine Ex.gf rfl rfl (by assumption) (by rfl) (by first | rfl | assumption) ?_))
  refine Ex.cv1 rfl rfl rfl h3 (by rfl) (by decide) rfl ?_
  refine Cx.radd h3 ?_
  rw [ad _ _ (by rw [List.length_append]; simp; omega)]
  obtain ⟨K2, F2⟩ := K1.tape (c := bo_cap 40000 c3 (ts ++ [a1]).length) (ts' := ts ++ [a1] ++ [a2]) (by rw [List.length_append, List.length_append]; simp; omega)
  generalize G2.set 363 (cR 40000 (bo_cap 40000 c3 (ts ++ [a1]).length) (ts ++ [a1] ++ [a2])) = G3 at *
  obtain ⟨c3, h3⟩ := K2.2.2.1.2.2.2.2.2.2.1
  (repeat (first | refine Ex.go rfl rfl ?_ | refine Ex.gf rfl rfl (by assumption) (by rfl) (by first | rfl | assumption) ?_))
  refine Ex.cv1 rfl rfl rfl h3 (by rfl) (by decide) rfl ?_
  refine Cx.radd h3 ?_
  rw [ad _ _ (by rw [List.length_append, List.length_append]; simp; omega)]
  obtain ⟨K3, F3⟩ := K2.tape (c := bo_cap 40000 c3 (ts ++ [a1] ++ [a2]).length) (ts' := ts ++ [a1] ++ [a2] ++ [a3]) (by rw [List.length_append, List.length_append, List.length_append]; simp; omega)
  generalize G3.set 363 (cR 40000 (bo_cap 40000 c3 (ts ++ [a1] ++ [a2]).length) (ts ++ [a1] ++ [a2] ++ [a3])) = G4 at *
  obtain ⟨c3, h3⟩ := K3.2.2.1.2.2.2.2.2.2.1
  (repeat (first | refine Ex.go rfl rfl ?_ | refine Ex.gf rfl rfl (by assumption) (by rfl) (by first | rfl | assumption) ?_))
  refine Ex.cv1 rfl rfl rfl h3 (by rfl) (by decide) rfl ?_
  refine Cx.radd h3 ?_
  rw [ad _ _ (by rw [List.length_append, List.length_append, List.length_append]; simp; omega)]
  obtain ⟨K4, F4⟩ := K3.tape (c := bo_cap 40000 c3 (ts ++ [a1] ++ [a2] ++ [a3]).length) (ts' := ts ++ [a1] ++ [a2] ++ [a3] ++ [a4]) (by rw [List.length_append, List.length_append, List.length_append, List.length_append]; simp; omega)
  generalize G4.set 363 (cR 40000 (bo_cap 40000 c3 (ts ++ [a1] ++ [a2] ++ [a3]).length) (ts ++ [a1] ++ [a2] ++ [a3] ++ [a4])) = G5 at *
  obtain ⟨c3, h3⟩ := K4.2.2.1.2.2.2.2.2.2.1
  (repeat (first | refine Ex.go rfl rfl ?_ | refine Ex.gf rfl rfl (by assumption) (by rfl) (by first | rfl | assumption) ?_))
  refine Ex.cv1 rfl rfl rfl h3 (by rfl) (by decide) rfl ?_
  refine Cx.radd h3 ?_
  rw [ad _ _ (by rw [List.length_append, List.length_append, List.length_append, List.length_append]; simp; omega)]
  have eall : ts ++ [a1] ++ [a2] ++ [a3] ++ [a4] ++ [a5] = ts ++ [a1, a2, a3, a4, a5] := by simp
  rw [eall]
  obtain ⟨K5, F5⟩ := K4.tape (c := bo_cap 40000 c3 (ts ++ [a1] ++ [a2] ++ [a3] ++ [a4]).length) (ts' := ts ++ [a1, a2, a3, a4, a5]) (by rw [List.length_append]; simp; omega)
  generalize G5.set 363 (cR 40000 (bo_cap 40000 c3 (ts ++ [a1] ++ [a2] ++ [a3] ++ [a4]).length) (ts ++ [a1, a2, a3, a4, a5])) = G6 at *
  have g1 := K5.1.2.1
  obtain ⟨c3, h3⟩ := K5.2.2.1.2.2.2.2.2.2.1
  have k := k G6 K5 ((((F1.trans F2).trans F3).trans F4).trans F5)
  have el : (ts ++ [a1, a2, a3, a4, a5]).length = ts.length + 5 := by simp
  rw [← el] at k
  (repeat (first | refine Ex.go rfl rfl ?_ | refine Ex.gf rfl rfl (by assumption) (by rfl) (by first | rfl | assumption) ?_))
  refine Ex.cv0 rfl rfl rfl h3 (by rfl) (by decide) rfl ?_
  refine s_size h3 ?_
  (repeat (first | refine Ex.go rfl rfl ?_ | refine Ex.gf rfl rfl (by assumption) (by rfl) (by first | rfl | assumption) ?_))
  refine Ex.ret rfl rfl rfl ?_
  exact k
end KC
