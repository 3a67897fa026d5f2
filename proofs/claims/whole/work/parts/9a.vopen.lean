/-! The class's view is opened. -/
def VI (G : bo_G) : Prop := ∃ (pc : Int32) (ro : Option Nat) (ve kn th sf mk st : Int32) (ss ds ps : List Int32) (bu ow so sd td md tm : Int32) (gs ys os : List Int32), G[12]? = some (vwC pc ro ve kn th sf mk st) ∧ G[13]? = some (cQ 2 24 vwQ) ∧ PA G 0 (fun _ => cI 0 fun _ => 0) ∧ VW G 14 ss ds ps ∧ (ss.length ≤ 6 ∧ ds.length ≤ 6 ∧ ps.length ≤ 6) ∧ PW G 18 bu ow so sd td md tm gs ys os
def VO (G : bo_G) (lg : Nat → Int32) (E v a : Nat) (x y st : Int32) : Prop := V2 G lg (knC lg y E) (knC lg y E) v a x y (num lg (vat lg E v) 1) (num lg (vat lg E v) 2) (dyy lg (vat lg E v)) (num lg (vat lg E v) 0) st ∧ stdP lg (knC lg y E) v x st
/-- the view of a vessel that isn't there -/
def VN0 (G : bo_G) (v a : Nat) (y : Int32) : Prop := (∃ sf mk, G[12]? = some (vwC 0 (some a) (nI v) y 0 sf mk 40000)) ∧ VI G
section VOs
variable {d a v n E : Nat} {G G1 : bo_G} {Q : Option Value → bo_G → Prop} {us : List Nat} {lg : Nat → Int32} {ke x y sf mk st bu ow : Int32}
theorem VI.of (h : VI G) (e : ∀ j, 12 ≤ j → j < 358 → G1[j]? = G[j]?) : VI G1 := by
  obtain ⟨pc, ro, ve, kn, th, sf, mk, st, ss, ds, ps, bu, ow, so, sd, td, md, tm, gs, ys, os, h0, h1, h2, h3, h4, h5⟩ := h
  exact ⟨pc, ro, ve, kn, th, sf, mk, st, ss, ds, ps, bu, ow, so, sd, td, md, tm, gs, ys, os, (e _ (by omega) (by omega)).trans h0, (e _ (by omega) (by omega)).trans h1, h2.of fun j _ _ => e j (by omega) (by omega), h3.of fun j _ _ => e j (by omega) (by omega), h4, h5.of fun j _ _ => e j (by omega) (by omega)⟩
theorem PA.any {f f' : Nat → bo_C} (h : PA G n f) : PA G 0 f' := fun p hp => by
  obtain ⟨c, S, hi, hP, -⟩ := h p hp
  exact ⟨c, S, hi, hP, fun z => absurd z (Nat.not_lt_zero p)⟩
theorem VX.vi {np : Nat} {f : Nat → bo_C} {ss ds ps gs ys os : List Int32} {so sd td md tm : Int32} (h : VX G np a v y sf mk st f ss ds ps bu ow so sd td md tm gs ys os) (l1 : ss.length ≤ 6) (l2 : ds.length ≤ 6) (l3 : ps.length ≤ 6) : VI G := by
  obtain ⟨h0, h1, h2, h3, h4⟩ := h
  exact ⟨_, _, _, _, _, _, _, _, _, _, _, _, _, _, _, _, _, _, _, _, _, h0, h1, h2.any, h3, ⟨l1, l2, l3⟩, h4⟩
theorem VO.vi (h : VO G lg E v a x y st) (hW : ∀ j, j < E → wfE lg j) (hE : E ≤ 6000) (hv : v < 2 ^ 31) : VI G := by
  have hl := wsl_le2 hW hE (knC_le (lg := lg) (y := y) (E := E)) hv
  exact h.1.1.vi (by rw [ssL_len]; exact hl) (by rw [dsL_len]; exact hl) (by rw [psL_len]; exact hl)
theorem v_readActs (ha : a = 2 ∨ a = 7) (C : CR G a us lg E ke) (hW : WF lg E) (hv31 : v < 2 ^ 31) (hbu : bu = dyy lg (vat lg E v)) (h : V1 G lg 0 v a x y sf mk bu ow) (k : ∀ G' st, V2 G' lg (knC lg y E) (knC lg y E) v a x y sf mk bu ow st → stdP lg (knC lg y E) v x st → FW G G' → Q none G') : Cx (d + 5) mX9_readActs [.ref 12, .ref a, .int bu, .int x] G Q := by
  have hE6 : E ≤ 6000 := by have := acl_osl (lg := lg) (E := E); have := hW.2.2.1; have := hW.2.2.2; omega
  have hn := knC_le (lg := lg) (y := y) (E := E)
  have hin : ∀ i, i < knC lg y E → ent lg i ≤ y := fun i hi => knC_in hW.1 hi
  have hn24 := psl_le2 hW.1 hE6 hn hv31
  have hr0 := C.1.1
  have g0 := h.choose_spec.1.1
  have l0 := v_acts1 (d := d) (n := knC lg y E) (sf := sf) (mk := mk) (bu := bu) (ow := ow) (Q := Q) ha C hW hn hin hv31 hbu (x := x) (fun G' hV F b => by
    obtain ⟨st, hX, hS⟩ := hV
    have l1 := v_rowsL (d := d + 3) (lim := 0) (G := G) (lg := lg) (n := knC lg y E) (v := v) (a := a) (x := x) (y := y) (sf := sf) (mk := mk) (st := st) (bu := bu) (Q := Q) (act := nI (acl lg (knC lg y E)).length) (z2 := .ref a) (z3 := .int bu) (z4 := .int x) (z5 := .ref (a + 1)) hn24 (fun G2 hX2 hP2 F2 b2 => by
      have l2 := v_acts2 (d := d + 2) (n := knC lg y E) (sf := sf) (mk := mk) (st := st) (bu := bu) (ow := ow) (x := x) (Q := Q) ha C hW hn hin hv31 (fun G3 h3 F3 => k G3 st h3 hS F3) (knC lg y E) 0 0 G2 (by omega) rfl ⟨hX2, hP2⟩ F2
      (repeat (first | exact l2 | refine Ex.go rfl rfl ?_ | refine Ex.gf rfl rfl (by assumption) (by rfl) (by first | rfl | assumption) ?_))
      ) (psl lg (knC lg y E) v).length 0 0 G' (by omega) rfl hX (fun p hp => absurd hp (Nat.not_lt_zero p)) F
    (repeat (first | exact l1 | refine Ex.go rfl rfl ?_ | refine Ex.gf rfl rfl (by assumption) (by rfl) (by first | rfl | assumption) ?_))
    ) (knC lg y E) 0 0 G (by omega) rfl h (FW.rfl' G)
  refine Cx.body rfl rfl ?_
  (repeat (first | refine Ex.go rfl rfl ?_ | refine Ex.gf rfl rfl (by assumption) (by rfl) (by first | rfl | assumption) ?_))
  refine Ex.cv0 rfl rfl rfl hr0 (by rfl) (by decide) rfl ?_
  refine c_imageRow C ?_
  (repeat (first | refine Ex.go rfl rfl ?_ | refine Ex.gf rfl rfl (by assumption) (by rfl) (by first | rfl | assumption) ?_))
  refine Ex.cv1 rfl rfl rfl hr0 (by rfl) (by decide) rfl ?_
  refine c_actsKnown C hE6 (fun m h1 h2 h3 => ?_)
  have em := acl_kn hW.1 h1 h2 h3
  subst em
  (repeat (first | exact l0 | refine Ex.go rfl rfl ?_ | refine Ex.gf rfl rfl (by assumption) (by rfl) (by first | rfl | assumption) ?_))
theorem v_open (ha : a = 2 ∨ a = 7) (C : CR G a us lg E ke) (hW : WF lg E) (hv : v < (vsl lg E).length) (hI : VI G) (k0 : ¬ (ent lg (vat lg E v) ≤ y ∧ dyy lg (vat lg E v) ≤ x) → ∀ G', VN0 G' v a y → FW G G' → Q (some (.int 0)) G') (k1 : ent lg (vat lg E v) ≤ y ∧ dyy lg (vat lg E v) ≤ x → ∀ G' st, VO G' lg E v a x y st → FW G G' → Q (some (.int 1)) G') : Cx (d + 6) mX9_open [.ref 12, .ref a, .int (nI v), .int x, .int y] G Q := by
  have hE6 : E ≤ 6000 := by have := acl_osl (lg := lg) (E := E); have := hW.2.2.1; have := hW.2.2.2; omega
  have hvl : (vsl lg E).length ≤ E := sel_len E fun i => cod lg i == 1
  have hv31 : v < 2 ^ 31 := by omega
  obtain ⟨pc, ro, ve, kn, th, sf, mk, st, ss, ds, ps, bu, ow, so, sd, td, md, tm, gs, ys, os, h0, h1, h2, h3, ⟨b1, b2, b3⟩, h4⟩ := hI
  have hA := ap1 h0
  -- from the call of vesselAt on
  have rest : ∀ G2 : bo_G, G2[12]? = some (vwC 0 (some a) (nI v) y th sf mk 40000) → G2[13]? = some (cQ 2 24 vwQ) → PA G2 0 (fun _ => cI 0 fun _ => 0) → VW G2 14 [] [] [] → PW G2 18 bu ow so sd td md tm gs ys os → FW G G2 → Ex (d + 6) mX9_open (34, lv_args 0 [.ref 12, .ref a, .int (nI v), .int x, .int y], [], G2) Q := by
    intro G2 q0 q1 q2 q3 q4 F2
    have C2 := C.fw ha F2
    have r0 := C2.1.1
    (repeat (first | refine Ex.go rfl rfl ?_ | refine Ex.gf rfl rfl (by assumption) (by rfl) (by first | rfl | assumption) ?_))
    refine Ex.cv1 rfl rfl rfl r0 (by rfl) (by decide) rfl ?_
    refine c_vesselAt C2 hW.2.1 (fun hno => absurd ⟨by rw [nI_toInt hv31]; omega, by rw [nI_toInt hv31]; omega⟩ hno) (fun v' u ev _ hv' hu => ?_)
    have e := (nI_eq hv31 (by omega)).mp ev
    subst e
    obtain ⟨xx, K, V, L, nv⟩ := C2.2.2.2.2.2 v u hu
    obtain ⟨rfl, -⟩ := nv hv
    have u0 := V.1
    have hdy : dyy lg (vat lg E v) = num lg (vat lg E v) 3 := (wf_v hW.1 hv).2.2.2.2.2
    have u378 : 378 ≤ u := by obtain ⟨m, hm⟩ := C2.2.2.2.2.1 u (List.mem_of_getElem? hu); omega
    have no : ¬ (ent lg (vat lg E v) ≤ y ∧ dyy lg (vat lg E v) ≤ x) → Ex (d + 6) mX9_open (70, [(0, .ref 12), (1, .ref a), (2, .int (nI v)), (3, .int x), (4, .int y), (5, .ref u)], [.ref 12], G2) Q := by
      intro hno
      have k := k0 hno (G2.set 12 (vwC 0 (some a) (nI v) y 0 sf mk 40000)) ⟨⟨sf, mk, get_set q0⟩, ⟨_, _, _, _, _, _, _, _, _, _, _, _, _, _, _, _, _, _, _, _, _, get_set q0, by rw [List.getElem?_set_ne (by omega)]; exact q1, q2.of fun j _ _ => List.getElem?_set_ne (by omega), q3.of fun j _ _ => List.getElem?_set_ne (by omega), ⟨Nat.zero_le _, Nat.zero_le _, Nat.zero_le _⟩, q4.of fun j _ _ => List.getElem?_set_ne (by omega)⟩⟩ (F2.trans FW.set12)
      have hA := ap1 q0
      refine Ex.lay [(12, vwC 0 (some a) (nI v) y th sf mk 40000)] (lay1 q0) ?_
      (repeat (first | refine Ex.go rfl rfl ?_ | refine Ex.gf rfl rfl (ov_get hA 0 rfl) (by rfl) (by rfl) ?_ | refine Ex.gf rfl rfl (ov_get hA 1 rfl) (by rfl) (by rfl) ?_ | refine Ex.gf rfl rfl (ov_get hA 2 rfl) (by rfl) (by rfl) ?_ | refine Ex.gf rfl rfl (ov_get hA 3 rfl) (by rfl) (by rfl) ?_ | refine Ex.gf rfl rfl (ov_get hA 4 rfl) (by rfl) (by rfl) ?_ | refine Ex.gf rfl rfl (ov_get hA 5 rfl) (by rfl) (by rfl) ?_ | refine Ex.gf rfl rfl (ov_get hA 6 rfl) (by rfl) (by rfl) ?_ | (refine Ex.pfo hA 0 rfl rfl rfl (by rfl) (by rfl) (by rfl) ?_; dsimp only [List.set]) | (refine Ex.pfo hA 1 rfl rfl rfl (by rfl) (by rfl) (by rfl) ?_; dsimp only [List.set]) | (refine Ex.pfo hA 2 rfl rfl rfl (by rfl) (by rfl) (by rfl) ?_; dsimp only [List.set]) | (refine Ex.pfo hA 3 rfl rfl rfl (by rfl) (by rfl) (by rfl) ?_; dsimp only [List.set]) | (refine Ex.pfo hA 4 rfl rfl rfl (by rfl) (by rfl) (by rfl) ?_; dsimp only [List.set]) | (refine Ex.pfo hA 5 rfl rfl rfl (by rfl) (by rfl) (by rfl) ?_; dsimp only [List.set]) | (refine Ex.pfo hA 6 rfl rfl rfl (by rfl) (by rfl) (by rfl) ?_; dsimp only [List.set])))
      try (first | refine Ex.le0 ?_ | refine Ex.ln0 ?_)
      (repeat (first | refine Ex.go rfl rfl ?_ | refine Ex.gf rfl rfl (ov_get hA 0 rfl) (by rfl) (by rfl) ?_ | refine Ex.gf rfl rfl (ov_get hA 1 rfl) (by rfl) (by rfl) ?_ | refine Ex.gf rfl rfl (ov_get hA 2 rfl) (by rfl) (by rfl) ?_ | refine Ex.gf rfl rfl (ov_get hA 3 rfl) (by rfl) (by rfl) ?_ | refine Ex.gf rfl rfl (ov_get hA 4 rfl) (by rfl) (by rfl) ?_ | refine Ex.gf rfl rfl (ov_get hA 5 rfl) (by rfl) (by rfl) ?_ | refine Ex.gf rfl rfl (ov_get hA 6 rfl) (by rfl) (by rfl) ?_ | (refine Ex.pfo hA 0 rfl rfl rfl (by rfl) (by rfl) (by rfl) ?_; dsimp only [List.set]) | (refine Ex.pfo hA 1 rfl rfl rfl (by rfl) (by rfl) (by rfl) ?_; dsimp only [List.set]) | (refine Ex.pfo hA 2 rfl rfl rfl (by rfl) (by rfl) (by rfl) ?_; dsimp only [List.set]) | (refine Ex.pfo hA 3 rfl rfl rfl (by rfl) (by rfl) (by rfl) ?_; dsimp only [List.set]) | (refine Ex.pfo hA 4 rfl rfl rfl (by rfl) (by rfl) (by rfl) ?_; dsimp only [List.set]) | (refine Ex.pfo hA 5 rfl rfl rfl (by rfl) (by rfl) (by rfl) ?_; dsimp only [List.set]) | (refine Ex.pfo hA 6 rfl rfl rfl (by rfl) (by rfl) (by rfl) ?_; dsimp only [List.set])))
      exact Ex.retz rfl rfl rfl (Or.inl rfl) k
    (repeat (first | refine Ex.go rfl rfl ?_ | refine Ex.gf rfl rfl (by assumption) (by rfl) (by first | rfl | assumption) ?_))
    refine Ex.br (fun c1 => ?_) (fun c1 => ?_)
    · (repeat (first | exact no (fun z => absurd z.1 (Int32.not_le.mpr c1)) | refine Ex.go rfl rfl ?_ | refine Ex.gf rfl rfl (by assumption) (by rfl) (by first | rfl | assumption) ?_))
    have c1' : ent lg (vat lg E v) ≤ y := Int32.not_lt.mp c1
    (repeat (first | refine Ex.go rfl rfl ?_ | refine Ex.gf rfl rfl (by assumption) (by rfl) (by first | rfl | assumption) ?_))
    refine Ex.br (fun c2 => ?_) (fun c2 => ?_)
    · (repeat (first | exact no (fun z => absurd (by rw [← hdy]; exact z.2) (Int32.not_le.mpr c2)) | refine Ex.go rfl rfl ?_ | refine Ex.gf rfl rfl (by assumption) (by rfl) (by first | rfl | assumption) ?_))
    have c2' : dyy lg (vat lg E v) ≤ x := by rw [hdy]; exact Int32.not_lt.mp c2
    have k := k1 ⟨c1', c2'⟩
    refine Ex.lay [(12, vwC 0 (some a) (nI v) y th sf mk 40000)] (lay1 q0) ?_
    have hA := ap1 q0
    have uu : ∀ c, (ov G2 [(12, c)])[u]? = some (vC u (num lg (vat lg E v) 0, num lg (vat lg E v) 1, num lg (vat lg E v) 2, num lg (vat lg E v) 3, ent lg (vat lg E v), nI (qsl lg E v).length)) := fun c => by rw [ov_ne (by simp; omega)]; exact u0
    (repeat (first | refine Ex.go rfl rfl ?_ | refine Ex.gf rfl rfl (ov_get hA 0 rfl) (by rfl) (by rfl) ?_ | refine Ex.gf rfl rfl (ov_get hA 1 rfl) (by rfl) (by rfl) ?_ | refine Ex.gf rfl rfl (ov_get hA 2 rfl) (by rfl) (by rfl) ?_ | refine Ex.gf rfl rfl (ov_get hA 3 rfl) (by rfl) (by rfl) ?_ | refine Ex.gf rfl rfl (ov_get hA 4 rfl) (by rfl) (by rfl) ?_ | refine Ex.gf rfl rfl (ov_get hA 5 rfl) (by rfl) (by rfl) ?_ | refine Ex.gf rfl rfl (ov_get hA 6 rfl) (by rfl) (by rfl) ?_ | (refine Ex.pfo hA 0 rfl rfl rfl (by rfl) (by rfl) (by rfl) ?_; dsimp only [List.set]) | (refine Ex.pfo hA 1 rfl rfl rfl (by rfl) (by rfl) (by rfl) ?_; dsimp only [List.set]) | (refine Ex.pfo hA 2 rfl rfl rfl (by rfl) (by rfl) (by rfl) ?_; dsimp only [List.set]) | (refine Ex.pfo hA 3 rfl rfl rfl (by rfl) (by rfl) (by rfl) ?_; dsimp only [List.set]) | (refine Ex.pfo hA 4 rfl rfl rfl (by rfl) (by rfl) (by rfl) ?_; dsimp only [List.set]) | (refine Ex.pfo hA 5 rfl rfl rfl (by rfl) (by rfl) (by rfl) ?_; dsimp only [List.set]) | (refine Ex.pfo hA 6 rfl rfl rfl (by rfl) (by rfl) (by rfl) ?_; dsimp only [List.set])))
    try (first | refine Ex.le0 ?_ | refine Ex.ln0 ?_)
    (repeat (first | refine Ex.go rfl rfl ?_ | refine Ex.gf rfl rfl (ov_get hA 0 rfl) (by rfl) (by rfl) ?_ | refine Ex.gf rfl rfl (ov_get hA 1 rfl) (by rfl) (by rfl) ?_ | refine Ex.gf rfl rfl (ov_get hA 2 rfl) (by rfl) (by rfl) ?_ | refine Ex.gf rfl rfl (ov_get hA 3 rfl) (by rfl) (by rfl) ?_ | refine Ex.gf rfl rfl (ov_get hA 4 rfl) (by rfl) (by rfl) ?_ | refine Ex.gf rfl rfl (ov_get hA 5 rfl) (by rfl) (by rfl) ?_ | refine Ex.gf rfl rfl (ov_get hA 6 rfl) (by rfl) (by rfl) ?_ | (refine Ex.pfo hA 0 rfl rfl rfl (by rfl) (by rfl) (by rfl) ?_; dsimp only [List.set]) | (refine Ex.pfo hA 1 rfl rfl rfl (by rfl) (by rfl) (by rfl) ?_; dsimp only [List.set]) | (refine Ex.pfo hA 2 rfl rfl rfl (by rfl) (by rfl) (by rfl) ?_; dsimp only [List.set]) | (refine Ex.pfo hA 3 rfl rfl rfl (by rfl) (by rfl) (by rfl) ?_; dsimp only [List.set]) | (refine Ex.pfo hA 4 rfl rfl rfl (by rfl) (by rfl) (by rfl) ?_; dsimp only [List.set]) | (refine Ex.pfo hA 5 rfl rfl rfl (by rfl) (by rfl) (by rfl) ?_; dsimp only [List.set]) | (refine Ex.pfo hA 6 rfl rfl rfl (by rfl) (by rfl) (by rfl) ?_; dsimp only [List.set])))
    refine Ex.gf rfl rfl (uu _) (by rfl) (by rfl) ?_
    (repeat (first | refine Ex.go rfl rfl ?_ | refine Ex.gf rfl rfl (ov_get hA 0 rfl) (by rfl) (by rfl) ?_ | refine Ex.gf rfl rfl (ov_get hA 1 rfl) (by rfl) (by rfl) ?_ | refine Ex.gf rfl rfl (ov_get hA 2 rfl) (by rfl) (by rfl) ?_ | refine Ex.gf rfl rfl (ov_get hA 3 rfl) (by rfl) (by rfl) ?_ | refine Ex.gf rfl rfl (ov_get hA 4 rfl) (by rfl) (by rfl) ?_ | refine Ex.gf rfl rfl (ov_get hA 5 rfl) (by rfl) (by rfl) ?_ | refine Ex.gf rfl rfl (ov_get hA 6 rfl) (by rfl) (by rfl) ?_ | (refine Ex.pfo hA 0 rfl rfl rfl (by rfl) (by rfl) (by rfl) ?_; dsimp only [List.set]) | (refine Ex.pfo hA 1 rfl rfl rfl (by rfl) (by rfl) (by rfl) ?_; dsimp only [List.set]) | (refine Ex.pfo hA 2 rfl rfl rfl (by rfl) (by rfl) (by rfl) ?_; dsimp only [List.set]) | (refine Ex.pfo hA 3 rfl rfl rfl (by rfl) (by rfl) (by rfl) ?_; dsimp only [List.set]) | (refine Ex.pfo hA 4 rfl rfl rfl (by rfl) (by rfl) (by rfl) ?_; dsimp only [List.set]) | (refine Ex.pfo hA 5 rfl rfl rfl (by rfl) (by rfl) (by rfl) ?_; dsimp only [List.set]) | (refine Ex.pfo hA 6 rfl rfl rfl (by rfl) (by rfl) (by rfl) ?_; dsimp only [List.set])))
    refine Ex.gf rfl rfl (uu _) (by rfl) (by rfl) ?_
    (repeat (first | refine Ex.go rfl rfl ?_ | refine Ex.gf rfl rfl (ov_get hA 0 rfl) (by rfl) (by rfl) ?_ | refine Ex.gf rfl rfl (ov_get hA 1 rfl) (by rfl) (by rfl) ?_ | refine Ex.gf rfl rfl (ov_get hA 2 rfl) (by rfl) (by rfl) ?_ | refine Ex.gf rfl rfl (ov_get hA 3 rfl) (by rfl) (by rfl) ?_ | refine Ex.gf rfl rfl (ov_get hA 4 rfl) (by rfl) (by rfl) ?_ | refine Ex.gf rfl rfl (ov_get hA 5 rfl) (by rfl) (by rfl) ?_ | refine Ex.gf rfl rfl (ov_get hA 6 rfl) (by rfl) (by rfl) ?_ | (refine Ex.pfo hA 0 rfl rfl rfl (by rfl) (by rfl) (by rfl) ?_; dsimp only [List.set]) | (refine Ex.pfo hA 1 rfl rfl rfl (by rfl) (by rfl) (by rfl) ?_; dsimp only [List.set]) | (refine Ex.pfo hA 2 rfl rfl rfl (by rfl) (by rfl) (by rfl) ?_; dsimp only [List.set]) | (refine Ex.pfo hA 3 rfl rfl rfl (by rfl) (by rfl) (by rfl) ?_; dsimp only [List.set]) | (refine Ex.pfo hA 4 rfl rfl rfl (by rfl) (by rfl) (by rfl) ?_; dsimp only [List.set]) | (refine Ex.pfo hA 5 rfl rfl rfl (by rfl) (by rfl) (by rfl) ?_; dsimp only [List.set]) | (refine Ex.pfo hA 6 rfl rfl rfl (by rfl) (by rfl) (by rfl) ?_; dsimp only [List.set])))
    refine Ex.gf rfl rfl (uu _) (by rfl) (by rfl) ?_
    (repeat (first | refine Ex.go rfl rfl ?_ | refine Ex.gf rfl rfl (ov_get hA 0 rfl) (by rfl) (by rfl) ?_ | refine Ex.gf rfl rfl (ov_get hA 1 rfl) (by rfl) (by rfl) ?_ | refine Ex.gf rfl rfl (ov_get hA 2 rfl) (by rfl) (by rfl) ?_ | refine Ex.gf rfl rfl (ov_get hA 3 rfl) (by rfl) (by rfl) ?_ | refine Ex.gf rfl rfl (ov_get hA 4 rfl) (by rfl) (by rfl) ?_ | refine Ex.gf rfl rfl (ov_get hA 5 rfl) (by rfl) (by rfl) ?_ | refine Ex.gf rfl rfl (ov_get hA 6 rfl) (by rfl) (by rfl) ?_ | (refine Ex.pfo hA 0 rfl rfl rfl (by rfl) (by rfl) (by rfl) ?_; dsimp only [List.set]) | (refine Ex.pfo hA 1 rfl rfl rfl (by rfl) (by rfl) (by rfl) ?_; dsimp only [List.set]) | (refine Ex.pfo hA 2 rfl rfl rfl (by rfl) (by rfl) (by rfl) ?_; dsimp only [List.set]) | (refine Ex.pfo hA 3 rfl rfl rfl (by rfl) (by rfl) (by rfl) ?_; dsimp only [List.set]) | (refine Ex.pfo hA 4 rfl rfl rfl (by rfl) (by rfl) (by rfl) ?_; dsimp only [List.set]) | (refine Ex.pfo hA 5 rfl rfl rfl (by rfl) (by rfl) (by rfl) ?_; dsimp only [List.set]) | (refine Ex.pfo hA 6 rfl rfl rfl (by rfl) (by rfl) (by rfl) ?_; dsimp only [List.set])))
    refine Ex.gf rfl rfl (uu _) (by rfl) (by rfl) ?_
    show Ex (d + 6) mX9_open (120, _, _, G2.set 12 (vwC 0 (some a) (nI v) y 1 (num lg (vat lg E v) 1) (num lg (vat lg E v) 2) 40000)) Q
    have s0 : (G2.set 12 (vwC 0 (some a) (nI v) y 1 (num lg (vat lg E v) 1) (num lg (vat lg E v) 2) 40000))[12]? = some (vwC 0 (some a) (nI v) y 1 (num lg (vat lg E v) 1) (num lg (vat lg E v) 2) 40000) := get_set q0
    have s1 : (G2.set 12 (vwC 0 (some a) (nI v) y 1 (num lg (vat lg E v) 1) (num lg (vat lg E v) 2) 40000))[13]? = some (cQ 2 24 vwQ) := by rw [List.getElem?_set_ne (by omega)]; exact q1
    have s2 : PA (G2.set 12 (vwC 0 (some a) (nI v) y 1 (num lg (vat lg E v) 1) (num lg (vat lg E v) 2) 40000)) 0 (fun p => pvI lg 0 v p x y) := q2.any.of fun j _ _ => List.getElem?_set_ne (by omega)
    have s3 : VW (G2.set 12 (vwC 0 (some a) (nI v) y 1 (num lg (vat lg E v) 1) (num lg (vat lg E v) 2) 40000)) 14 [] [] [] := q3.of fun j _ _ => List.getElem?_set_ne (by omega)
    have s4 : PW (G2.set 12 (vwC 0 (some a) (nI v) y 1 (num lg (vat lg E v) 1) (num lg (vat lg E v) 2) 40000)) 18 bu ow so sd td md tm gs ys os := q4.of fun j _ _ => List.getElem?_set_ne (by omega)
    have F3 : FW G (G2.set 12 (vwC 0 (some a) (nI v) y 1 (num lg (vat lg E v) 1) (num lg (vat lg E v) 2) 40000)) := F2.trans FW.set12
    have u3 : (G2.set 12 (vwC 0 (some a) (nI v) y 1 (num lg (vat lg E v) 1) (num lg (vat lg E v) 2) 40000))[u]? = some (vC u (num lg (vat lg E v) 0, num lg (vat lg E v) 1, num lg (vat lg E v) 2, num lg (vat lg E v) 3, ent lg (vat lg E v), nI (qsl lg E v).length)) := by rw [List.getElem?_set_ne (by omega)]; exact u0
    generalize G2.set 12 (vwC 0 (some a) (nI v) y 1 (num lg (vat lg E v) 1) (num lg (vat lg E v) 2) 40000) = G3 at *
    clear uu hA
    have t0 := s4.1
    refine Ex.cv2 rfl rfl rfl t0 (by rfl) (by decide) rfl ?_
    refine pw_begin s4 (fun G4 hP4 F4 => ?_)
    have s04 : G4[12]? = some (vwC (nI 0) (some a) (nI v) y 1 (num lg (vat lg E v) 1) (num lg (vat lg E v) 2) 40000) := by rw [F4.2 12 (by omega)]; exact s0
    have s14 : G4[13]? = some (cQ 2 24 vwQ) := by rw [F4.2 13 (by omega)]; exact s1
    have u4 : G4[u]? = some (vC u (num lg (vat lg E v) 0, num lg (vat lg E v) 1, num lg (vat lg E v) 2, num lg (vat lg E v) 3, ent lg (vat lg E v), nI (qsl lg E v).length)) := by rw [F4.2 u (by omega)]; exact u3
    have hV1 : V1 G4 lg 0 v a x y (num lg (vat lg E v) 1) (num lg (vat lg E v) 2) (num lg (vat lg E v) 3) (num lg (vat lg E v) 0) := ⟨40000, ⟨s04, s14, s2.of fun j _ _ => F4.2 j (by omega), s3.of fun j _ _ => F4.2 j (by omega), hP4⟩, fun i hi => absurd hi (Nat.not_lt_zero i)⟩
    have F5 := F3.trans F4.fw2
    (repeat (first | refine Ex.go rfl rfl ?_ | refine Ex.gf rfl rfl (by assumption) (by rfl) (by first | rfl | assumption) ?_))
    refine Ex.cv3 rfl rfl rfl s04 (by rfl) (by decide) rfl ?_
    refine v_readActs ha (C.fw ha F5) hW hv31 hdy.symm hV1 (fun G5 st hV2 hS F6 => ?_)
    rw [← hdy] at hV2
    have k := k G5 st ⟨hV2, hS⟩ (F5.trans F6)
    (repeat (first | refine Ex.go rfl rfl ?_ | refine Ex.gf rfl rfl (by assumption) (by rfl) (by first | rfl | assumption) ?_))
    exact Ex.retz rfl rfl rfl (Or.inr rfl) k
  refine Cx.body rfl rfl ?_
  refine Ex.lay [(12, vwC pc ro ve kn th sf mk st)] (lay1 h0) ?_
  (repeat (first | refine Ex.go rfl rfl ?_ | refine Ex.gf rfl rfl (ov_get hA 0 rfl) (by rfl) (by rfl) ?_ | refine Ex.gf rfl rfl (ov_get hA 1 rfl) (by rfl) (by rfl) ?_ | refine Ex.gf rfl rfl (ov_get hA 2 rfl) (by rfl) (by rfl) ?_ | refine Ex.gf rfl rfl (ov_get hA 3 rfl) (by rfl) (by rfl) ?_ | refine Ex.gf rfl rfl (ov_get hA 4 rfl) (by rfl) (by rfl) ?_ | refine Ex.gf rfl rfl (ov_get hA 5 rfl) (by rfl) (by rfl) ?_ | refine Ex.gf rfl rfl (ov_get hA 6 rfl) (by rfl) (by rfl) ?_ | (refine Ex.pfo hA 0 rfl rfl rfl (by rfl) (by rfl) (by rfl) ?_; dsimp only [List.set]) | (refine Ex.pfo hA 1 rfl rfl rfl (by rfl) (by rfl) (by rfl) ?_; dsimp only [List.set]) | (refine Ex.pfo hA 2 rfl rfl rfl (by rfl) (by rfl) (by rfl) ?_; dsimp only [List.set]) | (refine Ex.pfo hA 3 rfl rfl rfl (by rfl) (by rfl) (by rfl) ?_; dsimp only [List.set]) | (refine Ex.pfo hA 4 rfl rfl rfl (by rfl) (by rfl) (by rfl) ?_; dsimp only [List.set]) | (refine Ex.pfo hA 5 rfl rfl rfl (by rfl) (by rfl) (by rfl) ?_; dsimp only [List.set]) | (refine Ex.pfo hA 6 rfl rfl rfl (by rfl) (by rfl) (by rfl) ?_; dsimp only [List.set])))
  show Ex (d + 6) mX9_open (31, _, _, G.set 12 (vwC 0 (some a) (nI v) y th sf mk 40000)) Q
  have s0 : (G.set 12 (vwC 0 (some a) (nI v) y th sf mk 40000))[12]? = some (vwC 0 (some a) (nI v) y th sf mk 40000) := get_set h0
  have s1 : (G.set 12 (vwC 0 (some a) (nI v) y th sf mk 40000))[13]? = some (cQ 2 24 vwQ) := by rw [List.getElem?_set_ne (by omega)]; exact h1
  have s2 : PA (G.set 12 (vwC 0 (some a) (nI v) y th sf mk 40000)) 0 (fun _ => cI 0 fun _ => 0) := h2.of fun j _ _ => List.getElem?_set_ne (by omega)
  have s3 : VW (G.set 12 (vwC 0 (some a) (nI v) y th sf mk 40000)) 14 ss ds ps := h3.of fun j _ _ => List.getElem?_set_ne (by omega)
  have s4 : PW (G.set 12 (vwC 0 (some a) (nI v) y th sf mk 40000)) 18 bu ow so sd td md tm gs ys os := h4.of fun j _ _ => List.getElem?_set_ne (by omega)
  have F1 : FW G (G.set 12 (vwC 0 (some a) (nI v) y th sf mk 40000)) := FW.set12
  generalize G.set 12 (vwC 0 (some a) (nI v) y th sf mk 40000) = G2 at *
  have t0 := s3.1
  refine Ex.cv0 rfl rfl rfl t0 (by rfl) (by decide) rfl ?_
  refine vw_clear s3 b1 b2 b3 (fun G3 hV3 F3 => ?_)
  (repeat (first | exact rest G3 (by rw [F3.2 12 (by omega)]; exact s0) (by rw [F3.2 13 (by omega)]; exact s1) (s2.of fun j _ _ => F3.2 j (by omega)) hV3 (s4.of fun j _ _ => F3.2 j (by omega)) (F1.trans F3.fw1) | refine Ex.go rfl rfl ?_ | refine Ex.gf rfl rfl (by assumption) (by rfl) (by first | rfl | assumption) ?_))
end VOs
