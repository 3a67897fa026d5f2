/-! The class: noted. -/
def NT (G : bo_G) (us : List Nat) (lg : Nat → Int32) (i : Nat) : Prop := us.length ≤ 30 ∧ (vsl lg i).length ≤ us.length ∧ us.Nodup ∧ (∀ u ∈ us, ∃ m, u = 378 + 6 * m) ∧ ∀ (j u : Nat), us[j]? = some u → ∃ x K, VC G u x K ∧ VL K ∧ (j < (vsl lg i).length → VN lg i j x K)
/-- what noting leaves as it is -/
def FC (a : Nat) (us : List Nat) (G : bo_G) (us' : List Nat) (G' : bo_G) : Prop := ((us' = us ∧ G'.length = G.length) ∨ (us' = us ++ [G.length] ∧ G'.length = G.length + 6)) ∧ ∀ j, j < G.length → ¬ (a ≤ j ∧ j ≤ a + 4) → (∀ u ∈ us, ¬ (u ≤ j ∧ j < u + 6)) → G'[j]? = G[j]?
theorem FC.of_FO {a : Nat} {us us' : List Nat} {G G1 G2 : bo_G} (h : FO a G G1) (h2 : FC a us G1 us' G2) : FC a us G us' G2 := by
  refine ⟨?_, fun j hj hja hju => ?_⟩
  · rw [← h.1]; exact h2.1
  · rw [h2.2 j (by rw [h.1]; exact hj) hja hju]; exact h.2 j hja
theorem FC.rfl' (a : Nat) (us : List Nat) (G : bo_G) : FC a us G us G := ⟨Or.inl ⟨rfl, rfl⟩, fun _ _ _ _ => rfl⟩
theorem FC.len {a : Nat} {us us' : List Nat} {G G' : bo_G} (h : FC a us G us' G') : G.length ≤ G'.length := by
  rcases h.1 with ⟨-, e⟩ | ⟨-, e⟩ <;> omega
theorem FC.trans {a : Nat} {us us1 us2 : List Nat} {G G1 G2 : bo_G} (h : FC a us G us1 G1) (h2 : FC a us1 G1 us2 G2) (hx : us1 = us ∨ us2 = us1) : FC a us G us2 G2 := by
  refine ⟨?_, fun j hj hja hju => ?_⟩
  · rcases hx with hx | hx
    · subst hx
      rcases h.1 with ⟨-, e⟩ | ⟨e, -⟩
      · rw [← e]; exact h2.1
      · exact absurd (congrArg List.length e) (by simp)
    · subst hx
      rcases h2.1 with ⟨-, e⟩ | ⟨e, -⟩
      · rw [e]; exact h.1
      · exact absurd (congrArg List.length e) (by simp)
  · have hl := h.len
    rw [h2.2 j (by omega) hja ?_]
    · exact h.2 j hj hja hju
    · intro u hu
      rcases h.1 with ⟨e, -⟩ | ⟨e, -⟩
      · rw [e] at hu; exact hju u hu
      · rw [e, List.mem_append] at hu
        rcases hu with hu | hu
        · exact hju u hu
        · rw [List.mem_singleton] at hu; omega
theorem nd_inj {l : List Nat} (h : l.Nodup) {i j x : Nat} (hi : l[i]? = some x) (hj : l[j]? = some x) : i = j := by
  obtain ⟨a1, b1⟩ := List.getElem?_eq_some_iff.mp hi
  obtain ⟨a2, b2⟩ := List.getElem?_eq_some_iff.mp hj
  have p := List.pairwise_iff_getElem.mp h
  rcases Nat.lt_trichotomy i j with q | q | q
  · exact absurd (b1.trans b2.symm) (p i j a1 a2 q)
  · exact q
  · exact absurd (b2.trans b1.symm) (p j i a2 a1 q)
section NT
variable {d a : Nat} {G G' : bo_G} {Q : Option Value → bo_G → Prop} {us us' : List Nat} {lg lg' : Nat → Int32} {i E m : Nat} {y : rlT} {im pl en : List Int32}
theorem NT.of (h : NT G us lg i) (e : ∀ u ∈ us, ∀ j, u ≤ j → j < u + 6 → G'[j]? = G[j]?) : NT G' us lg i := by
  obtain ⟨h1, h2, h3, h4, h5⟩ := h
  refine ⟨h1, h2, h3, h4, fun j u hu => ?_⟩
  obtain ⟨x, K, v, l, n⟩ := h5 j u hu
  exact ⟨x, K, v.of (e u (List.mem_of_getElem? hu)), l, n⟩
theorem NT.FO (h : NT G us lg i) (ha : a + 4 < 378) (F : FO a G G') : NT G' us lg i := h.of fun u hu j h1 _ => by
  obtain ⟨m, e⟩ := h.2.2.2.1 u hu
  exact F.2 j (by omega)
theorem NT_lgE (h : NT G us lg i) (hE : lgE lg lg' i) : NT G us lg' i := by
  obtain ⟨h1, h2, h3, h4, h5⟩ := h
  have ev := vsl_E hE (Nat.le_refl i)
  refine ⟨h1, by rw [ev]; exact h2, h3, h4, fun j u hu => ?_⟩
  obtain ⟨x, K, v, l, n⟩ := h5 j u hu
  exact ⟨x, K, v, l, fun hj => VN_lgE hE (by rw [← ev]; exact hj) (n (by rw [← ev]; exact hj))⟩
/-- no vessel noted: any of them will do -/
theorem NT_0 (h : NT G us lg i) : NT G us lg' 0 := by
  obtain ⟨h1, h2, h3, h4, h5⟩ := h
  refine ⟨h1, Nat.zero_le _, h3, h4, fun j u hu => ?_⟩
  obtain ⟨x, K, v, l, n⟩ := h5 j u hu
  exact ⟨x, K, v, l, fun hj => absurd hj (Nat.not_lt_zero _)⟩
/-- addresses of two vessels -/
theorem NT.apart (h : NT G us lg i) {u v j j' : Nat} (hu : us[j]? = some u) (hv : us[j']? = some v) (hne : j ≠ j') : u ≠ v := by
  intro e
  subst e
  exact hne (nd_inj h.2.2.1 hu hv)
theorem six {u v j : Nat} (hu : ∃ m, u = 378 + 6 * m) (hv : ∃ m, v = 378 + 6 * m) (hne : u ≠ v) (h : u ≤ j ∧ j < u + 6) : ¬ (v ≤ j ∧ j < v + 6) := by
  obtain ⟨m, rfl⟩ := hu
  obtain ⟨n, rfl⟩ := hv
  omega
theorem img_bo (hi : i < E) (h4 : (img lg E).length ≤ 40000) {k : Nat} (hk : k < nums (cod lg i) + 1) : bo_at (img lg E) (nI (posn lg i) + nI k) = if k = 0 then cod lg i else num lg i (k - 1) := by
  have h := img_at lg hi hk
  have hl : posn lg i + k < (img lg E).length := (List.getElem?_eq_some_iff.mp h).1
  unfold bo_at
  rw [nI_add, if_pos (nI_pos' (by omega)), nI_clamp (by omega), List.getD_eq_getElem?_getD, h]
  rfl
theorem map_at {f : Nat → Int32} {xs : List Nat} {k i : Nat} (h : xs[k]? = some i) (hk : k < 2 ^ 31) : bo_at (xs.map f) (nI k) = f i := by
  unfold bo_at
  rw [if_pos (nI_pos' hk), nI_clamp hk, List.getD_eq_getElem?_getD, List.getElem?_map, h]
  rfl
theorem c_noted {k : Nat} {ans pa td ke : Int32} (ha : a = 2 ∨ a = 7) (R : RW G a (nI (vsl lg i).length, nI (rsl lg i).length, pa, td, ke) (img lg E) ((acl lg E).map fun q => nI (posn lg q)) ((acl lg E).map (ent lg)) (fun j => us[j]?)) (N : NT G us lg i) (hm : G.length = 378 + 6 * m) (hk : (acl lg E)[k]? = some i) (hW : ∀ j, j < E → wfE lg j) (hE : E ≤ 6000) (h4 : (img lg E).length ≤ 40000) (h30 : (vsl lg E).length ≤ 30) (q : ∀ G' us', RW G' a (nI (vsl lg (i + 1)).length, nI (rsl lg (i + 1)).length, pa, td, ke) (img lg E) ((acl lg E).map fun q => nI (posn lg q)) ((acl lg E).map (ent lg)) (fun j => us'[j]?) → NT G' us' lg (i + 1) → FC a us G us' G' → Q (some (.int ans)) G') : Cx (d + 4) mX3_noted [.ref a, .int (nI k), .int ans] G Q := by
  obtain ⟨hiE, hcn⟩ := sel_mem.mp (List.mem_of_getElem? hk)
  have hkl : k < (acl lg E).length := (List.getElem?_eq_some_iff.mp hk).1
  have hal := sel_len E fun i => !(cod lg i == 0)
  have hk31 : k < 2 ^ 31 := by unfold acl at hkl; omega
  have hWi := hW i hiE
  have hWp : ∀ j, j < i → wfE lg j := fun j hj => hW j (by omega)
  obtain ⟨c, hc12, hcc⟩ := cod_nat hWi
  have hc0 : ¬ c = 0 := fun z => by rw [hcc, z] at hcn; exact absurd hcn (by decide)
  have hnc : nums (cod lg i) = numc c := by rw [hcc]; rfl
  have e0 : bo_at (img lg E) (nI (posn lg i)) = nI c := by
    have := img_bo (k := 0) hiE h4 (by omega)
    rw [if_pos rfl, hcc] at this
    rw [← this]
    congr 1
    exact (Int32.add_zero _).symm
  have eN : ∀ j, j < numc c → bo_at (img lg E) (nI (posn lg i) + nI (j + 1)) = num lg i j := fun j hj => by
    have := img_bo (k := j + 1) hiE h4 (by omega)
    rw [if_neg (by omega)] at this
    exact this
  have cl : ∀ {k : Nat}, k < 12 → cod lg i = nI k → c = k := fun hk hz => (nI_eq (by omega) (by omega)).mp (hcc.symm.trans hz)
  have ha4 : a + 4 < 12 := by omega
  have hl1 := sel_len i fun i => cod lg i == 1
  have ev : ¬ c = 1 → vsl lg (i + 1) = vsl lg i := fun z => by rw [vsl_s, if_neg (show ¬ cod lg i = 1 from fun y => z (cl (k := 1) (by omega) y)), List.append_nil]
  have er : ¬ c = 11 → rsl lg (i + 1) = rsl lg i := fun z => by rw [rsl_s, if_neg (show ¬ cod lg i = 11 from fun y => z (cl (k := 11) (by omega) y)), List.append_nil]
  have h0 := R.1
  obtain ⟨ci, h1⟩ := R.2.1
  obtain ⟨cp, h2⟩ := R.2.2.1
  obtain ⟨ce, h3⟩ := R.2.2.2.1
  have hv := R.2.2.2.2
  refine Cx.body rfl rfl ?_
  (repeat (first | refine Ex.go rfl rfl ?_ | refine Ex.gf rfl rfl (by assumption) (by rfl) (by first | rfl | assumption) ?_))
  refine Ex.cv1 rfl rfl rfl h2 (by rfl) (by decide) rfl ?_
  refine Cx.ratE h2 (map_at hk hk31) ?_
  (repeat (first | refine Ex.go rfl rfl ?_ | refine Ex.gf rfl rfl (by assumption) (by rfl) (by first | rfl | assumption) ?_))
  refine Ex.cv1 rfl rfl rfl h1 (by rfl) (by decide) rfl ?_
  refine Cx.ratE h1 e0 ?_
  (repeat (first | refine Ex.go rfl rfl ?_ | refine Ex.gf rfl rfl (by assumption) (by rfl) (by first | rfl | assumption) ?_))
  refine Ex.br (fun b1 => ?_) (fun b1 => ?_); rotate_left
  · -- a rule
    have hc11 : c = 11 := (nI_eq (b := 11) (by omega) (by omega)).mp (Decidable.not_not.mp b1)
    refine Ex.lay [(a, rC a (nI (vsl lg i).length, nI (rsl lg i).length, pa, td, ke))] (lay1 h0) ?_
    have hA := ap1 h0
    (repeat (first | refine Ex.go rfl rfl ?_ | refine Ex.gf rfl rfl (ov_get hA 0 rfl) (by rfl) (by rfl) ?_ | refine Ex.gf rfl rfl (ov_get hA 1 rfl) (by rfl) (by rfl) ?_ | refine Ex.gf rfl rfl (ov_get hA 2 rfl) (by rfl) (by rfl) ?_ | refine Ex.gf rfl rfl (ov_get hA 3 rfl) (by rfl) (by rfl) ?_ | refine Ex.gf rfl rfl (ov_get hA 4 rfl) (by rfl) (by rfl) ?_ | refine Ex.gf rfl rfl (ov_get hA 5 rfl) (by rfl) (by rfl) ?_ | refine Ex.gf rfl rfl (ov_get hA 6 rfl) (by rfl) (by rfl) ?_ | (refine Ex.pfo hA 0 rfl rfl rfl (by rfl) (by rfl) (by rfl) ?_; dsimp only [List.set]) | (refine Ex.pfo hA 1 rfl rfl rfl (by rfl) (by rfl) (by rfl) ?_; dsimp only [List.set]) | (refine Ex.pfo hA 2 rfl rfl rfl (by rfl) (by rfl) (by rfl) ?_; dsimp only [List.set]) | (refine Ex.pfo hA 3 rfl rfl rfl (by rfl) (by rfl) (by rfl) ?_; dsimp only [List.set]) | (refine Ex.pfo hA 4 rfl rfl rfl (by rfl) (by rfl) (by rfl) ?_; dsimp only [List.set]) | (refine Ex.pfo hA 5 rfl rfl rfl (by rfl) (by rfl) (by rfl) ?_; dsimp only [List.set]) | (refine Ex.pfo hA 6 rfl rfl rfl (by rfl) (by rfl) (by rfl) ?_; dsimp only [List.set])))
    refine Ex.ret rfl rfl rfl ?_
    obtain ⟨R2, F2⟩ := R.setO (nI (vsl lg i).length, nI (rsl lg i).length + 1, pa, td, ke)
    have er11 : (rsl lg (i + 1)).length = (rsl lg i).length + 1 := by rw [rsl_s, if_pos (by rw [hcc, hc11]; rfl), List.length_append]; rfl
    have q2 := q _ us (by rw [ev (by omega), er11, ← nI_1]; exact R2) ((N.FO (by omega) F2) |> fun n => ?_) (FC.of_FO F2 (FC.rfl' a us _))
    · exact q2
    · refine ⟨n.1, by rw [ev (by omega)]; exact n.2.1, n.2.2.1, n.2.2.2.1, fun j u hu => ?_⟩
      obtain ⟨x, K, v, l, g⟩ := n.2.2.2.2 j u hu
      refine ⟨x, K, v, l, fun hj => ?_⟩
      rw [ev (by omega)] at hj
      exact VN_other (g hj) hj fun z => by
        have := z.1.2
        rw [hcc, nI_toInt (by omega)] at this
        omega
  have hc11 : ¬ c = 11 := fun z => b1 (by rw [z]; rfl)
  have vl30 : (vsl lg i).length ≤ 30 := by
    obtain ⟨r, hr⟩ := sel_pre (P := fun i => cod lg i == 1) (show i ≤ E by omega)
    have e2 : vsl lg E = vsl lg i ++ r := hr
    rw [e2, List.length_append] at h30
    omega
  (repeat (first | refine Ex.go rfl rfl ?_ | refine Ex.gf rfl rfl (by assumption) (by rfl) (by first | rfl | assumption) ?_))
  refine Ex.br (fun b2 => ?_) (fun b2 => ?_); rotate_left
  · -- a vessel
    have hc1 : c = 1 := (nI_eq (b := 1) (by omega) (by omega)).mp (Decidable.not_not.mp b2)
    have hcod1 : cod lg i = 1 := by rw [hcc, hc1]; rfl
    have n4 : numc c = 4 := by rw [hc1]; decide
    have evs : vsl lg (i + 1) = vsl lg i ++ [i] := by rw [vsl_s, if_pos hcod1]
    have vlt : (vsl lg i).length < 30 := by
      obtain ⟨r, hr⟩ := sel_pre (P := fun i => cod lg i == 1) (show i + 1 ≤ E by omega)
      have e2 : vsl lg E = vsl lg (i + 1) ++ r := hr
      rw [e2, evs, List.length_append, List.length_append] at h30
      simp at h30
      omega
    have VL0 : VL (([], [], [], [], []) : vkT) := ⟨Nat.zero_le _, Nat.zero_le _, Nat.zero_le _, Nat.zero_le _, Nat.zero_le _⟩
    have ew : nI (vsl lg i).length + 1 = nI (vsl lg (i + 1)).length := by rw [evs, List.length_append]; exact nI_1 _
    have e1' := eN 0 (by omega)
    have e2' := eN 1 (by omega)
    have e3' := eN 2 (by omega)
    have e4' := eN 3 (by omega)
    have een : bo_at ((acl lg E).map (ent lg)) (nI k) = ent lg i := map_at hk hk31
    -- with a vessel's cells at u, in its place
    have fill : ∀ (u : Nat) (us' : List Nat) (G1 : bo_G) (f0 : Nat → Option Nat) (x : vxT) (K : vkT), RW G1 a (nI (vsl lg i).length, nI (rsl lg i).length, pa, td, ke) (img lg E) ((acl lg E).map fun q => nI (posn lg q)) ((acl lg E).map (ent lg)) f0 → VC G1 u x K → VL K → us'[(vsl lg i).length]? = some u → (va_up f0 (vsl lg i).length (some u) = fun j => us'[j]?) → us'.length ≤ 30 → us'.Nodup → (∀ u ∈ us', ∃ m, u = 378 + 6 * m) → (∀ (j u : Nat), us'[j]? = some u → ∃ x K, VC G1 u x K ∧ VL K ∧ (j < (vsl lg i).length → VN lg i j x K)) → (((us' = us ∧ G1.length = G.length) ∨ (us' = us ++ [G.length] ∧ G1.length = G.length + 6)) ∧ ∀ j, j < G.length → (∀ u ∈ us, ¬ (u ≤ j ∧ j < u + 6)) → G1[j]? = G[j]?) → Ex (d + 4) mX3_noted (94, [(0, .ref a), (1, .int (nI k)), (2, .int ans), (3, .int (nI (posn lg i))), (4, .int (nI c))], [.ref u], G1) Q := by
      intro u us' G1 f0 x K R1 V1 L1 hu hf h30' hnd h378 hall hfr
      have hu378 := h378 u (List.mem_of_getElem? hu)
      obtain ⟨mu, emu⟩ := hu378
      have g0 := R1.1
      obtain ⟨ci, g1⟩ := R1.2.1
      obtain ⟨ce, g3⟩ := R1.2.2.2.1
      (repeat (first | refine Ex.go rfl rfl ?_ | refine Ex.gf rfl rfl (by assumption) (by rfl) (by first | rfl | assumption) ?_))
      refine Ex.cv1 rfl rfl rfl g3 (by rfl) (by decide) rfl ?_
      refine Cx.ratE g3 een ?_
      (repeat (first | refine Ex.go rfl rfl ?_ | refine Ex.gf rfl rfl (by assumption) (by rfl) (by first | rfl | assumption) ?_))
      refine Ex.cv3 rfl rfl rfl V1.1 (by rfl) (by decide) rfl ?_
      refine c_vbegin V1 L1 g1 (by omega) e1' e2' e3' e4' (fun G2 V2 F2 => ?_)
      have R2 : RW G2 a (nI (vsl lg i).length, nI (rsl lg i).length, pa, td, ke) (img lg E) ((acl lg E).map fun q => nI (posn lg q)) ((acl lg E).map (ent lg)) f0 := R1.of fun j h1 h2 => F2.2 j (by omega)
      have p0 := R2.1
      have pv := R2.2.2.2.2
      (repeat (first | refine Ex.go rfl rfl ?_ | refine Ex.gf rfl rfl (by assumption) (by rfl) (by first | rfl | assumption) ?_))
      refine Ex.aas rfl pv V2.1 ⟨nI_pos' (by omega), by rw [nI_clamp (by omega)]; omega⟩ ?_
      rw [show ((nI (vsl lg i).length, nI (rsl lg i).length, pa, td, ke) : rlT).1.toNatClampNeg = (vsl lg i).length from nI_clamp (by omega), hf]
      obtain ⟨R3, F3⟩ := R2.setV (fun j => us'[j]?)
      generalize hG3 : G2.set (a + 4) (cQ 8 30 (fun j => us'[j]?)) = G3 at R3 F3 ⊢
      have r0 := R3.1
      refine Ex.lay [(a, rC a (nI (vsl lg i).length, nI (rsl lg i).length, pa, td, ke))] (lay1 r0) ?_
      have hA := ap1 r0
      (repeat (first | refine Ex.go rfl rfl ?_ | refine Ex.gf rfl rfl (ov_get hA 0 rfl) (by rfl) (by rfl) ?_ | refine Ex.gf rfl rfl (ov_get hA 1 rfl) (by rfl) (by rfl) ?_ | refine Ex.gf rfl rfl (ov_get hA 2 rfl) (by rfl) (by rfl) ?_ | refine Ex.gf rfl rfl (ov_get hA 3 rfl) (by rfl) (by rfl) ?_ | refine Ex.gf rfl rfl (ov_get hA 4 rfl) (by rfl) (by rfl) ?_ | refine Ex.gf rfl rfl (ov_get hA 5 rfl) (by rfl) (by rfl) ?_ | refine Ex.gf rfl rfl (ov_get hA 6 rfl) (by rfl) (by rfl) ?_ | (refine Ex.pfo hA 0 rfl rfl rfl (by rfl) (by rfl) (by rfl) ?_; dsimp only [List.set]) | (refine Ex.pfo hA 1 rfl rfl rfl (by rfl) (by rfl) (by rfl) ?_; dsimp only [List.set]) | (refine Ex.pfo hA 2 rfl rfl rfl (by rfl) (by rfl) (by rfl) ?_; dsimp only [List.set]) | (refine Ex.pfo hA 3 rfl rfl rfl (by rfl) (by rfl) (by rfl) ?_; dsimp only [List.set]) | (refine Ex.pfo hA 4 rfl rfl rfl (by rfl) (by rfl) (by rfl) ?_; dsimp only [List.set]) | (refine Ex.pfo hA 5 rfl rfl rfl (by rfl) (by rfl) (by rfl) ?_; dsimp only [List.set]) | (refine Ex.pfo hA 6 rfl rfl rfl (by rfl) (by rfl) (by rfl) ?_; dsimp only [List.set])))
      refine Ex.ret rfl rfl rfl ?_
      obtain ⟨R4, F4⟩ := R3.setO (nI (vsl lg i).length + 1, nI (rsl lg i).length, pa, td, ke)
      show Q (some (.int ans)) (G3.set a (rC a (nI (vsl lg i).length + 1, nI (rsl lg i).length, pa, td, ke)))
      generalize G3.set a (rC a (nI (vsl lg i).length + 1, nI (rsl lg i).length, pa, td, ke)) = G4 at R4 F4 ⊢
      have V4 : VC G4 u (num lg i 0, num lg i 1, num lg i 2, num lg i 3, ent lg i, 0) ([], [], [], [], []) := V2.of fun j h1 h2 => by rw [F4.2 j (by omega), F3.2 j (by omega)]
      refine q _ us' (by rw [er hc11, ← ew]; exact R4) ⟨h30', ?_, hnd, h378, fun j w hw => ?_⟩ ⟨?_, fun j hj hja hju => ?_⟩
      · rw [evs, List.length_append]
        have := (List.getElem?_eq_some_iff.mp hu).1
        exact this
      · by_cases hju : j = (vsl lg i).length
        · have : w = u := by rw [hju, hu] at hw; exact (Option.some.inj hw).symm
          rw [this]
          exact ⟨_, _, V4, VL0, fun _ => VN_new hWp (by omega) hcod1 hju⟩
        · obtain ⟨x', K', v', l', n'⟩ := hall j w hw
          have hwm := h378 w (List.mem_of_getElem? hw)
          have hne : w ≠ u := fun e => hju (nd_inj hnd hw (by rw [e]; exact hu))
          refine ⟨x', K', v'.of fun j' h1 h2 => ?_, l', fun hj => ?_⟩
          · obtain ⟨mw, emw⟩ := hwm
            rw [F4.2 j' (by omega), F3.2 j' (by omega), F2.2 j' (six ⟨mw, emw⟩ ⟨mu, emu⟩ hne ⟨h1, h2⟩)]
          · rw [evs, List.length_append] at hj
            have hj' : j < (vsl lg i).length := by simp at hj; omega
            exact VN_other (n' hj') hj' fun z => by
              have := z.1.1
              rw [hcod1] at this
              exact absurd this (by decide)
      · rcases hfr.1 with ⟨e, l⟩ | ⟨e, l⟩
        · exact Or.inl ⟨e, by rw [F4.1, F3.1, F2.1]; exact l⟩
        · exact Or.inr ⟨e, by rw [F4.1, F3.1, F2.1]; exact l⟩
      · have hju2 : ¬ (u ≤ j ∧ j < u + 6) := by
          rcases hfr.1 with ⟨e, -⟩ | ⟨e, -⟩
          · rw [e] at hu; exact hju u (List.mem_of_getElem? hu)
          · have hmem := List.mem_of_getElem? hu
            rw [e, List.mem_append] at hmem
            rcases hmem with h | h
            · exact hju u h
            · rw [List.mem_singleton] at h; omega
        rw [F4.2 j hja, F3.2 j hja, F2.2 j hju2]
        exact hfr.2 j hj hju
    (repeat (first | refine Ex.go rfl rfl ?_ | refine Ex.gf rfl rfl (by assumption) (by rfl) (by first | rfl | assumption) ?_))
    refine Ex.br (fun b3 => ?_) (fun b3 => ?_)
    · exact absurd b3 (nI_pos (n := (vsl lg i).length) (by omega))
    (repeat (first | refine Ex.go rfl rfl ?_ | refine Ex.gf rfl rfl (by assumption) (by rfl) (by first | rfl | assumption) ?_))
    refine Ex.alq rfl hv ?_
    (repeat (first | refine Ex.go rfl rfl ?_ | refine Ex.gf rfl rfl (by assumption) (by rfl) (by first | rfl | assumption) ?_))
    refine Ex.br (fun b4 => ?_) (fun b4 => ?_)
    · have b5 : nI 30 ≤ nI (vsl lg i).length := b4
      rw [nI_leI (by omega) (by omega)] at b5
      omega
    (repeat (first | refine Ex.go rfl rfl ?_ | refine Ex.gf rfl rfl (by assumption) (by rfl) (by first | rfl | assumption) ?_))
    refine Ex.aal rfl hv ⟨nI_pos' (by omega), by rw [nI_clamp (by omega)]; omega⟩ ?_
    rw [show ((nI (vsl lg i).length, nI (rsl lg i).length, pa, td, ke) : rlT).1.toNatClampNeg = (vsl lg i).length from nI_clamp (by omega)]
    by_cases hus : (vsl lg i).length < us.length
    · -- one that is there
      have hsome : us[(vsl lg i).length]? = some us[(vsl lg i).length] := List.getElem?_eq_getElem hus
      generalize us[(vsl lg i).length] = u at hsome
      obtain ⟨x, K, v, l, -⟩ := N.2.2.2.2 _ _ hsome
      have f0 := fill u us G (fun j => us[j]?) x K R v l hsome (by
        funext j
        unfold va_up
        split
        · rename_i e; rw [e]; exact hsome.symm
        · rfl) N.1 N.2.2.1 N.2.2.2.1 N.2.2.2.2 ⟨Or.inl ⟨rfl, rfl⟩, fun _ _ _ => rfl⟩
      rw [hsome]
      (repeat (first | refine Ex.go rfl rfl ?_ | refine Ex.gf rfl rfl (by assumption) (by rfl) (by first | rfl | assumption) ?_))
      refine Ex.aal rfl hv ⟨nI_pos' (by omega), by rw [nI_clamp (by omega)]; omega⟩ ?_
      rw [show ((nI (vsl lg i).length, nI (rsl lg i).length, pa, td, ke) : rlT).1.toNatClampNeg = (vsl lg i).length from nI_clamp (by omega), hsome]
      exact f0
    · -- a new one
      have hul : us.length = (vsl lg i).length := by have := N.2.1; omega
      have hnone : us[(vsl lg i).length]? = none := List.getElem?_eq_none (by omega)
      rw [hnone]
      (repeat (first | refine Ex.go rfl rfl ?_ | refine Ex.gf rfl rfl (by assumption) (by rfl) (by first | rfl | assumption) ?_))
      have hgu : (G ++ [cO 8 (bo_df 8)])[G.length]? = some (cO 8 (bo_df 8)) := app_get
      have hin : ∀ {u : Nat}, u ∈ us → u + 6 ≤ G.length := fun hu => by
        obtain ⟨j, hj⟩ := List.getElem?_of_mem hu
        obtain ⟨x, K, v, -⟩ := N.2.2.2.2 j _ hj
        exact v.lt
      refine Ex.ci0 (q := 4) rfl rfl (Or.inr rfl) rfl hgu rfl (by decide) rfl ?_
      refine c_vinit hgu (by rw [List.length_append]; rfl) (fun G1 V1 L1 F1 => ?_)
      have F1' : ∀ j, j < G.length → G1[j]? = G[j]? := fun j hj => by rw [F1 j hj, List.getElem?_append_left hj]
      have R1 := R.of (G' := G1) fun j h1 h2 => F1' j (by omega)
      have f0 := fill G.length (us ++ [G.length]) G1 (fun j => us[j]?) (0, 0, 0, 0, 0, 0) ([], [], [], [], []) R1 V1 VL0 (by rw [← hul, List.getElem?_append_right (Nat.le_refl _), Nat.sub_self]; rfl) (by
        funext j
        unfold va_up
        by_cases hj : j = (vsl lg i).length
        · rw [if_pos hj, hj, ← hul, List.getElem?_append_right (Nat.le_refl _), Nat.sub_self]; rfl
        · rw [if_neg hj]
          show us[j]? = (us ++ [G.length])[j]?
          by_cases hjl : j < us.length
          · rw [List.getElem?_append_left hjl]
          · have e1 : us[j]? = none := List.getElem?_eq_none (by omega)
            have e2 : (us ++ [G.length])[j]? = none := List.getElem?_eq_none (by rw [List.length_append, List.length_singleton]; omega)
            rw [e1, e2]) (by rw [List.length_append]; simp; omega) (by
          rw [List.nodup_append]
          refine ⟨N.2.2.1, by simp, fun x hx y hy => ?_⟩
          rw [List.mem_singleton] at hy
          have := hin hx
          omega) (fun u hu => by
          rw [List.mem_append] at hu
          rcases hu with hu | hu
          · exact N.2.2.2.1 u hu
          · rw [List.mem_singleton] at hu; exact ⟨m, by rw [hu]; exact hm⟩) (fun j u hu => by
          by_cases hjl : j < us.length
          · rw [List.getElem?_append_left hjl] at hu
            obtain ⟨x, K, v, l, n⟩ := N.2.2.2.2 j u hu
            have := v.lt
            exact ⟨x, K, v.of fun j' h1 h2 => F1' j' (by omega), l, n⟩
          · have hj2 : j = us.length := by
              have := (List.getElem?_eq_some_iff.mp hu).1
              rw [List.length_append] at this
              simp at this
              omega
            rw [hj2, List.getElem?_append_right (Nat.le_refl _), Nat.sub_self] at hu
            have hu' : G.length = u := Option.some.inj hu
            rw [← hu']
            exact ⟨_, _, V1, VL0, fun hj => by omega⟩) ⟨Or.inr ⟨rfl, by rw [L1]⟩, fun j hj _ => F1' j hj⟩
      (repeat (first | exact f0 | refine Ex.go rfl rfl ?_ | refine Ex.gf rfl rfl (by assumption) (by rfl) (by first | rfl | assumption) ?_))
  -- an act of a vessel
  have hc1 : ¬ c = 1 := fun z => b2 (by rw [z]; rfl)
  have hvv : ∃ v, v < (vsl lg i).length ∧ num lg i 0 = nI v := by
    obtain ⟨-, g⟩ := hWi
    rcases g with g | g | g | ⟨v, hv, e, -⟩
    · exact absurd (cl (k := 0) (by omega) g.1) hc0
    · exact absurd (cl (k := 1) (by omega) g.1) hc1
    · exact absurd (cl (k := 11) (by omega) g.1) hc11
    · exact ⟨v, hv, e⟩
  obtain ⟨v, hvl, hn0⟩ := hvv
  have hv31 : v < 2 ^ 31 := by unfold vsl at hvl; omega
  have hsome : us[v]? = some (us[v]'(by have := N.2.1; omega)) := List.getElem?_eq_getElem _
  generalize us[v]'(by have := N.2.1; omega) = u at hsome
  obtain ⟨x, K, V0, L0, n0⟩ := N.2.2.2.2 v u hsome
  obtain ⟨mu, emu⟩ := N.2.2.2.1 u (List.mem_of_getElem? hsome)
  have n4 : 4 ≤ numc c ∧ (c = 3 → 5 ≤ numc c) := by
    match c, hc12, hc0, hc1, hc11 with
    | 2, _, _, _, _ => decide
    | 3, _, _, _, _ => decide
    | 4, _, _, _, _ => decide
    | 5, _, _, _, _ => decide
    | 6, _, _, _, _ => decide
    | 7, _, _, _, _ => decide
    | 8, _, _, _, _ => decide
    | 9, _, _, _, _ => decide
    | 10, _, _, _, _ => decide
    | 0, _, z, _, _ => exact absurd rfl z
    | 1, _, _, z, _ => exact absurd rfl z
    | 11, _, _, _, z => exact absurd rfl z
    | c + 12, z, _, _, _ => exact absurd z (by omega)
  have hNK : noteK (nI c) (num lg i 1) (num lg i 2) (num lg i 3) (bo_at (img lg E) (nI (posn lg i) + 5)) K = noteK (nI c) (num lg i 1) (num lg i 2) (num lg i 3) (num lg i 4) K := by
    by_cases h3 : c = 3
    · have e5 := eN 4 (by have := n4.2 h3; omega)
      rw [show bo_at (img lg E) (nI (posn lg i) + 5) = num lg i 4 from e5]
    · unfold noteK
      have h3' : ¬ nI c = 3 := fun z => h3 ((nI_eq (b := 3) (by omega) (by omega)).mp z)
      rw [if_neg h3', if_neg h3']
  have hVL : VL (noteK (nI c) (num lg i 1) (num lg i 2) (num lg i 3) (num lg i 4) K) := (VN_step hWp hWi (by omega) (by omega) (by omega) hcc hn0 hvl (n0 hvl)).VL (fun k hk => hW k (by omega)) (by omega) hv31
  (repeat (first | refine Ex.go rfl rfl ?_ | refine Ex.gf rfl rfl (by assumption) (by rfl) (by first | rfl | assumption) ?_))
  refine Ex.cv1 rfl rfl rfl h1 (by rfl) (by decide) rfl ?_
  refine Cx.ratE h1 (eN 0 (by omega)) ?_
  rw [hn0]
  (repeat (first | refine Ex.go rfl rfl ?_ | refine Ex.gf rfl rfl (by assumption) (by rfl) (by first | rfl | assumption) ?_))
  refine Ex.cv1 rfl rfl rfl h0 (by rfl) (by decide) rfl ?_
  have hva : ∀ Q' : Option Value → bo_G → Prop, Q' (some (.ref u)) G → Cx (d + 3) mX3_vesselAt [.ref a, .int (nI v)] G Q' := by
    intro Q' k'
    refine Cx.body rfl rfl ?_
    (repeat (first | refine Ex.go rfl rfl ?_ | refine Ex.gf rfl rfl (by assumption) (by rfl) (by first | rfl | assumption) ?_))
    refine Ex.br (fun d1 => ?_) (fun d1 => ?_)
    · exact absurd d1 (nI_pos (n := v) (by omega))
    (repeat (first | refine Ex.go rfl rfl ?_ | refine Ex.gf rfl rfl (by assumption) (by rfl) (by first | rfl | assumption) ?_))
    refine Ex.br (fun d2 => ?_) (fun d2 => ?_)
    · have d3 : nI (vsl lg i).length ≤ nI v := d2
      rw [nI_leI (by omega) (by omega)] at d3
      omega
    (repeat (first | refine Ex.go rfl rfl ?_ | refine Ex.gf rfl rfl (by assumption) (by rfl) (by first | rfl | assumption) ?_))
    refine Ex.alq rfl hv ?_
    (repeat (first | refine Ex.go rfl rfl ?_ | refine Ex.gf rfl rfl (by assumption) (by rfl) (by first | rfl | assumption) ?_))
    refine Ex.br (fun d4 => ?_) (fun d4 => ?_)
    · have d5 : nI 30 ≤ nI v := d4
      rw [nI_leI (by omega) (by omega)] at d5
      omega
    (repeat (first | refine Ex.go rfl rfl ?_ | refine Ex.gf rfl rfl (by assumption) (by rfl) (by first | rfl | assumption) ?_))
    refine Ex.aal rfl hv ⟨nI_pos' (by omega), by rw [nI_clamp (by omega)]; omega⟩ ?_
    rw [nI_clamp (by omega), hsome]
    (repeat (first | refine Ex.go rfl rfl ?_ | refine Ex.gf rfl rfl (by assumption) (by rfl) (by first | rfl | assumption) ?_))
    refine Ex.ret rfl rfl rfl ?_
    exact k'
  refine hva _ ?_
  (repeat (first | refine Ex.go rfl rfl ?_ | refine Ex.gf rfl rfl (by assumption) (by rfl) (by first | rfl | assumption) ?_))
  refine Ex.cv2 rfl rfl rfl V0.1 (by rfl) (by decide) rfl ?_
  refine c_vnote (c := c) (by omega) (by omega) V0 h1 (by omega) e0 (eN 1 (by omega)) (eN 2 (by omega)) (eN 3 (by omega)) rfl (fun G2 V2 F2 => ?_)
  rw [hNK] at V2
  (repeat (first | refine Ex.go rfl rfl ?_ | refine Ex.gf rfl rfl (by assumption) (by rfl) (by first | rfl | assumption) ?_))
  refine Ex.ret rfl rfl rfl ?_
  refine q G2 us (by rw [ev hc1, er hc11]; exact R.of fun j h1 h2 => F2.2 j (by omega)) ⟨N.1, by rw [ev hc1]; exact N.2.1, N.2.2.1, N.2.2.2.1, fun j w hw => ?_⟩ ⟨Or.inl ⟨rfl, F2.1⟩, fun j hj _ hju => F2.2 j (hju u (List.mem_of_getElem? hsome))⟩
  by_cases hjv : j = v
  · have : w = u := by rw [hjv, hsome] at hw; exact (Option.some.inj hw).symm
    rw [this, hjv]
    exact ⟨_, _, V2, hVL, fun _ => VN_step hWp hWi (by omega) (by omega) (by omega) hcc hn0 hvl (n0 hvl)⟩
  · obtain ⟨x', K', v', l', n'⟩ := N.2.2.2.2 j w hw
    have hne : w ≠ u := N.apart hw hsome hjv
    refine ⟨x', K', v'.of fun j' h1 h2 => F2.2 j' (six (N.2.2.2.1 w (List.mem_of_getElem? hw)) ⟨mu, emu⟩ hne ⟨h1, h2⟩), l', fun hj => ?_⟩
    rw [ev hc1] at hj
    have hj31 : j < 2 ^ 31 := by unfold vsl at hj; omega
    exact VN_other (n' hj) hj fun z => hjv ((nI_eq hj31 hv31).mp (z.2.symm.trans hn0))
end NT
