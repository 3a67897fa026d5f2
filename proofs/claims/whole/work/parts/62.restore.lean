/-! The reference's restore. -/
/-- the tape at a place: its code, its numbers -/
def tpC (ts : List Int32) (a : Nat) : Int32 := ts.getD a 0
def tpN (ts : List Int32) (a : Nat) : Nat → Int32 := fun k => ts.getD (a + 1 + k) 0
/-- the entry at a place can be entered -/
abbrev tkP (ts : List Int32) (a : Nat) (lg : Nat → Int32) (E : Nat) : Prop := (0 ≤ (tpC ts a).toInt ∧ (tpC ts a).toInt ≤ 11) ∧ a + numc (tpC ts a).toNatClampNeg < ts.length ∧ rfs lg E (tpC ts a).toNatClampNeg (tpN ts a) = 0
/-- a tape gone over: whether it can be, up to where, the log -/
def rst (ts : List Int32) : Nat → Nat → (Nat → Int32) → Nat → Bool × Nat × (Nat → Int32) × Nat
  | 0, a, lg, E => (true, a, lg, E)
  | f + 1, a, lg, E => if a < ts.length then (if tkP ts a lg E then rst ts f (a + 1 + numc (tpC ts a).toNatClampNeg) (lgN lg E (tpC ts a).toNatClampNeg (tpN ts a)) (E + 1) else (false, a, lg, E)) else (true, a, lg, E)
/-- what follows an entry's numbers is 0 -/
def ZP (lg : Nat → Int32) (E : Nat) : Prop := ∀ i, i < E → ∀ k, nums (cod lg i) ≤ k → k < 15 → num lg i k = 0
section LN
variable {lg lg' : Nat → Int32} {E c i : Nat} {nn : Nat → Int32}
theorem ZP_N (h : ZP lg E) : ZP (lgN lg E c nn) (E + 1) := by
  intro i hi k hk hk2
  by_cases hiE : i = E
  · subst hiE
    rw [lgN_cod] at hk
    exact (lgw_num hk2).trans (if_neg (by omega))
  · rw [lgE_cod lgN_E (show i < E by omega)] at hk
    rw [lgE_num lgN_E (show i < E by omega) hk2]
    exact h i (by omega) k hk hk2
theorem cod_nat (h : wfE lg i) : ∃ c : Nat, c < 12 ∧ cod lg i = nI c := by
  rcases wf_codes h with h | h | h | h | h | h | h | h | h | h | h | h
  · exact ⟨0, by omega, h⟩
  · exact ⟨1, by omega, h⟩
  · exact ⟨2, by omega, h⟩
  · exact ⟨3, by omega, h⟩
  · exact ⟨4, by omega, h⟩
  · exact ⟨5, by omega, h⟩
  · exact ⟨6, by omega, h⟩
  · exact ⟨7, by omega, h⟩
  · exact ⟨8, by omega, h⟩
  · exact ⟨9, by omega, h⟩
  · exact ⟨10, by omega, h⟩
  · exact ⟨11, by omega, h⟩
/-- an entry of a log can be entered anew, and tells the same day -/
theorem wf_again (hW : ∀ j, j < E → wfE lg j) (hi : i < E) (hc : c < 12) (hcc : cod lg i = nI c) (h30 : (vsl lg E).length ≤ 30) (hE : E ≤ 6000) : enOK lg i c (num lg i) ∧ dofI lg i c (num lg i) = dyy lg i := by
  have h := hW i hi
  have cl : ∀ {k : Nat}, k < 12 → cod lg i = nI k → c = k := fun hk hz => (nI_eq (by omega) (by omega)).mp (hcc.symm.trans hz)
  have hl := sel_len i fun i => cod lg i == 1
  have lv : ∀ {v : Nat}, v < (vsl lg i).length → (nI v).toNatClampNeg = v := fun hv => nI_clamp (by unfold vsl at hv; omega)
  obtain ⟨-, h2⟩ := h
  rcases h2 with h2 | h2 | h2 | ⟨v, hv, ev, h2⟩
  · have e := cl (k := 0) (by omega) h2.1
    subst e
    exact ⟨⟨fun z => absurd z (by omega), fun z => absurd z (by omega)⟩, by simp only [dofI]; exact h2.2.2.symm⟩
  · have e := cl (k := 1) (by omega) h2.1
    subst e
    refine ⟨⟨fun _ => ?_, fun z => absurd z (by omega)⟩, by simp only [dofI]; exact h2.2.2.2.2.2.symm⟩
    obtain ⟨r, hr⟩ := sel_pre (P := fun i => cod lg i == 1) (show i + 1 ≤ E by omega)
    have e1 := vsl_s (lg := lg) (E := i)
    rw [if_pos h2.1] at e1
    have e2 : vsl lg E = vsl lg (i + 1) ++ r := hr
    rw [e1] at e2
    rw [e2, List.length_append, List.length_append] at h30
    simp at h30
    omega
  · have e := cl (k := 11) (by omega) h2.1
    subst e
    exact ⟨⟨fun z => absurd z (by omega), fun _ z => absurd z (by omega)⟩, by simp only [dofI]; exact h2.2.2.2.2.symm⟩
  · rcases h2 with h2 | h2 | h2 | h2 | ⟨p, hp, ep, h2⟩
    · have e := cl (k := 2) (by omega) h2.1
      subst e
      refine ⟨⟨fun z => absurd z (by omega), fun _ _ => ⟨v, hv, ev, fun _ => h2.2.2.2.2.2.2.2, fun z => absurd z (by omega)⟩⟩, ?_⟩
      simp only [dofI]
      rw [ev, lv hv]; exact h2.2.2.2.2.2.2.1.symm
    · have e := cl (k := 8) (by omega) h2.1
      subst e
      exact ⟨⟨fun z => absurd z (by omega), fun _ _ => ⟨v, hv, ev, fun z => absurd z (by omega), fun _ => h2.2.2.2.2.2⟩⟩, by simp only [dofI]; exact h2.2.2.2.2.1.symm⟩
    · have e := cl (k := 9) (by omega) h2.1
      subst e
      obtain ⟨-, u, -, -, -, -, -, q⟩ := h2
      exact ⟨⟨fun z => absurd z (by omega), fun _ _ => ⟨v, hv, ev, fun z => absurd z (by omega), fun z => absurd z (by omega)⟩⟩, by simp only [dofI]; exact q.symm⟩
    · have e := cl (k := 10) (by omega) h2.1
      subst e
      exact ⟨⟨fun z => absurd z (by omega), fun _ _ => ⟨v, hv, ev, fun z => absurd z (by omega), fun z => absurd z (by omega)⟩⟩, by simp only [dofI]; exact h2.2.2.2.2.2.symm⟩
    · rcases h2 with h2 | h2 | h2 | h2 | h2
      · have e := cl (k := 3) (by omega) h2.1
        subst e
        refine ⟨⟨fun z => absurd z (by omega), fun _ _ => ⟨v, hv, ev, fun z => absurd z (by omega), fun z => absurd z (by omega)⟩⟩, ?_⟩
        simp only [dofI]
        rw [ev, lv hv]; exact h2.2.2.2.2.2.1.symm
      · have e := cl (k := 4) (by omega) h2.1
        subst e
        exact ⟨⟨fun z => absurd z (by omega), fun _ _ => ⟨v, hv, ev, fun z => absurd z (by omega), fun z => absurd z (by omega)⟩⟩, by simp only [dofI]; exact h2.2.2.1.symm⟩
      · have e := cl (k := 5) (by omega) h2.1
        subst e
        exact ⟨⟨fun z => absurd z (by omega), fun _ _ => ⟨v, hv, ev, fun z => absurd z (by omega), fun z => absurd z (by omega)⟩⟩, by simp only [dofI]; exact h2.2.2.2.2.2.symm⟩
      · have e := cl (k := 6) (by omega) h2.1
        subst e
        exact ⟨⟨fun z => absurd z (by omega), fun _ _ => ⟨v, hv, ev, fun z => absurd z (by omega), fun z => absurd z (by omega)⟩⟩, by simp only [dofI]; exact h2.2.2.2.symm⟩
      · have e := cl (k := 7) (by omega) h2.1
        subst e
        exact ⟨⟨fun z => absurd z (by omega), fun _ _ => ⟨v, hv, ev, fun z => absurd z (by omega), fun z => absurd z (by omega)⟩⟩, by simp only [dofI]; exact h2.2.2.2.2.symm⟩
/-- alike logs stay alike by an entry entered anew -/
theorem lgE_again (hW : ∀ j, j < E → wfE lg j) (hZ : ZP lg E) (hi : i < E) (hc : c < 12) (hcc : cod lg i = nI c) (h30 : (vsl lg E).length ≤ 30) (hE : E ≤ 6000) (h : lgE lg lg' i) (hn : ∀ k, k < 15 → nn k = num lg i k) : lgE lg (lgN lg' i c nn) (i + 1) ∧ enOK lg' i c nn := by
  obtain ⟨ok, dd⟩ := wf_again hW hi hc hcc h30 hE
  have hn15 := numc_le c
  have e1 : lgN lg' i c nn = lgN lg' i c (num lg i) := lgN_congr hc fun k hk => hn k (by omega)
  have e2 : dofI lg' i c (num lg i) = dofI lg i c (num lg i) := by
    have key : ∀ v, v < (vsl lg i).length → dyy lg' (vat lg' i v) = dyy lg (vat lg i v) := fun v hv => by rw [vat_E h (Nat.le_refl i), lgE_dyy h (vat_lt hv)]
    have hl := sel_len i fun i => cod lg i == 1
    match c, hc, ok with
    | 2, _, ok =>
      obtain ⟨v, hv, e, -⟩ := ok.2 (by omega) (by omega)
      simp only [dofI]
      rw [e, nI_clamp (by unfold vsl at hv; omega)]
      exact key v hv
    | 3, _, ok =>
      obtain ⟨v, hv, e, -⟩ := ok.2 (by omega) (by omega)
      simp only [dofI]
      rw [e, nI_clamp (by unfold vsl at hv; omega)]
      exact key v hv
    | 0, _, _ => simp only [dofI]
    | 1, _, _ => simp only [dofI]
    | 4, _, _ => simp only [dofI]
    | 5, _, _ => simp only [dofI]
    | 6, _, _ => simp only [dofI]
    | 7, _, _ => simp only [dofI]
    | 8, _, _ => simp only [dofI]
    | 9, _, _ => simp only [dofI]
    | 10, _, _ => simp only [dofI]
    | 11, _, _ => simp only [dofI]
    | c + 12, z, _ => exact absurd z (by omega)
  refine ⟨?_, ?_⟩
  · rw [e1]
    intro j hj
    unfold lgN lgw
    rw [e2, dd]
    by_cases h1 : j < 18 * i
    · rw [if_pos h1]; exact h j h1
    · rw [if_neg h1]
      by_cases h2 : j = 18 * i
      · rw [if_pos h2, h2]; exact hcc.symm
      · rw [if_neg h2]
        by_cases h3 : j = 18 * i + 1
        · rw [if_pos h3, h3, tdy_E h (Nat.le_refl i)]; exact (hW i hi).1.symm
        · rw [if_neg h3]
          by_cases h4 : j = 18 * i + 2
          · rw [if_pos h4, h4]; rfl
          · rw [if_neg h4, if_pos (by omega)]
            have ej : lg j = num lg i (j - (18 * i + 3)) := by unfold num; congr 1; omega
            by_cases h5 : j - (18 * i + 3) < nums (nI c)
            · rw [if_pos h5]; exact ej.symm
            · rw [if_neg h5, ej]
              exact (hZ i hi _ (by rw [hcc]; omega) (by omega)).symm
  · refine ⟨fun z => by rw [vsl_E h (Nat.le_refl i)]; exact ok.1 z, fun h2 h10 => ?_⟩
    obtain ⟨v, hv, e, a, b⟩ := ok.2 h2 h10
    exact ⟨v, by rw [vsl_E h (Nat.le_refl i)]; exact hv, (hn 0 (by omega)).trans e, fun z => by rw [psl_E h (Nat.le_refl i)]; exact a z, fun z => by rw [wsl_E h (Nat.le_refl i)]; exact b z⟩
end LN
section RR
variable {d : Nat} {G G' : bo_G} {Q : Option Value → bo_G → Prop} {lg lg' : Nat → Int32} {E E' fx fx' mn : Nat} {nn gv ls : Nat → Int32} {ts : List Int32} {st sh shs im rs st' sh' shs' mnI tp : Int32}
theorem r_empty (R : RT G lg E fx st sh shs mnI im tp rs nn) (k : ∀ G', RT G' lg 0 0 st sh shs mnI im tp rs nn → FA G G' → Q none G') : Cx d mX11_empty [.ref 364] G Q := by
  obtain ⟨w, pt, vl, pp, va, pa, wa, RR, hI⟩ := R
  have q0 := RR.1.1
  refine Cx.body rfl rfl ?_
  refine Ex.lay [(364, cO 11 (rF E fx (tdy lg E) (acl lg E).length (osl lg E).length (vsl lg E).length (rsl lg E).length st sh shs w mnI im tp rs))] (lay1 q0) ?_
  have hA := ap1 q0
  (repeat (first | refine Ex.go rfl rfl ?_ | refine Ex.gf rfl rfl (ov_get hA 0 rfl) (by rfl) (by rfl) ?_ | refine Ex.gf rfl rfl (ov_get hA 1 rfl) (by rfl) (by rfl) ?_ | refine Ex.gf rfl rfl (ov_get hA 2 rfl) (by rfl) (by rfl) ?_ | refine Ex.gf rfl rfl (ov_get hA 3 rfl) (by rfl) (by rfl) ?_ | refine Ex.gf rfl rfl (ov_get hA 4 rfl) (by rfl) (by rfl) ?_ | refine Ex.gf rfl rfl (ov_get hA 5 rfl) (by rfl) (by rfl) ?_ | refine Ex.gf rfl rfl (ov_get hA 6 rfl) (by rfl) (by rfl) ?_ | (refine Ex.pfo hA 0 rfl rfl rfl (by rfl) (by rfl) (by rfl) ?_; dsimp only [List.set]) | (refine Ex.pfo hA 1 rfl rfl rfl (by rfl) (by rfl) (by rfl) ?_; dsimp only [List.set]) | (refine Ex.pfo hA 2 rfl rfl rfl (by rfl) (by rfl) (by rfl) ?_; dsimp only [List.set]) | (refine Ex.pfo hA 3 rfl rfl rfl (by rfl) (by rfl) (by rfl) ?_; dsimp only [List.set]) | (refine Ex.pfo hA 4 rfl rfl rfl (by rfl) (by rfl) (by rfl) ?_; dsimp only [List.set]) | (refine Ex.pfo hA 5 rfl rfl rfl (by rfl) (by rfl) (by rfl) ?_; dsimp only [List.set]) | (refine Ex.pfo hA 6 rfl rfl rfl (by rfl) (by rfl) (by rfl) ?_; dsimp only [List.set])))
  refine Ex.ret rfl rfl rfl ?_
  obtain ⟨⟨p0, -⟩, ⟨b0, b1, b2, b3, b4, b5, b6, b7⟩, hE, hV⟩ := RR
  have q : ∀ {j : Nat} {x : bo_C} {y : bo_C}, j ≠ 364 → G[j]? = some x → (ov G [(364, y)])[j]? = some x := fun hj hx => by
    rw [ov_ne (by simp; exact fun z => hj z)]; exact hx
  refine k _ ⟨w, pt, vl, pp, va, pa, wa, ⟨⟨get_set q0, rfl, rfl, rfl, rfl, rfl, rfl, rfl, rfl, rfl, rfl, rfl⟩, ⟨q (by omega) b0, q (by omega) b1, q (by omega) b2, q (by omega) b3, q (by omega) b4, q (by omega) b5, q (by omega) b6, q (by omega) b7⟩, by omega, Nat.zero_le _⟩, rfl, fun v hv => absurd hv (Nat.not_lt_zero _), fun v hv => absurd hv (Nat.not_lt_zero _), fun v p hv => absurd hv (Nat.not_lt_zero _), fun v hv => absurd hv (Nat.not_lt_zero _), fun v p hv => absurd hv (Nat.not_lt_zero _), fun v hv => absurd hv (Nat.not_lt_zero _)⟩ (FA.ov (FA.rfl' G) (by simp))
theorem r_taken {tpf : Nat → Int32} {a : Nat} (R : RT G lg E fx st sh shs mnI im tp rs nn) (hW : WF lg E) (hL : 378 ≤ G.length) (c377 : G[377]? = some (cI 40000 tpf)) (ht : agr tpf ts) (h4 : ts.length ≤ 40000) (ha : a < ts.length) (k0 : ¬ tkP ts a lg E → ∀ G' nn', RT G' lg E fx st sh shs mnI im tp rs nn' → FA G G' → Q (some (.int 0)) G') (k1 : tkP ts a lg E → ∀ G' nn', RT G' (lgN lg E (tpC ts a).toNatClampNeg (tpN ts a)) (E + 1) (if (tpC ts a).toNatClampNeg = 0 then E + 1 else fx) st sh shs mnI im tp rs nn' → FA G G' → Q (some (.int 1)) G') : Cx (d + 7) mX11_taken [.ref 364, .int (nI a), .int (nI ts.length)] G Q := by
  obtain ⟨w, q0, -⟩ := RT_fs R
  have e0 : tpf a = tpC ts a := by unfold tpC; rw [List.getD_eq_getElem?_getD, ht a ha]; rfl
  refine Cx.body rfl rfl ?_
  (repeat (first | refine Ex.go rfl rfl ?_ | refine Ex.gf rfl rfl (by assumption) (by rfl) (by first | rfl | assumption) ?_))
  refine Ex.ialN rfl (j := a) rfl c377 (by omega) (by omega) ?_
  rw [e0]
  (repeat (first | refine Ex.go rfl rfl ?_ | refine Ex.gf rfl rfl (by assumption) (by rfl) (by first | rfl | assumption) ?_))
  refine Ex.cs3 rfl rfl rfl rfl rfl rfl ?_
  refine r_inI (lo := 0) (hi := 11) (by decide +kernel) (by decide +kernel) ?_
  (repeat (first | refine Ex.go rfl rfl ?_ | refine Ex.gf rfl rfl (by assumption) (by rfl) (by first | rfl | assumption) ?_))
  refine Ex.brz (fun h1 => ?_) (fun h1 => ?_); rotate_left
  · have k := k0 (fun z => h1 z.1) G nn R (FA.rfl' G)
    (repeat (first | refine Ex.go rfl rfl ?_ | refine Ex.gf rfl rfl (by assumption) (by rfl) (by first | rfl | assumption) ?_))
    refine Ex.retz rfl rfl rfl (Or.inl rfl) ?_
    exact k
  obtain ⟨e1, e2, e3⟩ := nI_iof h1.1
  have hc : (tpC ts a).toNatClampNeg < 12 := by omega
  unfold tkP at k0 k1
  generalize (tpC ts a).toNatClampNeg = c at e1 e2 e3 hc k0 k1
  rw [e1] at h1 k0 k1 ⊢
  have hn15 := numc_le c
  (repeat (first | refine Ex.go rfl rfl ?_ | refine Ex.gf rfl rfl (by assumption) (by rfl) (by first | rfl | assumption) ?_))
  refine Ex.cs1 rfl rfl rfl rfl rfl rfl ?_
  refine r_numbers hc ?_
  (repeat (first | refine Ex.go rfl rfl ?_ | refine Ex.gf rfl rfl (by assumption) (by rfl) (by first | rfl | assumption) ?_))
  refine Ex.br (fun h2 => ?_) (fun h2 => ?_); rotate_left
  · have h3 : ¬ a + numc c < ts.length := fun z => h2 (by show nI a + nI (numc c) < nI ts.length; rw [nI_add]; exact nI_lt z (by omega))
    have k := k0 (fun z => h3 z.2.1) G nn R (FA.rfl' G)
    (repeat (first | refine Ex.go rfl rfl ?_ | refine Ex.gf rfl rfl (by assumption) (by rfl) (by first | rfl | assumption) ?_))
    refine Ex.retz rfl rfl rfl (Or.inl rfl) ?_
    exact k
  have h3 : a + numc c < ts.length := by
    have h4' : nI a + nI (numc c) < nI ts.length := h2
    rw [nI_add, nI_ltI (by omega) (by omega)] at h4'
    exact h4'
  have loop : ∀ (e i : Nat) (b : Int32) (nn : Nat → Int32) (G1 : bo_G), b = nI i → i + e = numc c → RT G1 lg E fx st sh shs mnI im tp rs nn → FA G G1 → (∀ j, j < i → nn j = tpN ts a j) → Ex (d + 7) mX11_taken (34, [(0, .ref 364), (1, .int (nI a)), (2, .int (nI ts.length)), (3, .int (nI c)), (4, .int b)], [], G1) Q := by
    intro e
    induction e with
    | zero =>
      intro i b nn G1 hb hi R1 F1 hn
      subst hb
      obtain ⟨w1, q1, -⟩ := RT_fs R1
      have hic : i = numc c := by omega
      have en : ∀ k, k < numc c → nn k = tpN ts a k := fun k hk => hn k (by omega)
      obtain ⟨w2, pt, vl, pp, va, pa, wa, RR, hI⟩ := id R1
      have hle := rfs_le (lg := lg) (E := E) (nn := tpN ts a) c hc
      (repeat (first | refine Ex.go rfl rfl ?_ | refine Ex.gf rfl rfl (by assumption) (by rfl) (by first | rfl | assumption) ?_))
      refine Ex.cs1 rfl rfl rfl rfl rfl rfl ?_
      refine r_numbers hc ?_
      (repeat (first | refine Ex.go rfl rfl ?_ | refine Ex.gf rfl rfl (by assumption) (by rfl) (by first | rfl | assumption) ?_))
      refine Ex.br (fun h5 => ?_) (fun h5 => ?_); rotate_left
      · exact absurd (nI_le (show numc c ≤ i by omega) (by omega)) h5
      (repeat (first | refine Ex.go rfl rfl ?_ | refine Ex.gf rfl rfl (by assumption) (by rfl) (by first | rfl | assumption) ?_))
      refine Ex.cv1 rfl rfl rfl (by assumption) (by rfl) (by decide) rfl ?_
      refine r_refusal RR hI rfl rfl hc ?_
      rw [rfs_congr hc en]
      (repeat (first | refine Ex.go rfl rfl ?_ | refine Ex.gf rfl rfl (by assumption) (by rfl) (by first | rfl | assumption) ?_))
      refine Ex.br (fun h6 => ?_) (fun h6 => ?_); rotate_left
      · have hne : ¬ rfs lg E c (tpN ts a) = 0 := fun z => h6 (by rw [z]; decide)
        have k := k0 (fun z => hne z.2.2) G1 nn R1 F1
        (repeat (first | refine Ex.go rfl rfl ?_ | refine Ex.gf rfl rfl (by assumption) (by rfl) (by first | rfl | assumption) ?_))
        refine Ex.retz rfl rfl rfl (Or.inl rfl) ?_
        exact k
      have h7 : rfs lg E c (tpN ts a) = 0 := hle.elim id fun z => absurd h6 (Int32.not_le.mpr z)
      obtain ⟨ok, hE6, -⟩ := WF_N hW hc h7
      have ok' : enOK lg E c nn := ⟨ok.1, fun z1 z2 => by
        obtain ⟨v, x1, x2, x3⟩ := ok.2 z1 z2
        exact ⟨v, x1, (en 0 (nums_pos _)).trans x2, x3⟩⟩
      (repeat (first | refine Ex.go rfl rfl ?_ | refine Ex.gf rfl rfl (by assumption) (by rfl) (by first | rfl | assumption) ?_))
      refine Ex.cv1 rfl rfl rfl q1 (by rfl) (by decide) rfl ?_
      refine r_enter R1 hW.1 (by rw [F1.1]; exact hL) hE6 hc ok' (fun G2 R2 F2 => ?_)
      rw [lgN_congr hc en] at R2
      have k := k1 ⟨h1, h3, h7⟩ G2 nn R2 (F1.trans F2)
      (repeat (first | refine Ex.go rfl rfl ?_ | refine Ex.gf rfl rfl (by assumption) (by rfl) (by first | rfl | assumption) ?_))
      refine Ex.retz rfl rfl rfl (Or.inr rfl) ?_
      exact k
    | succ e ih =>
      intro i b nn G1 hb hi R1 F1 hn
      subst hb
      obtain ⟨w1, q1, -⟩ := RT_fs R1
      obtain ⟨c373, hn4⟩ := RT_n R1
      have c377' : G1[377]? = some (cI 40000 tpf) := by rw [F1.2 _ (by omega)]; exact c377
      (repeat (first | refine Ex.go rfl rfl ?_ | refine Ex.gf rfl rfl (by assumption) (by rfl) (by first | rfl | assumption) ?_))
      refine Ex.cs1 rfl rfl rfl rfl rfl rfl ?_
      refine r_numbers hc ?_
      (repeat (first | refine Ex.go rfl rfl ?_ | refine Ex.gf rfl rfl (by assumption) (by rfl) (by first | rfl | assumption) ?_))
      refine Ex.br (fun h5 => ?_) (fun h5 => ?_)
      · have := (n_ge (a := i) (b := numc c) (by omega) (by omega)).mp h5
        omega
      (repeat (first | refine Ex.go rfl rfl ?_ | refine Ex.gf rfl rfl (by assumption) (by rfl) (by first | rfl | assumption) ?_))
      refine Ex.ialN rfl (show nI a + nI 1 + nI i = nI (a + 1 + i) by rw [nI_add, nI_add]) c377' (by omega) (by omega) ?_
      have ev : tpf (a + 1 + i) = tpN ts a i := by unfold tpN; rw [List.getD_eq_getElem?_getD, ht _ (by omega)]; rfl
      rw [ev]
      refine Ex.iasN rfl (j := i) rfl c373 (by omega) (by omega) ?_
      have nxt := ih (i + 1) _ _ _ (nI_1 i) (by omega) (hn4 (upd nn i (tpN ts a i))) (F1.set (by omega)) (fun j hj => by
        by_cases hji : j = i
        · rw [hji, pk_us]
        · rw [pk_un hji]; exact hn j (by omega))
      (repeat (first | exact nxt | refine Ex.go rfl rfl ?_ | refine Ex.gf rfl rfl (by assumption) (by rfl) (by first | rfl | assumption) ?_))
  have l0 := loop (numc c) 0 _ nn G rfl (by omega) R (FA.rfl' G) (fun j hj => absurd hj (Nat.not_lt_zero _))
  (repeat (first | exact l0 | refine Ex.go rfl rfl ?_ | refine Ex.gf rfl rfl (by assumption) (by rfl) (by first | rfl | assumption) ?_))
end RR
