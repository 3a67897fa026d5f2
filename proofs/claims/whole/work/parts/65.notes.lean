/-! What is noted of a vessel is the log's. -/
def TO (lg : Nat → Int32) (i j : Nat) (T : List Int32) : Prop := T.length = (psl lg i j).length ∧ ∀ p, p < T.length → ∃ t, T[p]? = some t ∧ 0 ≤ t.toInt ∧ t.toInt ≤ (i : Int) ∧ (0 < t.toInt ↔ exi (shdP lg (nI j) (nI p)) i = true)
def VN (lg : Nat → Int32) (i j : Nat) (x : vxT) (K : vkT) : Prop := x = (num lg (vat lg i j) 0, num lg (vat lg i j) 1, num lg (vat lg i j) 2, num lg (vat lg i j) 3, ent lg (vat lg i j), nI (qsl lg i j).length) ∧ K.1 = (psl lg i j).map (fun q => num lg q 1) ∧ K.2.1 = (List.range (psl lg i j).length).map (fun p => sho lg i (nI j) (nI p) 40000 2 1) ∧ K.2.2.1 = (List.range (psl lg i j).length).map (fun p => sho lg i (nI j) (nI p) 40000 4 1) ∧ TO lg i j K.2.2.2.1 ∧ K.2.2.2.2 = (wsl lg i j).map (dyy lg)
section VNs
variable {lg : Nat → Int32} {i j : Nat} {x : vxT} {K : vkT}
theorem shp_s {v p y : Int32} : shp lg (i + 1) v p y = if cod lg i = 3 ∧ num lg i 0 = v ∧ num lg i 1 = p ∧ ent lg i ≤ y then some i else shp lg i v p y := rfl
theorem sho_s {v p y dd : Int32} {m : Nat} (h : ¬ (cod lg i = 3 ∧ num lg i 0 = v ∧ num lg i 1 = p)) : sho lg (i + 1) v p y m dd = sho lg i v p y m dd := by
  unfold sho
  rw [shp_s, if_neg fun z => h ⟨z.1, z.2.1, z.2.2.1⟩]
theorem sho_s1 {v p y dd : Int32} {m : Nat} (h : cod lg i = 3 ∧ num lg i 0 = v ∧ num lg i 1 = p ∧ ent lg i ≤ y) : sho lg (i + 1) v p y m dd = num lg i m := by
  unfold sho
  rw [shp_s, if_pos h]
theorem exi_s {P : Nat → Prop} [DecidablePred P] : exi P (i + 1) = true ↔ exi P i = true ∨ P i := by
  show (exi P i || decide (P i)) = true ↔ _
  rw [Bool.or_eq_true, decide_eq_true_iff]
theorem TO_same (h : TO lg i j K.2.2.2.1) (hp : (psl lg (i + 1) j).length = (psl lg i j).length) (hs : ∀ p, p < (psl lg i j).length → ¬ shdP lg (nI j) (nI p) i) : TO lg (i + 1) j K.2.2.2.1 := by
  refine ⟨h.1.trans hp.symm, fun p hp2 => ?_⟩
  obtain ⟨t, t1, t2, t3, t4⟩ := h.2 p hp2
  refine ⟨t, t1, t2, by omega, t4.trans ?_⟩
  rw [exi_s]
  exact ⟨Or.inl, fun z => z.elim id fun y => absurd y (hs p (by rw [← h.1]; exact hp2))⟩
theorem VN_other (h : VN lg i j x K) (hj : j < (vsl lg i).length) (hno : ¬ ((2 ≤ (cod lg i).toInt ∧ (cod lg i).toInt ≤ 10) ∧ num lg i 0 = nI j)) : VN lg (i + 1) j x K := by
  obtain ⟨h1, h2, h3, h4, h5, h6⟩ := h
  have n : ∀ {c : Int32}, 2 ≤ c.toInt → c.toInt ≤ 10 → ¬ (cod lg i = c ∧ num lg i 0 = nI j) := fun a b z => hno ⟨by rw [z.1]; exact ⟨a, b⟩, z.2⟩
  have ep : psl lg (i + 1) j = psl lg i j := by rw [psl_s, if_neg (n (by decide) (by decide)), List.append_nil]
  have ew : wsl lg (i + 1) j = wsl lg i j := by rw [wsl_s, if_neg (n (by decide) (by decide)), List.append_nil]
  have eq : qsl lg (i + 1) j = qsl lg i j := by rw [qsl_s, if_neg (n (by decide) (by decide)), List.append_nil]
  have ev := (vat_pre (lg := lg) (Nat.le_succ i) hj).1
  have es : ∀ p m dd, sho lg (i + 1) (nI j) p 40000 m dd = sho lg i (nI j) p 40000 m dd := fun p m dd => sho_s fun z => n (by decide) (by decide) ⟨z.1, z.2.1⟩
  refine ⟨by rw [ev, eq]; exact h1, by rw [ep]; exact h2, ?_, ?_, TO_same h5 (by rw [ep]) (fun p _ z => hno ⟨⟨by have := z.1.1; omega, by have := z.1.2; omega⟩, z.2.1⟩), by rw [ew]; exact h6⟩
  · rw [ep, h3]; exact List.map_congr_left fun p _ => (es _ _ _).symm
  · rw [ep, h4]; exact List.map_congr_left fun p _ => (es _ _ _).symm
/-- of a part that isn't there nothing is told -/
theorem no_part (hW : ∀ k, k < i → wfE lg k) (hi : i ≤ 6000) {c : Int32} (hc : 3 ≤ c.toInt ∧ c.toInt ≤ 7) {p k : Nat} (hk : k < i) (hp : (psl lg i j).length ≤ p) (hp2 : p < 2 ^ 31) (hj : j < 2 ^ 31) : ¬ (cod lg k = c ∧ num lg k 0 = nI j ∧ num lg k 1 = nI p) := by
  rintro ⟨h1, h2, h3⟩
  have key : ∃ v, v < (vsl lg k).length ∧ num lg k 0 = nI v ∧ ∃ q, q < (psl lg k v).length ∧ num lg k 1 = nI q := by
    obtain ⟨-, g⟩ := hW k hk
    rcases g with g | g | g | ⟨v, hv, ev, g⟩
    · rw [← h1, g.1] at hc; exact absurd hc.1 (by decide)
    · rw [← h1, g.1] at hc; exact absurd hc.1 (by decide)
    · rw [← h1, g.1] at hc; exact absurd hc.2 (by decide)
    · rcases g with g | g | g | g | ⟨q, hq, eq, g⟩
      · rw [← h1, g.1] at hc; exact absurd hc.1 (by decide)
      · rw [← h1, g.1] at hc; exact absurd hc.2 (by decide)
      · rw [← h1, g.1] at hc; exact absurd hc.2 (by decide)
      · rw [← h1, g.1] at hc; exact absurd hc.2 (by decide)
      · exact ⟨v, hv, ev, q, hq, eq⟩
  obtain ⟨v, hv, ev, q, hq, eq⟩ := key
  have hl := sel_len k fun i => cod lg i == 1
  have hv2 : v < 2 ^ 31 := by unfold vsl at hv; omega
  have e1 : v = j := (nI_eq hv2 hj).mp (ev.symm.trans h2)
  subst e1
  have hl2 := sel_len k fun i => cod lg i == 2 && num lg i 0 == nI v
  have e2 : q = p := (nI_eq (by unfold psl at hq; omega) hp2).mp (eq.symm.trans h3)
  have := (pat_pre (lg := lg) (E := i) (show k ≤ i by omega) hq).2
  omega
theorem sho_new (hW : ∀ k, k < i → wfE lg k) (hi : i ≤ 6000) {p m : Nat} {y dd : Int32} (hp : (psl lg i j).length ≤ p) (hp2 : p < 2 ^ 31) (hj : j < 2 ^ 31) : sho lg i (nI j) (nI p) y m dd = dd := by
  have : shp lg i (nI j) (nI p) y = none := by
    cases hs : shp lg i (nI j) (nI p) y with
    | none => rfl
    | some k =>
      obtain ⟨h1, h2⟩ := lst_lt hs
      exact absurd ⟨h2.1, h2.2.1, h2.2.2.1⟩ (no_part hW hi (c := 3) (by decide) h1 hp hp2 hj)
  unfold sho
  rw [this]
theorem shd_new (hW : ∀ k, k < i → wfE lg k) (hi : i ≤ 6000) {p : Nat} (hp : (psl lg i j).length ≤ p) (hp2 : p < 2 ^ 31) (hj : j < 2 ^ 31) : ¬ exi (shdP lg (nI j) (nI p)) i = true := exi_not fun k hk z => no_part hW hi (c := cod lg k) ⟨by have := z.1.1; omega, z.1.2⟩ hk hp hp2 hj ⟨rfl, z.2.1, z.2.2⟩
theorem put_map {f g : Nat → Int32} {n p : Nat} {v : Int32} (hp : p < n) (hn : n < 2 ^ 31) (hf : ∀ q, q < n → g q = if q = p then v else f q) : bo_put ((List.range n).map f) (nI p) v = (List.range n).map g := by
  unfold bo_put
  rw [if_pos (nI_pos' (by omega)), nI_clamp (by omega)]
  apply List.ext_getElem?
  intro q
  rw [List.getElem?_set]
  by_cases hq : q < n
  · by_cases hqp : p = q
    · rw [if_pos hqp, if_pos (by simp; omega), List.getElem?_map, List.getElem?_range hq]
      show some v = some (g q)
      rw [hf q hq, if_pos hqp.symm]
    · rw [if_neg hqp, List.getElem?_map, List.getElem?_map, List.getElem?_range hq]
      show some (f q) = some (g q)
      rw [hf q hq, if_neg fun z => hqp z.symm]
  · have h1 : ¬ p = q := by omega
    rw [if_neg h1, List.getElem?_eq_none (by simp; omega), List.getElem?_eq_none (by simp; omega)]
theorem VN_step {c : Nat} (hW : ∀ k, k < i → wfE lg k) (hWi : wfE lg i) (hi : i < 6000) (hc2 : 2 ≤ c) (hc : c ≤ 10) (hcc : cod lg i = nI c) (hn0 : num lg i 0 = nI j) (hj : j < (vsl lg i).length) (h : VN lg i j x K) : VN lg (i + 1) j (noteX (nI c) x) (noteK (nI c) (num lg i 1) (num lg i 2) (num lg i 3) (num lg i 4) K) := by
  obtain ⟨h1, h2, h3, h4, h5, h6⟩ := h
  have hl := sel_len i fun i => cod lg i == 1
  have hj2 : j < 2 ^ 31 := by unfold vsl at hj; omega
  have hlp := sel_len i fun i => cod lg i == 2 && num lg i 0 == nI j
  have hlen : (psl lg i j).length ≤ 6000 := by unfold psl; omega
  have hqn : (qsl lg i j).length ≤ i := sel_len i _
  have ev := (vat_pre (lg := lg) (Nat.le_succ i) hj).1
  have cl : ∀ {k : Nat}, k < 12 → cod lg i = nI k → c = k := fun hk hz => (nI_eq (by omega) (by omega)).mp (hcc.symm.trans hz)
  have ent4 : ent lg i ≤ 40000 := by
    rw [hWi.1]
    exact Int32.le_iff_toInt_le.mpr (by rw [k40]; exact (tdy_rng hW).2)
  have ne : ∀ {k : Nat}, k < 12 → ¬ c = k → ¬ cod lg i = nI k := fun hk hz z => hz (cl hk z)
  -- what the code's own vessel is
  have vj : ∀ {v : Nat}, v < (vsl lg i).length → num lg i 0 = nI v → v = j := fun hv e => (nI_eq (by unfold vsl at hv; omega) hj2).mp (e.symm.trans hn0)
  have ep : ¬ c = 2 → psl lg (i + 1) j = psl lg i j := fun z => by rw [psl_s, if_neg fun y => ne (k := 2) (by omega) z y.1, List.append_nil]
  have ew : ¬ c = 8 → wsl lg (i + 1) j = wsl lg i j := fun z => by rw [wsl_s, if_neg fun y => ne (k := 8) (by omega) z y.1, List.append_nil]
  have eq : ¬ c = 10 → qsl lg (i + 1) j = qsl lg i j := fun z => by rw [qsl_s, if_neg fun y => ne (k := 10) (by omega) z y.1, List.append_nil]
  have es : ¬ c = 3 → ∀ p m dd, sho lg (i + 1) (nI j) p 40000 m dd = sho lg i (nI j) p 40000 m dd := fun z p m dd => sho_s fun y => ne (k := 3) (by omega) z y.1
  have nsh : (c = 2 ∨ c = 3 ∨ 8 ≤ c) → ∀ p, ¬ shdP lg (nI j) p i := fun z p y => by
    have := y.1
    rw [hcc, nI_toInt (by omega)] at this
    omega
  have plain : ¬ c = 2 → ¬ c = 3 → (c = 8 ∨ c = 9 ∨ c = 10) → K.1 = (psl lg (i + 1) j).map (fun q => num lg q 1) ∧ K.2.1 = (List.range (psl lg (i + 1) j).length).map (fun p => sho lg (i + 1) (nI j) (nI p) 40000 2 1) ∧ K.2.2.1 = (List.range (psl lg (i + 1) j).length).map (fun p => sho lg (i + 1) (nI j) (nI p) 40000 4 1) ∧ TO lg (i + 1) j K.2.2.2.1 := by
    intro z2 z3 z8
    refine ⟨by rw [ep z2]; exact h2, ?_, ?_, TO_same h5 (by rw [ep z2]) fun p _ => nsh (by omega) _⟩
    · rw [ep z2, h3]; exact List.map_congr_left fun p _ => (es z3 _ _ _).symm
    · rw [ep z2, h4]; exact List.map_congr_left fun p _ => (es z3 _ _ _).symm
  -- a part's own
  have prt : 3 ≤ c → c ≤ 7 → ∃ p, p < (psl lg i j).length ∧ num lg i 1 = nI p := by
    intro z3 z7
    obtain ⟨-, g⟩ := hWi
    rcases g with g | g | g | ⟨v, hv, e, g⟩
    · have := cl (k := 0) (by omega) g.1; omega
    · have := cl (k := 1) (by omega) g.1; omega
    · have := cl (k := 11) (by omega) g.1; omega
    · rcases g with g | g | g | g | ⟨p, hp, ep, g⟩
      · have := cl (k := 2) (by omega) g.1; omega
      · have := cl (k := 8) (by omega) g.1; omega
      · have := cl (k := 9) (by omega) g.1; omega
      · have := cl (k := 10) (by omega) g.1; omega
      · exact ⟨p, by rw [← vj hv e]; exact hp, ep⟩
  have touch : 4 ≤ c → c ≤ 7 → VN lg (i + 1) j x (K.1, K.2.1, K.2.2.1, bo_put K.2.2.2.1 (num lg i 1) (bo_at K.2.2.2.1 (num lg i 1) + 1), K.2.2.2.2) := by
    intro z4 z7
    obtain ⟨p, hp, e1⟩ := prt (by omega) z7
    have z2 : ¬ c = 2 := by omega
    refine ⟨by rw [ev, eq (by omega)]; exact h1, by rw [ep z2]; exact h2, ?_, ?_, ?_, by rw [ew (by omega)]; exact h6⟩
    · rw [ep z2]; show K.2.1 = _; rw [h3]; exact List.map_congr_left fun p _ => (es (by omega) _ _ _).symm
    · rw [ep z2]; show K.2.2.1 = _; rw [h4]; exact List.map_congr_left fun p _ => (es (by omega) _ _ _).symm
    · show TO lg (i + 1) j (bo_put K.2.2.2.1 (num lg i 1) (bo_at K.2.2.2.1 (num lg i 1) + 1))
      obtain ⟨hT, hTt⟩ := h5
      obtain ⟨tp, tp1, tp2, tp3, -⟩ := hTt p (by omega)
      have eat : bo_at K.2.2.2.1 (nI p) = tp := by
        unfold bo_at
        rw [if_pos (nI_pos' (by omega)), nI_clamp (by omega), List.getD_eq_getElem?_getD, tp1]
        rfl
      rw [e1, eat]
      have eput : bo_put K.2.2.2.1 (nI p) (tp + 1) = K.2.2.2.1.set p (tp + 1) := by
        unfold bo_put
        rw [if_pos (nI_pos' (by omega)), nI_clamp (by omega)]
      have etp : (tp + 1).toInt = tp.toInt + 1 := z_add rfl rfl (by omega)
      rw [eput]
      refine ⟨by rw [List.length_set, ep z2]; exact hT, fun q hq => ?_⟩
      rw [List.length_set] at hq
      by_cases hqp : p = q
      · subst hqp
        refine ⟨tp + 1, List.getElem?_set_self hq, by omega, by omega, ?_⟩
        rw [exi_s]
        refine ⟨fun _ => Or.inr ⟨?_, hn0, e1⟩, fun _ => by omega⟩
        rw [hcc, nI_toInt (by omega)]
        omega
      · obtain ⟨t, t1, t2, t3, t4⟩ := hTt q hq
        refine ⟨t, by rw [List.getElem?_set_ne hqp]; exact t1, t2, by omega, t4.trans ?_⟩
        rw [exi_s]
        refine ⟨Or.inl, fun z => z.elim id fun y => ?_⟩
        exact absurd ((nI_eq (by omega) (by omega)).mp (e1.symm.trans y.2.2)) hqp
  match c, hc2, hc with
  | 2, _, _ =>
    obtain ⟨v, hv, e, w⟩ := wf_c2 hWi hcc
    have w24 := w.2.2.2.2.2.2.2
    rw [vj hv e] at w24
    have ep2 : psl lg (i + 1) j = psl lg i j ++ [i] := by rw [psl_s, if_pos ⟨hcc, hn0⟩]
    have es2 := es (by omega)
    have ea : ∀ {xs : List Int32} {v : Int32}, xs.length = (psl lg i j).length → bo_add 24 xs v = xs ++ [v] := fun hx => if_pos (by rw [hx]; exact w24)
    show VN lg (i + 1) j x (bo_add 24 K.1 (num lg i 1), bo_add 24 K.2.1 1, bo_add 24 K.2.2.1 1, bo_add 24 K.2.2.2.1 0, K.2.2.2.2)
    rw [ea (by rw [h2]; simp), ea (by rw [h3]; simp), ea (by rw [h4]; simp), ea h5.1]
    refine ⟨by rw [ev, eq (by omega)]; exact h1, ?_, ?_, ?_, ?_, by rw [ew (by omega)]; exact h6⟩
    · show K.1 ++ [num lg i 1] = _; rw [ep2, List.map_append, h2]; rfl
    · show K.2.1 ++ [1] = _
      rw [ep2, List.length_append, h3]
      show _ = (List.range ((psl lg i j).length + 1)).map _
      rw [range_map, es2, sho_new hW (by omega) (Nat.le_refl _) (by omega) hj2]
      congr 1
      exact List.map_congr_left fun p _ => (es2 _ _ _).symm
    · show K.2.2.1 ++ [1] = _
      rw [ep2, List.length_append, h4]
      show _ = (List.range ((psl lg i j).length + 1)).map _
      rw [range_map, es2, sho_new hW (by omega) (Nat.le_refl _) (by omega) hj2]
      congr 1
      exact List.map_congr_left fun p _ => (es2 _ _ _).symm
    · show TO lg (i + 1) j (K.2.2.2.1 ++ [0])
      obtain ⟨hT, hTt⟩ := h5
      refine ⟨by rw [ep2, List.length_append, List.length_append, hT]; rfl, fun p hp => ?_⟩
      rw [List.length_append] at hp
      by_cases hpT : p < K.2.2.2.1.length
      · obtain ⟨t, t1, t2, t3, t4⟩ := hTt p hpT
        refine ⟨t, by rw [List.getElem?_append_left hpT]; exact t1, t2, by omega, t4.trans ?_⟩
        rw [exi_s]
        exact ⟨Or.inl, fun z => z.elim id fun y => absurd y (nsh (by omega) _)⟩
      · have hpe : p = K.2.2.2.1.length := by simp at hp; omega
        refine ⟨0, by rw [hpe, List.getElem?_append_right (Nat.le_refl _), Nat.sub_self]; rfl, by decide, by show (0 : Int) ≤ _; omega, ?_⟩
        refine ⟨fun z => absurd z (by decide), fun z => ?_⟩
        rw [exi_s] at z
        exact z.elim (fun y => absurd y (shd_new hW (by omega) (by rw [hpe, hT]; exact Nat.le_refl _) (by omega) hj2)) (fun y => absurd y (nsh (by omega) _))
  | 3, _, _ =>
    obtain ⟨p, hp, e1⟩ := prt (by omega) (by omega)
    have e3 : ∀ q m dd, q < (psl lg i j).length → sho lg (i + 1) (nI j) (nI q) 40000 m dd = if q = p then num lg i m else sho lg i (nI j) (nI q) 40000 m dd := fun q m dd hq => by
      by_cases hqp : q = p
      · rw [if_pos hqp, hqp]; exact sho_s1 ⟨hcc, hn0, e1, ent4⟩
      · rw [if_neg hqp]; exact sho_s fun z => hqp ((nI_eq (by omega) (by omega)).mp (z.2.2.symm.trans e1))
    show VN lg (i + 1) j x (K.1, bo_put K.2.1 (num lg i 1) (num lg i 2), bo_put K.2.2.1 (num lg i 1) (num lg i 4), K.2.2.2.1, K.2.2.2.2)
    rw [e1]
    refine ⟨by rw [ev, eq (by omega)]; exact h1, by rw [ep (by omega)]; exact h2, ?_, ?_, TO_same h5 (by rw [ep (by omega)]) fun p _ => nsh (by omega) _, by rw [ew (by omega)]; exact h6⟩
    · show bo_put K.2.1 (nI p) (num lg i 2) = _
      rw [ep (by omega), h3]
      exact put_map hp (by omega) fun q hq => e3 q 2 1 hq
    · show bo_put K.2.2.1 (nI p) (num lg i 4) = _
      rw [ep (by omega), h4]
      exact put_map hp (by omega) fun q hq => e3 q 4 1 hq
  | 4, _, _ => exact touch (by omega) (by omega)
  | 5, _, _ => exact touch (by omega) (by omega)
  | 6, _, _ => exact touch (by omega) (by omega)
  | 7, _, _ => exact touch (by omega) (by omega)
  | 8, _, _ =>
    obtain ⟨v, hv, e, w⟩ := wf_c8 hWi hcc
    have w6 := w.2.2.2.2.2
    rw [vj hv e] at w6
    obtain ⟨p1, p2, p3, p4⟩ := plain (by omega) (by omega) (Or.inl rfl)
    show VN lg (i + 1) j x (K.1, K.2.1, K.2.2.1, K.2.2.2.1, bo_add 6 K.2.2.2.2 (num lg i 3))
    refine ⟨by rw [ev, eq (by omega)]; exact h1, p1, p2, p3, p4, ?_⟩
    show bo_add 6 K.2.2.2.2 (num lg i 3) = _
    have ew8 : wsl lg (i + 1) j = wsl lg i j ++ [i] := by rw [wsl_s, if_pos ⟨hcc, hn0⟩]
    rw [ew8, List.map_append, ← h6]
    unfold bo_add
    rw [if_pos (by rw [h6, List.length_map]; exact w6), ← w.2.2.2.2.1]
    rfl
  | 9, _, _ =>
    obtain ⟨p1, p2, p3, p4⟩ := plain (by omega) (by omega) (by omega)
    exact ⟨by rw [ev, eq (by omega)]; exact h1, p1, p2, p3, p4, by rw [ew (by omega)]; exact h6⟩
  | 10, _, _ =>
    obtain ⟨p1, p2, p3, p4⟩ := plain (by omega) (by omega) (by omega)
    show VN lg (i + 1) j (x.1, x.2.1, x.2.2.1, x.2.2.2.1, x.2.2.2.2.1, x.2.2.2.2.2 + 1) K
    refine ⟨?_, p1, p2, p3, p4, by rw [ew (by omega)]; exact h6⟩
    have eq10 : qsl lg (i + 1) j = qsl lg i j ++ [i] := by rw [qsl_s, if_pos ⟨hcc, hn0⟩]
    rw [ev, eq10, List.length_append, h1]
    show (_, _, _, _, _, nI (qsl lg i j).length + 1) = _
    rw [nI_1]
    rfl
  | c + 11, _, z => exact absurd z (by omega)
/-- a vessel just entered -/
theorem VN_new (hW : ∀ k, k < i → wfE lg k) (hi : i < 6000) (hcc : cod lg i = 1) (hj : j = (vsl lg i).length) : VN lg (i + 1) j (num lg i 0, num lg i 1, num lg i 2, num lg i 3, ent lg i, 0) ([], [], [], [], []) := by
  have hl := sel_len i fun i => cod lg i == 1
  have hj2 : j < 2 ^ 31 := by rw [hj]; unfold vsl; omega
  obtain ⟨n1, n2, n3⟩ := none_there hW (by omega) (show (vsl lg i).length ≤ j by omega) hj2
  have ne : ∀ {k : Int32}, ¬ k = 1 → ¬ cod lg i = k := fun hk z => hk (z.symm.trans hcc)
  have ep : psl lg (i + 1) j = [] := by rw [psl_s, if_neg fun y => ne (by decide) y.1, n1]; rfl
  have ew : wsl lg (i + 1) j = [] := by rw [wsl_s, if_neg fun y => ne (by decide) y.1, n2]; rfl
  have eq : qsl lg (i + 1) j = [] := by rw [qsl_s, if_neg fun y => ne (by decide) y.1, n3]; rfl
  have ev : vat lg (i + 1) j = i := by
    unfold vat
    rw [vsl_s, if_pos hcc, hj, List.getElem?_append_right (Nat.le_refl _), Nat.sub_self]
    rfl
  refine ⟨by rw [ev, eq]; rfl, by rw [ep]; rfl, by rw [ep]; rfl, by rw [ep]; rfl, ⟨by rw [ep]; rfl, fun p hp => absurd hp (Nat.not_lt_zero _)⟩, by rw [ew]; rfl⟩
theorem VN.VL (h : VN lg i j x K) (hW : ∀ k, k < i → wfE lg k) (hi : i ≤ 6000) (hj : j < 2 ^ 31) : VL K := by
  obtain ⟨-, h2, h3, h4, h5, h6⟩ := h
  have a := psl_le hW hi hj
  have b := wsl_le hW hi hj
  refine ⟨by rw [h2, List.length_map]; exact a, by rw [h3]; simp; exact a, by rw [h4]; simp; exact a, by rw [h5.1]; exact a, by rw [h6, List.length_map]; exact b⟩
theorem VN_lgE {lg' : Nat → Int32} (h : lgE lg lg' i) (hj : j < (vsl lg i).length) (v : VN lg i j x K) : VN lg' i j x K := by
  obtain ⟨h1, h2, h3, h4, h5, h6⟩ := v
  have ev := vat_E (v := j) h (Nat.le_refl i)
  have el := vat_lt hj
  refine ⟨?_, ?_, ?_, ?_, ?_, ?_⟩
  · rw [ev, lgE_num h el (by omega), lgE_num h el (by omega), lgE_num h el (by omega), lgE_num h el (by omega), lgE_ent h el, qsl_E h (Nat.le_refl i)]; exact h1
  · rw [psl_E h (Nat.le_refl i), h2]
    exact List.map_congr_left fun q hq => (lgE_num h (sel_mem.mp hq).1 (by omega)).symm
  · rw [psl_E h (Nat.le_refl i), h3]
    exact List.map_congr_left fun p _ => (sho_E h (Nat.le_refl i) (by omega)).symm
  · rw [psl_E h (Nat.le_refl i), h4]
    exact List.map_congr_left fun p _ => (sho_E h (Nat.le_refl i) (by omega)).symm
  · obtain ⟨a, b⟩ := h5
    refine ⟨by rw [psl_E h (Nat.le_refl i)]; exact a, fun p hp => ?_⟩
    obtain ⟨t, t1, t2, t3, t4⟩ := b p hp
    exact ⟨t, t1, t2, t3, t4.trans (shd_E h (Nat.le_refl i)).symm⟩
  · rw [wsl_E h (Nat.le_refl i), h6]
    exact List.map_congr_left fun q hq => (lgE_dyy h (sel_mem.mp hq).1).symm
end VNs
