/-! The log with one entry more: its lists. -/
theorem c_is {c k : Nat} (hc : c < 12) (hk : k < 12) : ((nI c == nI k) = true) ↔ c = k := by
  rw [beq_iff_eq]
  exact nI_eq (by omega) (by omega)
theorem nums_pos (c : Int32) : 0 < nums c := by unfold nums; repeat (first | split | omega)
section LN
variable {lg lg' : Nat → Int32} {E c i v p : Nat} {nn : Nat → Int32}
theorem lgN_E : lgE lg (lgN lg E c nn) E := lgw_E
theorem lgN_cod : cod (lgN lg E c nn) E = nI c := lgw_cod
theorem lgN_ent : ent (lgN lg E c nn) E = tdy lg E := lgw_ent
theorem lgN_dyy : dyy (lgN lg E c nn) E = dofI lg E c nn := lgw_dyy
theorem lgN_num {k : Nat} (hk : k < nums (nI c)) : num (lgN lg E c nn) E k = nn k := by
  have := nums_le (nI c)
  exact (lgw_num (show k < 15 by omega)).trans (if_pos hk)
theorem lgN_num0 : num (lgN lg E c nn) E 0 = nn 0 := lgN_num (nums_pos _)
theorem vsl_E (h : lgE lg lg' E) (hi : i ≤ E) : vsl lg' i = vsl lg i := sel_congr fun j hj => by rw [lgE_cod h (show j < E by omega)]
theorem psl_E (h : lgE lg lg' E) (hi : i ≤ E) : psl lg' i v = psl lg i v := sel_congr fun j hj => by rw [lgE_cod h (show j < E by omega), lgE_num h (show j < E by omega) (by omega)]
theorem wsl_E (h : lgE lg lg' E) (hi : i ≤ E) : wsl lg' i v = wsl lg i v := sel_congr fun j hj => by rw [lgE_cod h (show j < E by omega), lgE_num h (show j < E by omega) (by omega)]
theorem qsl_E (h : lgE lg lg' E) (hi : i ≤ E) : qsl lg' i v = qsl lg i v := sel_congr fun j hj => by rw [lgE_cod h (show j < E by omega), lgE_num h (show j < E by omega) (by omega)]
theorem rsl_E (h : lgE lg lg' E) (hi : i ≤ E) : rsl lg' i = rsl lg i := sel_congr fun j hj => by rw [lgE_cod h (show j < E by omega)]
theorem osl_E (h : lgE lg lg' E) (hi : i ≤ E) : osl lg' i = osl lg i := sel_congr fun j hj => by rw [lgE_cod h (show j < E by omega)]
theorem acl_E (h : lgE lg lg' E) (hi : i ≤ E) : acl lg' i = acl lg i := sel_congr fun j hj => by rw [lgE_cod h (show j < E by omega)]
theorem vat_E (h : lgE lg lg' E) (hi : i ≤ E) : vat lg' i v = vat lg i v := by unfold vat; rw [vsl_E h hi]
theorem pat_E (h : lgE lg lg' E) (hi : i ≤ E) : pat lg' i v p = pat lg i v p := by unfold pat; rw [psl_E h hi]
theorem wat_E (h : lgE lg lg' E) (hi : i ≤ E) : wat lg' i v p = wat lg i v p := by unfold wat; rw [wsl_E h hi]
theorem tdy_E (h : lgE lg lg' E) : ∀ {i : Nat}, i ≤ E → tdy lg' i = tdy lg i := by
  intro i
  induction i with
  | zero => intro _; rfl
  | succ i ih =>
    intro hi
    show (if cod lg' i = 0 then num lg' i 0 else tdy lg' i) = if cod lg i = 0 then num lg i 0 else tdy lg i
    rw [lgE_cod h (show i < E by omega), lgE_num h (show i < E by omega) (by omega), ih (by omega)]
theorem lst_congr {P R : Nat → Prop} [DecidablePred P] [DecidablePred R] : ∀ {n : Nat}, (∀ i, i < n → (P i ↔ R i)) → lst P n = lst R n := by
  intro n
  induction n with
  | zero => intro _; rfl
  | succ n ih =>
    intro h
    show (if P n then some n else lst P n) = if R n then some n else lst R n
    rw [ih fun i hi => h i (by omega)]
    by_cases hp : P n
    · rw [if_pos hp, if_pos ((h n (by omega)).mp hp)]
    · rw [if_neg hp, if_neg fun z => hp ((h n (by omega)).mpr z)]
theorem exi_congr {P R : Nat → Prop} [DecidablePred P] [DecidablePred R] {n : Nat} (h : ∀ i, i < n → (P i ↔ R i)) : (exi P n = true ↔ exi R n = true) := by
  rw [exi_iff, exi_iff]
  exact ⟨fun ⟨i, h1, h2⟩ => ⟨i, h1, (h i h1).mp h2⟩, fun ⟨i, h1, h2⟩ => ⟨i, h1, (h i h1).mpr h2⟩⟩
theorem shp_E {v p k : Int32} (h : lgE lg lg' E) (hi : i ≤ E) : shp lg' i v p k = shp lg i v p k := lst_congr fun j hj => by rw [lgE_cod h (show j < E by omega), lgE_num h (show j < E by omega) (by omega), lgE_num h (show j < E by omega) (by omega), lgE_ent h (show j < E by omega)]
theorem sho_E {v p k dd : Int32} {j : Nat} (h : lgE lg lg' E) (hi : i ≤ E) (hj : j < 15) : sho lg' i v p k j dd = sho lg i v p k j dd := by
  unfold sho
  rw [shp_E h hi]
  cases hs : shp lg i v p k with
  | none => rfl
  | some q => exact lgE_num h (by have := shp_lt hs; omega) hj
theorem shd_E {v p : Int32} (h : lgE lg lg' E) (hi : i ≤ E) : exi (shdP lg' v p) i = true ↔ exi (shdP lg v p) i = true := exi_congr fun j hj => by
  unfold shdP
  rw [lgE_cod h (show j < E by omega), lgE_num h (show j < E by omega) (by omega), lgE_num h (show j < E by omega) (by omega)]
theorem dok_E {x : Int32} (h : lgE lg lg' E) (hi : i ≤ E) (hv : v < (vsl lg i).length) : dok lg' i v x ↔ dok lg i v x := by
  unfold dok rng
  rw [tdy_E h hi, vat_E h hi, lgE_dyy h (show vat lg i v < E by have := vat_lt hv; omega)]
theorem tbk_E (h : lgE lg lg' E) (hi : i ≤ E) (hp : p < (psl lg i v).length) : tbk lg' i v p ↔ tbk lg i v p := by
  unfold tbk
  rw [pat_E h hi, lgE_num h (show pat lg i v p < E by have := pat_lt hp; omega) (by omega)]
theorem wfE_E (h : lgE lg lg' E) (hi : i < E) (hw : wfE lg i) : wfE lg' i := by
  have e0 := lgE_cod h hi
  have e1 := lgE_ent h hi
  have e2 := lgE_dyy h hi
  have e3 : ∀ k, k < 15 → num lg' i k = num lg i k := fun k hk => lgE_num h hi hk
  have e4 := tdy_E h (show i ≤ E by omega)
  have e5 := vsl_E h (show i ≤ E by omega)
  have e6 : ∀ v, psl lg' i v = psl lg i v := fun v => psl_E h (show i ≤ E by omega)
  have e7 : ∀ v, wsl lg' i v = wsl lg i v := fun v => wsl_E h (show i ≤ E by omega)
  have e8 : ∀ v, v < (vsl lg i).length → dyy lg' (vat lg' i v) = dyy lg (vat lg i v) := fun v hv => by rw [vat_E h (show i ≤ E by omega), lgE_dyy h (show vat lg i v < E by have := vat_lt hv; omega)]
  obtain ⟨w1, w2⟩ := hw
  refine ⟨by rw [e1, e4]; exact w1, ?_⟩
  rcases w2 with ⟨q0, q1, q2⟩ | ⟨q0, q1, q2, q3, q4, q5⟩ | ⟨q0, q1, q2, q3, q4⟩ | ⟨v, hv, ev, w2⟩
  · refine Or.inl ⟨by rw [e0]; exact q0, by rw [e3 0 (by omega), e4]; exact q1, by rw [e2]; exact q2⟩
  · refine Or.inr (Or.inl ⟨by rw [e0]; exact q0, by rw [e3 0 (by omega)]; exact q1, by rw [e3 1 (by omega)]; exact q2, by rw [e3 2 (by omega)]; exact q3, by rw [e3 3 (by omega), e4]; exact q4, by rw [e3 3 (by omega), e2]; exact q5⟩)
  · refine Or.inr (Or.inr (Or.inl ⟨by rw [e0]; exact q0, by rw [e3 0 (by omega)]; exact q1, by rw [e3 1 (by omega)]; exact q2, by rw [e3 2 (by omega)]; exact q3, by rw [e2]; exact q4⟩))
  · refine Or.inr (Or.inr (Or.inr ⟨v, by rw [e5]; exact hv, by rw [e3 0 (by omega)]; exact ev, ?_⟩))
    have ed : ∀ x, dok lg' i v x ↔ dok lg i v x := fun x => dok_E h (by omega) hv
    rcases w2 with ⟨q0, q1, q2, q3, q4, q5, q6, q7⟩ | ⟨q0, q1, q2, q3, q4, q5⟩ | ⟨q0, u, hu, q1, q2, q3, q4, q5⟩ | ⟨q0, q1, q2, q3, q4, q5⟩ | ⟨p, hp, ep, w2⟩
    · exact Or.inl ⟨by rw [e0]; exact q0, by rw [e3 1 (by omega)]; exact q1, by rw [e3 2 (by omega)]; exact q2, by rw [e3 3 (by omega)]; exact q3, by rw [e3 4 (by omega)]; exact q4, by rw [e3 5 (by omega)]; exact q5, by rw [e2, e8 v hv]; exact q6, by rw [e6]; exact q7⟩
    · exact Or.inr (Or.inl ⟨by rw [e0]; exact q0, by rw [e3 1 (by omega)]; exact q1, by rw [e3 2 (by omega)]; exact q2, by rw [e3 3 (by omega)]; exact (ed _).mpr q3, by rw [e2, e3 3 (by omega)]; exact q4, by rw [e7]; exact q5⟩)
    · exact Or.inr (Or.inr (Or.inl ⟨by rw [e0]; exact q0, u, by rw [e7]; exact hu, by rw [e3 1 (by omega)]; exact q1, by rw [e3 2 (by omega)]; exact q2, by rw [e3 3 (by omega)]; exact (ed _).mpr q3, by rw [e3 3 (by omega), wat_E h (by omega), lgE_dyy h (show wat lg i v u < E by have := wat_lt hu; omega)]; exact q4, by rw [e2, e3 3 (by omega)]; exact q5⟩))
    · exact Or.inr (Or.inr (Or.inr (Or.inl ⟨by rw [e0]; exact q0, by rw [e3 1 (by omega)]; exact q1, by rw [e3 2 (by omega)]; exact q2, by rw [e3 3 (by omega)]; exact q3, by rw [e3 4 (by omega)]; exact (ed _).mpr q4, by rw [e2, e3 4 (by omega)]; exact q5⟩)))
    · refine Or.inr (Or.inr (Or.inr (Or.inr ⟨p, by rw [e6]; exact hp, by rw [e3 1 (by omega)]; exact ep, ?_⟩)))
      have et := tbk_E h (show i ≤ E by omega) hp
      rcases w2 with ⟨q0, q1, q2, q3, q4, q5, q6⟩ | ⟨q0, q1, q2, q3⟩ | ⟨q0, q1, q2, q3, q4, q5⟩ | ⟨q0, q1, q2, q3⟩ | ⟨q0, q1, q2, q3, q4⟩
      · exact Or.inl ⟨by rw [e0]; exact q0, by rw [e3 2 (by omega)]; exact q1, by rw [e3 3 (by omega)]; exact q2, by rw [e3 4 (by omega)]; exact q3, by rw [e3 4 (by omega), et]; exact q4, by rw [e2, e8 v hv]; exact q5, fun z => q6 ((shd_E h (by omega)).mp z)⟩
      · exact Or.inr (Or.inl ⟨by rw [e0]; exact q0, by rw [e3 2 (by omega)]; exact (ed _).mpr q1, by rw [e2, e3 2 (by omega)]; exact q2, fun k hk => by rw [e3 (3 + k) (by omega), sho_E h (by omega) (by omega)]; exact q3 k hk⟩)
      · exact Or.inr (Or.inr (Or.inl ⟨by rw [e0]; exact q0, by rw [e3 2 (by omega)]; exact q1, by rw [e3 3 (by omega)]; exact q2, by rw [e3 4 (by omega)]; exact q3, by rw [e3 5 (by omega)]; exact (ed _).mpr q4, by rw [e2, e3 5 (by omega)]; exact q5⟩))
      · exact Or.inr (Or.inr (Or.inr (Or.inl ⟨by rw [e0]; exact q0, by rw [e3 2 (by omega)]; exact q1, by rw [e3 3 (by omega)]; exact (ed _).mpr q2, by rw [e2, e3 3 (by omega)]; exact q3⟩)))
      · exact Or.inr (Or.inr (Or.inr (Or.inr ⟨by rw [e0]; exact q0, et.mpr q1, by rw [e3 2 (by omega), sho_E h (by omega) (by omega)]; exact q2, by rw [e3 3 (by omega)]; exact (ed _).mpr q3, by rw [e2, e3 3 (by omega)]; exact q4⟩)))
-- the lists behind one entry more
theorem vsl_N (hc : c < 12) : vsl (lgN lg E c nn) (E + 1) = vsl lg E ++ (if c = 1 then [E] else []) := by
  rw [← vsl_E (lgN_E (lg := lg) (c := c) (nn := nn)) (Nat.le_refl E)]
  refine (sel_s E _).trans ?_
  congr 1
  rw [lgN_cod]
  by_cases h : c = 1
  · rw [if_pos h, if_pos (show (nI c == 1) = true from (c_is hc (k := 1) (by omega)).mpr h)]
  · rw [if_neg h, if_neg (show ¬ (nI c == 1) = true from fun z => h ((c_is hc (k := 1) (by omega)).mp z))]
theorem two_N {k : Nat} (hc : c < 12) (hk : k < 12) : ((nI c == nI k && nn 0 == nI v) = true) ↔ c = k ∧ nn 0 = nI v := by
  rw [Bool.and_eq_true, c_is hc hk, beq_iff_eq]
theorem psl_N (hc : c < 12) : psl (lgN lg E c nn) (E + 1) v = psl lg E v ++ (if c = 2 ∧ nn 0 = nI v then [E] else []) := by
  rw [← psl_E (lgN_E (lg := lg) (c := c) (nn := nn)) (Nat.le_refl E)]
  refine (sel_s E _).trans ?_
  congr 1
  rw [lgN_cod, lgN_num0]
  by_cases h : c = 2 ∧ nn 0 = nI v
  · rw [if_pos h, if_pos (show (nI c == 2 && nn 0 == nI v) = true from (two_N hc (k := 2) (by omega)).mpr h)]
  · rw [if_neg h, if_neg (show ¬ (nI c == 2 && nn 0 == nI v) = true from fun z => h ((two_N hc (k := 2) (by omega)).mp z))]
theorem wsl_N (hc : c < 12) : wsl (lgN lg E c nn) (E + 1) v = wsl lg E v ++ (if c = 8 ∧ nn 0 = nI v then [E] else []) := by
  rw [← wsl_E (lgN_E (lg := lg) (c := c) (nn := nn)) (Nat.le_refl E)]
  refine (sel_s E _).trans ?_
  congr 1
  rw [lgN_cod, lgN_num0]
  by_cases h : c = 8 ∧ nn 0 = nI v
  · rw [if_pos h, if_pos (show (nI c == 8 && nn 0 == nI v) = true from (two_N hc (k := 8) (by omega)).mpr h)]
  · rw [if_neg h, if_neg (show ¬ (nI c == 8 && nn 0 == nI v) = true from fun z => h ((two_N hc (k := 8) (by omega)).mp z))]
theorem qsl_N (hc : c < 12) : qsl (lgN lg E c nn) (E + 1) v = qsl lg E v ++ (if c = 10 ∧ nn 0 = nI v then [E] else []) := by
  rw [← qsl_E (lgN_E (lg := lg) (c := c) (nn := nn)) (Nat.le_refl E)]
  refine (sel_s E _).trans ?_
  congr 1
  rw [lgN_cod, lgN_num0]
  by_cases h : c = 10 ∧ nn 0 = nI v
  · rw [if_pos h, if_pos (show (nI c == 10 && nn 0 == nI v) = true from (two_N hc (k := 10) (by omega)).mpr h)]
  · rw [if_neg h, if_neg (show ¬ (nI c == 10 && nn 0 == nI v) = true from fun z => h ((two_N hc (k := 10) (by omega)).mp z))]
theorem rsl_N (hc : c < 12) : rsl (lgN lg E c nn) (E + 1) = rsl lg E ++ (if c = 11 then [E] else []) := by
  rw [← rsl_E (lgN_E (lg := lg) (c := c) (nn := nn)) (Nat.le_refl E)]
  refine (sel_s E _).trans ?_
  congr 1
  rw [lgN_cod]
  by_cases h : c = 11
  · rw [if_pos h, if_pos (show (nI c == 11) = true from (c_is hc (k := 11) (by omega)).mpr h)]
  · rw [if_neg h, if_neg (show ¬ (nI c == 11) = true from fun z => h ((c_is hc (k := 11) (by omega)).mp z))]
theorem osl_N (hc : c < 12) : osl (lgN lg E c nn) (E + 1) = osl lg E ++ (if c = 0 then [E] else []) := by
  rw [← osl_E (lgN_E (lg := lg) (c := c) (nn := nn)) (Nat.le_refl E)]
  refine (sel_s E _).trans ?_
  congr 1
  rw [lgN_cod]
  by_cases h : c = 0
  · rw [if_pos h, if_pos (show (nI c == 0) = true from (c_is hc (k := 0) (by omega)).mpr h)]
  · rw [if_neg h, if_neg (show ¬ (nI c == 0) = true from fun z => h ((c_is hc (k := 0) (by omega)).mp z))]
theorem acl_N (hc : c < 12) : acl (lgN lg E c nn) (E + 1) = acl lg E ++ (if c = 0 then [] else [E]) := by
  rw [← acl_E (lgN_E (lg := lg) (c := c) (nn := nn)) (Nat.le_refl E)]
  refine (sel_s E _).trans ?_
  congr 1
  rw [lgN_cod]
  by_cases h : c = 0
  · have h1 : (nI c == 0) = true := (c_is hc (k := 0) (by omega)).mpr h
    rw [if_pos h, if_neg (by rw [h1]; decide)]
  · have h1 : (nI c == 0) = false := Bool.eq_false_iff.mpr fun z => h ((c_is hc (k := 0) (by omega)).mp z)
    rw [if_neg h, if_pos (by rw [h1]; decide)]
theorem tdy_N (hc : c < 12) : tdy (lgN lg E c nn) (E + 1) = if c = 0 then nn 0 else tdy lg E := by
  show (if cod (lgN lg E c nn) E = 0 then num (lgN lg E c nn) E 0 else tdy (lgN lg E c nn) E) = _
  rw [lgN_cod, lgN_num0, tdy_E lgN_E (Nat.le_refl E)]
  by_cases h : c = 0
  · rw [if_pos h, if_pos (by rw [h]; rfl)]
  · rw [if_neg h, if_neg (show ¬ nI c = 0 from fun z => h ((nI_eq (b := 0) (by omega) (by omega)).mp z))]
end LN
