/-! The reference's undo. -/
def rG (e f td a p vs ru : Int32) (st sh shs : Int32) (w : Value × Value × Value × Value × Value) (mn im tp rs : Int32) : List Value := [.ref 365, .ref 366, .int e, .int f, .int td, .int a, .int p, .int vs, .int ru, .ref 367, .ref 368, .ref 369, .ref 370, .ref 371, .ref 372, .int st, .ref 373, .int sh, .int shs, .ref 374, w.1, w.2.1, w.2.2.1, w.2.2.2.1, w.2.2.2.2, .ref 375, .int mn, .ref 376, .int im, .ref 377, .int tp, .int rs]
section LN
variable {lg : Nat → Int32} {E v VS VS' fx : Nat} {nn pt vl pp va pa wa pt' vl' pp' : Nat → Int32}
theorem vsl_s : vsl lg (E + 1) = vsl lg E ++ (if cod lg E = 1 then [E] else []) := by
  refine (sel_s E _).trans ?_
  by_cases h : cod lg E = 1
  · rw [if_pos h, if_pos (beq_iff_eq.mpr h)]; rfl
  · rw [if_neg h, if_neg (fun z => h (beq_iff_eq.mp z))]; rfl
theorem rsl_s : rsl lg (E + 1) = rsl lg E ++ (if cod lg E = 11 then [E] else []) := by
  refine (sel_s E _).trans ?_
  by_cases h : cod lg E = 11
  · rw [if_pos h, if_pos (beq_iff_eq.mpr h)]; rfl
  · rw [if_neg h, if_neg (fun z => h (beq_iff_eq.mp z))]; rfl
theorem osl_s : osl lg (E + 1) = osl lg E ++ (if cod lg E = 0 then [E] else []) := by
  refine (sel_s E _).trans ?_
  by_cases h : cod lg E = 0
  · rw [if_pos h, if_pos (beq_iff_eq.mpr h)]; rfl
  · rw [if_neg h, if_neg (fun z => h (beq_iff_eq.mp z))]; rfl
theorem acl_s : acl lg (E + 1) = acl lg E ++ (if cod lg E = 0 then [] else [E]) := by
  refine (sel_s E _).trans ?_
  by_cases h : cod lg E = 0
  · have h1 : (cod lg E == 0) = true := beq_iff_eq.mpr h
    rw [if_pos h, if_neg (by rw [h1]; decide)]; rfl
  · have h1 : (cod lg E == 0) = false := Bool.eq_false_iff.mpr fun z => h (beq_iff_eq.mp z)
    rw [if_neg h, if_pos (by rw [h1]; decide)]; rfl
theorem two_s {c : Int32} : ((cod lg E == c && num lg E 0 == nI v) = true) ↔ cod lg E = c ∧ num lg E 0 = nI v := by rw [Bool.and_eq_true, beq_iff_eq, beq_iff_eq]
theorem psl_s : psl lg (E + 1) v = psl lg E v ++ (if cod lg E = 2 ∧ num lg E 0 = nI v then [E] else []) := by
  refine (sel_s E _).trans ?_
  by_cases h : cod lg E = 2 ∧ num lg E 0 = nI v
  · rw [if_pos h, if_pos (two_s.mpr h)]; rfl
  · rw [if_neg h, if_neg (fun z => h (two_s.mp z))]; rfl
theorem wsl_s : wsl lg (E + 1) v = wsl lg E v ++ (if cod lg E = 8 ∧ num lg E 0 = nI v then [E] else []) := by
  refine (sel_s E _).trans ?_
  by_cases h : cod lg E = 8 ∧ num lg E 0 = nI v
  · rw [if_pos h, if_pos (two_s.mpr h)]; rfl
  · rw [if_neg h, if_neg (fun z => h (two_s.mp z))]; rfl
theorem qsl_s : qsl lg (E + 1) v = qsl lg E v ++ (if cod lg E = 10 ∧ num lg E 0 = nI v then [E] else []) := by
  refine (sel_s E _).trans ?_
  by_cases h : cod lg E = 10 ∧ num lg E 0 = nI v
  · rw [if_pos h, if_pos (two_s.mpr h)]; rfl
  · rw [if_neg h, if_neg (fun z => h (two_s.mp z))]; rfl
theorem RI_U (hI : RI lg (E + 1) VS pt vl pp va pa wa) (hV : VS' = (vsl lg E).length) (hp : ∀ v, v < VS' → pt' v = nI (psl lg E v).length) (hl : ∀ v, v < VS' → vl' v = nI (wsl lg E v).length) (ho : ∀ v, v < VS' → pp' v = nI (qsl lg E v).length) : RI lg E VS' pt' vl' pp' va pa wa := by
  have hvl : VS' ≤ VS := by rw [hV, hI.hv, vsl_s, List.length_append]; omega
  have lp : ∀ v, (psl lg E v).length ≤ (psl lg (E + 1) v).length := fun v => by rw [psl_s, List.length_append]; omega
  have lw : ∀ v, (wsl lg E v).length ≤ (wsl lg (E + 1) v).length := fun v => by rw [wsl_s, List.length_append]; omega
  refine ⟨hV, fun v hv => ?_, fun v hv => ⟨hp v hv, ?_⟩, fun v p hv hp => ?_, fun v hv => ⟨hl v hv, ?_⟩, fun v p hv hp => ?_, ho⟩
  · rw [hI.hva v (by omega), (vat_pre (Nat.le_succ E) (by rw [← hV]; exact hv)).1]
  · exact Nat.le_trans (lp v) (hI.hp v (by omega)).2
  · rw [hI.hpa v p (by omega) (Nat.lt_of_lt_of_le hp (lp v)), (pat_pre (Nat.le_succ E) hp).1]
  · exact Nat.le_trans (lw v) (hI.hw v (by omega)).2
  · rw [hI.hwa v p (by omega) (Nat.lt_of_lt_of_le hp (lw v)), (wat_pre (Nat.le_succ E) hp).1]
theorem WF_U (h : WF lg (E + 1)) : WF lg E := by
  refine ⟨fun i hi => h.1 i (by omega), ?_, ?_, ?_⟩
  · have := h.2.1; rw [vsl_s, List.length_append] at this; omega
  · have := h.2.2.1; rw [acl_s, List.length_append] at this; omega
  · have := h.2.2.2; rw [osl_s, List.length_append] at this; omega
/-- an entry's code -/
theorem wf_codes (h : wfE lg E) : cod lg E = 0 ∨ cod lg E = 1 ∨ cod lg E = 2 ∨ cod lg E = 3 ∨ cod lg E = 4 ∨ cod lg E = 5 ∨ cod lg E = 6 ∨ cod lg E = 7 ∨ cod lg E = 8 ∨ cod lg E = 9 ∨ cod lg E = 10 ∨ cod lg E = 11 := by
  obtain ⟨-, h2⟩ := h
  rcases h2 with h2 | h2 | h2 | ⟨v, -, -, h2⟩
  · exact Or.inl h2.1
  · exact Or.inr (Or.inl h2.1)
  · exact Or.inr (Or.inr (Or.inr (Or.inr (Or.inr (Or.inr (Or.inr (Or.inr (Or.inr (Or.inr (Or.inr h2.1))))))))))
  · rcases h2 with h2 | h2 | h2 | h2 | ⟨p, -, -, h2⟩
    · exact Or.inr (Or.inr (Or.inl h2.1))
    · exact Or.inr (Or.inr (Or.inr (Or.inr (Or.inr (Or.inr (Or.inr (Or.inr (Or.inl h2.1))))))))
    · exact Or.inr (Or.inr (Or.inr (Or.inr (Or.inr (Or.inr (Or.inr (Or.inr (Or.inr (Or.inl h2.1)))))))))
    · exact Or.inr (Or.inr (Or.inr (Or.inr (Or.inr (Or.inr (Or.inr (Or.inr (Or.inr (Or.inr (Or.inl h2.1))))))))))
    · rcases h2 with h2 | h2 | h2 | h2 | h2
      · exact Or.inr (Or.inr (Or.inr (Or.inl h2.1)))
      · exact Or.inr (Or.inr (Or.inr (Or.inr (Or.inl h2.1))))
      · exact Or.inr (Or.inr (Or.inr (Or.inr (Or.inr (Or.inl h2.1)))))
      · exact Or.inr (Or.inr (Or.inr (Or.inr (Or.inr (Or.inr (Or.inl h2.1))))))
      · exact Or.inr (Or.inr (Or.inr (Or.inr (Or.inr (Or.inr (Or.inr (Or.inl h2.1)))))))
end LN
section RR
variable {d : Nat} {G : bo_G} {Q : Option Value → bo_G → Prop} {lg : Nat → Int32} {E fx c : Nat} {nn : Nat → Int32} {st sh shs mn im tp rs : Int32}
theorem r_undo0 (h : RT G lg E E st sh shs mn im tp rs nn) (k : ∀ G', RT G' lg E E (-1) sh shs mn im tp rs nn → FA G G' → Q (some (.int (-1))) G') : Cx d mX11_undo [.ref 364] G Q := by
  obtain ⟨w, q0, hf⟩ := RT_fs h
  have h2 := hf w (-1) sh shs mn im tp rs E
  have F2 := (FA.rfl' G).set (c := cO 11 (rF E E (tdy lg E) (acl lg E).length (osl lg E).length (vsl lg E).length (rsl lg E).length (-1) sh shs w mn im tp rs)) (show 364 ≤ 364 ∧ 364 ≤ 373 ∧ 364 ≠ 366 by omega)
  have k := k _ h2 F2
  refine Cx.body rfl rfl ?_
  (repeat (first | refine Ex.go rfl rfl ?_ | refine Ex.gf rfl rfl (by assumption) (by rfl) (by first | rfl | assumption) ?_))
  refine Ex.br (fun h1 => ?_) (fun h1 => ?_)
  · exact absurd rfl h1
  (repeat (first | refine Ex.go rfl rfl ?_ | refine Ex.gf rfl rfl (by assumption) (by rfl) (by first | rfl | assumption) ?_))
  refine Ex.pf rfl rfl (by assumption) (by rfl) (by rfl) (by rfl) ?_
  (repeat (first | refine Ex.go rfl rfl ?_ | refine Ex.gf rfl rfl (by assumption) (by rfl) (by first | rfl | assumption) ?_))
  refine Ex.ret rfl rfl rfl ?_
  exact k
theorem r_undo (h : RT G lg (E + 1) fx st sh shs mn im tp rs nn) (hW : WF lg (E + 1)) (hL : 378 ≤ G.length) (hE : E < 6000) (hfx : fx ≤ E) (hc0 : ¬ cod lg E = 0) (k : ∀ G', RT G' lg E fx 0 sh shs mn im tp rs nn → FA G G' → Q (some (.int (cod lg E))) G') : Cx (d + 1) mX11_undo [.ref 364] G Q := by
  obtain ⟨w, pt, vl, pp, va, pa, wa, R, hI⟩ := h
  have hcod := wf_codes (hW.1 E (by omega))
  have eV := vsl_s (lg := lg) (E := E)
  have eR := rsl_s (lg := lg) (E := E)
  have eO : osl lg (E + 1) = osl lg E := by rw [osl_s, if_neg hc0, List.append_nil]
  have eA : (acl lg (E + 1)).length = (acl lg E).length + 1 := by rw [acl_s, if_neg hc0, List.length_append]; rfl
  have eT : tdy lg (E + 1) = tdy lg E := if_neg hc0
  have hV0 := R.2.2.2
  have hll := sel_len E fun i => cod lg i == 1
  have hlr := sel_len E fun i => cod lg i == 11
  have vess : 2 ≤ (cod lg E).toInt → (cod lg E).toInt ≤ 10 → ∃ v, v < (vsl lg E).length ∧ num lg E 0 = nI v := by
    intro h2 h10
    obtain ⟨-, q⟩ := hW.1 E (by omega)
    rcases q with q | q | q | ⟨v, a, b, -⟩
    · exact absurd q.1 hc0
    · rw [q.1] at h2; exact absurd h2 (by decide)
    · rw [q.1] at h10; exact absurd h10 (by decide)
    · exact ⟨v, a, b⟩
  have eu : ∀ {u v : Nat}, num lg E 0 = nI v → num lg E 0 = nI u → u < (vsl lg (E + 1)).length → v < (vsl lg E).length → u = v := fun h1 h2 h3 h4 => by
    have h5 : (vsl lg E).length ≤ E := hll
    exact (nI_eq (by omega) (by omega)).mp (h2.symm.trans h1)
  obtain ⟨⟨q0, -⟩, ⟨b0, b1, b2, b3, b4, b5, b6, b7⟩, hE6, hV⟩ := id R
  rw [eO, eA, eT] at q0
  have G1e : ∀ G1, G1 = G.set 364 (cO 11 (rF E fx (tdy lg E) (acl lg E).length (osl lg E).length (vsl lg (E + 1)).length (rsl lg (E + 1)).length 0 sh shs w mn im tp rs)) → Ex (d + 1) mX11_undo (43, [(0, .ref 364)], [], G1) Q := by
    intro G1 e1
    have F1 : FA G G1 := by rw [e1]; exact (FA.rfl' G).set (by omega)
    have hL1 : 378 ≤ G1.length := by rw [F1.1]; exact hL
    have p0 : G1[364]? = some (cO 11 (rF E fx (tdy lg E) (acl lg E).length (osl lg E).length (vsl lg (E + 1)).length (rsl lg (E + 1)).length 0 sh shs w mn im tp rs)) := by rw [e1]; exact get_set q0
    have pq : ∀ {j : Nat} {x : bo_C}, j ≠ 364 → G[j]? = some x → G1[j]? = some x := fun hj hx => by rw [e1, List.getElem?_set_ne (fun z => hj z.symm)]; exact hx
    have b0 := pq (by omega) b0
    have b1 := pq (by omega) b1
    have b2 := pq (by omega) b2
    have b3 := pq (by omega) b3
    have b4 := pq (by omega) b4
    have b5 := pq (by omega) b5
    have b6 := pq (by omega) b6
    have b7 := pq (by omega) b7
    have R1 : RD G1 (rF E fx (tdy lg E) (acl lg E).length (osl lg E).length (vsl lg (E + 1)).length (rsl lg (E + 1)).length 0 sh shs w mn im tp rs) lg E (tdy lg E) (vsl lg (E + 1)).length pt vl pp va pa wa nn := ⟨⟨p0, rfl, rfl, rfl, rfl, rfl, rfl, rfl, rfl, rfl, rfl, rfl⟩, ⟨b0, b1, b2, b3, b4, b5, b6, b7⟩, by omega, hV⟩
    clear e1
    (repeat (first | refine Ex.go rfl rfl ?_ | refine Ex.gf rfl rfl (by assumption) (by rfl) (by first | rfl | assumption) ?_))
    refine Ex.cv1 rfl rfl rfl (by assumption) (by rfl) (by decide) rfl ?_
    refine r_code R1 hE ?_
    replace k : ∀ G', RT G' lg E fx 0 sh shs mn im tp rs nn → FA G G' → Q (some (.int (lg (18 * E)))) G' := k
    have k0 := k
    (repeat (first | refine Ex.go rfl rfl ?_ | refine Ex.gf rfl rfl (by assumption) (by rfl) (by first | rfl | assumption) ?_))
    refine Ex.cv2 rfl rfl rfl (by assumption) (by rfl) (by decide) rfl ?_
    refine r_num (j := 0) R1 hE (by omega) ?_
    rcases hcod with hc | hc | hc | hc | hc | hc | hc | hc | hc | hc | hc | hc
    · exact absurd hc hc0
    · -- code 1
      have hc' : lg (18 * E) = 1 := hc
      rw [hc'] at k0 ⊢
      have hA : ap ([(364, cO 11 (rF E fx (tdy lg E) (acl lg E).length (osl lg E).length (vsl lg (E + 1)).length (rsl lg (E + 1)).length 0 sh shs w mn im tp rs))].map Prod.fst) G1.length := apG (as := [364]) (by decide) (by decide) hL1
      refine Ex.lay [(364, cO 11 (rF E fx (tdy lg E) (acl lg E).length (osl lg E).length (vsl lg (E + 1)).length (rsl lg (E + 1)).length 0 sh shs w mn im tp rs))] (lay1 p0) ?_
      (repeat (first | refine Ex.go rfl rfl ?_ | refine Ex.gf rfl rfl (ov_get hA 0 rfl) (by rfl) (by rfl) ?_ | refine Ex.gf rfl rfl (ov_get hA 1 rfl) (by rfl) (by rfl) ?_ | refine Ex.gf rfl rfl (ov_get hA 2 rfl) (by rfl) (by rfl) ?_ | refine Ex.gf rfl rfl (ov_get hA 3 rfl) (by rfl) (by rfl) ?_ | refine Ex.gf rfl rfl (ov_get hA 4 rfl) (by rfl) (by rfl) ?_ | refine Ex.gf rfl rfl (ov_get hA 5 rfl) (by rfl) (by rfl) ?_ | refine Ex.gf rfl rfl (ov_get hA 6 rfl) (by rfl) (by rfl) ?_ | (refine Ex.pfo hA 0 rfl rfl rfl (by rfl) (by rfl) (by rfl) ?_; dsimp only [List.set]) | (refine Ex.pfo hA 1 rfl rfl rfl (by rfl) (by rfl) (by rfl) ?_; dsimp only [List.set]) | (refine Ex.pfo hA 2 rfl rfl rfl (by rfl) (by rfl) (by rfl) ?_; dsimp only [List.set]) | (refine Ex.pfo hA 3 rfl rfl rfl (by rfl) (by rfl) (by rfl) ?_; dsimp only [List.set]) | (refine Ex.pfo hA 4 rfl rfl rfl (by rfl) (by rfl) (by rfl) ?_; dsimp only [List.set]) | (refine Ex.pfo hA 5 rfl rfl rfl (by rfl) (by rfl) (by rfl) ?_; dsimp only [List.set]) | (refine Ex.pfo hA 6 rfl rfl rfl (by rfl) (by rfl) (by rfl) ?_; dsimp only [List.set])))
      refine Ex.ret rfl rfl rfl ?_
      show Q (some (.int 1)) (ov G1 [(364, cO 11 (rG (nI E) (nI fx) (tdy lg E) (nI (acl lg E).length) (nI (osl lg E).length) (nI (vsl lg (E + 1)).length - 1) (nI (rsl lg (E + 1)).length - 0) 0 sh shs w mn im tp rs))])
      have ev : nI (vsl lg (E + 1)).length - 1 = nI (vsl lg E).length := by rw [eV, hc]; simp only [if_true, List.length_append, List.length_singleton]; exact nI_pred _
      have er : nI (rsl lg (E + 1)).length - 0 = nI (rsl lg E).length := by rw [eR, hc]; rw [if_neg (by decide), List.append_nil]; exact Int32.sub_zero _
      rw [ev, er]
      refine k0 _ ⟨w, pt, vl, pp, va, pa, wa, ⟨⟨(by first | exact ov_get hA 0 rfl | exact ov_get hA 1 rfl | exact ov_get hA 2 rfl | exact ov_get hA 3 rfl | exact ov_get hA 4 rfl | (rw [ov_ne (by simp)]; assumption)), rfl, rfl, rfl, rfl, rfl, rfl, rfl, rfl, rfl, rfl, rfl⟩, ⟨(by first | exact ov_get hA 0 rfl | exact ov_get hA 1 rfl | exact ov_get hA 2 rfl | exact ov_get hA 3 rfl | exact ov_get hA 4 rfl | (rw [ov_ne (by simp)]; assumption)), (by first | exact ov_get hA 0 rfl | exact ov_get hA 1 rfl | exact ov_get hA 2 rfl | exact ov_get hA 3 rfl | exact ov_get hA 4 rfl | (rw [ov_ne (by simp)]; assumption)), (by first | exact ov_get hA 0 rfl | exact ov_get hA 1 rfl | exact ov_get hA 2 rfl | exact ov_get hA 3 rfl | exact ov_get hA 4 rfl | (rw [ov_ne (by simp)]; assumption)), (by first | exact ov_get hA 0 rfl | exact ov_get hA 1 rfl | exact ov_get hA 2 rfl | exact ov_get hA 3 rfl | exact ov_get hA 4 rfl | (rw [ov_ne (by simp)]; assumption)), (by first | exact ov_get hA 0 rfl | exact ov_get hA 1 rfl | exact ov_get hA 2 rfl | exact ov_get hA 3 rfl | exact ov_get hA 4 rfl | (rw [ov_ne (by simp)]; assumption)), (by first | exact ov_get hA 0 rfl | exact ov_get hA 1 rfl | exact ov_get hA 2 rfl | exact ov_get hA 3 rfl | exact ov_get hA 4 rfl | (rw [ov_ne (by simp)]; assumption)), (by first | exact ov_get hA 0 rfl | exact ov_get hA 1 rfl | exact ov_get hA 2 rfl | exact ov_get hA 3 rfl | exact ov_get hA 4 rfl | (rw [ov_ne (by simp)]; assumption)), (by first | exact ov_get hA 0 rfl | exact ov_get hA 1 rfl | exact ov_get hA 2 rfl | exact ov_get hA 3 rfl | exact ov_get hA 4 rfl | (rw [ov_ne (by simp)]; assumption))⟩, by omega, by rw [eV, List.length_append] at hV; omega⟩, RI_U hI rfl (fun u hu => ?_) (fun u hu => ?_) (fun u hu => ?_)⟩ (FA.ov F1 (by simp))
      · have hu1 : u < (vsl lg (E + 1)).length := by rw [eV, List.length_append]; omega
        have a1 := (hI.hp u hu1).1
        rw [psl_s, List.length_append] at a1
        rw [if_neg (fun z => absurd (hc.symm.trans z.1) (by decide))] at a1
        exact a1
      · have hu1 : u < (vsl lg (E + 1)).length := by rw [eV, List.length_append]; omega
        have a1 := (hI.hw u hu1).1
        rw [wsl_s, List.length_append] at a1
        rw [if_neg (fun z => absurd (hc.symm.trans z.1) (by decide))] at a1
        exact a1
      · have hu1 : u < (vsl lg (E + 1)).length := by rw [eV, List.length_append]; omega
        have a1 := hI.hq u hu1
        rw [qsl_s, List.length_append] at a1
        rw [if_neg (fun z => absurd (hc.symm.trans z.1) (by decide))] at a1
        exact a1
    · -- code 2
      have hc' : lg (18 * E) = 2 := hc
      rw [hc'] at k0 ⊢
      obtain ⟨v, hv, e0⟩ := vess (by rw [hc]; decide) (by rw [hc]; decide)
      have hv1 : v < (vsl lg (E + 1)).length := by rw [eV, List.length_append]; omega
      rw [e0]
      have hA : ap ([(364, cO 11 (rF E fx (tdy lg E) (acl lg E).length (osl lg E).length (vsl lg (E + 1)).length (rsl lg (E + 1)).length 0 sh shs w mn im tp rs)), (367, cI 30 pt)].map Prod.fst) G1.length := apG (as := [364, 367]) (by decide) (by decide) hL1
      refine Ex.lay [(364, cO 11 (rF E fx (tdy lg E) (acl lg E).length (osl lg E).length (vsl lg (E + 1)).length (rsl lg (E + 1)).length 0 sh shs w mn im tp rs)), (367, cI 30 pt)] (by simp only [List.forall_mem_cons]; exact ⟨p0, b1, fun _ z => absurd z List.not_mem_nil⟩) ?_
      (repeat (first | refine Ex.go rfl rfl ?_ | refine Ex.gf rfl rfl (ov_get hA 0 rfl) (by rfl) (by rfl) ?_ | refine Ex.gf rfl rfl (ov_get hA 1 rfl) (by rfl) (by rfl) ?_ | refine Ex.gf rfl rfl (ov_get hA 2 rfl) (by rfl) (by rfl) ?_ | refine Ex.gf rfl rfl (ov_get hA 3 rfl) (by rfl) (by rfl) ?_ | refine Ex.gf rfl rfl (ov_get hA 4 rfl) (by rfl) (by rfl) ?_ | refine Ex.gf rfl rfl (ov_get hA 5 rfl) (by rfl) (by rfl) ?_ | refine Ex.gf rfl rfl (ov_get hA 6 rfl) (by rfl) (by rfl) ?_ | (refine Ex.pfo hA 0 rfl rfl rfl (by rfl) (by rfl) (by rfl) ?_; dsimp only [List.set]) | (refine Ex.pfo hA 1 rfl rfl rfl (by rfl) (by rfl) (by rfl) ?_; dsimp only [List.set]) | (refine Ex.pfo hA 2 rfl rfl rfl (by rfl) (by rfl) (by rfl) ?_; dsimp only [List.set]) | (refine Ex.pfo hA 3 rfl rfl rfl (by rfl) (by rfl) (by rfl) ?_; dsimp only [List.set]) | (refine Ex.pfo hA 4 rfl rfl rfl (by rfl) (by rfl) (by rfl) ?_; dsimp only [List.set]) | (refine Ex.pfo hA 5 rfl rfl rfl (by rfl) (by rfl) (by rfl) ?_; dsimp only [List.set]) | (refine Ex.pfo hA 6 rfl rfl rfl (by rfl) (by rfl) (by rfl) ?_; dsimp only [List.set])))
      refine Ex.ialo hA 1 rfl (j := v) rfl rfl (by omega) (by omega) ?_
      (repeat (first | refine Ex.go rfl rfl ?_ | refine Ex.gf rfl rfl (ov_get hA 0 rfl) (by rfl) (by rfl) ?_ | refine Ex.gf rfl rfl (ov_get hA 1 rfl) (by rfl) (by rfl) ?_ | refine Ex.gf rfl rfl (ov_get hA 2 rfl) (by rfl) (by rfl) ?_ | refine Ex.gf rfl rfl (ov_get hA 3 rfl) (by rfl) (by rfl) ?_ | refine Ex.gf rfl rfl (ov_get hA 4 rfl) (by rfl) (by rfl) ?_ | refine Ex.gf rfl rfl (ov_get hA 5 rfl) (by rfl) (by rfl) ?_ | refine Ex.gf rfl rfl (ov_get hA 6 rfl) (by rfl) (by rfl) ?_ | (refine Ex.pfo hA 0 rfl rfl rfl (by rfl) (by rfl) (by rfl) ?_; dsimp only [List.set]) | (refine Ex.pfo hA 1 rfl rfl rfl (by rfl) (by rfl) (by rfl) ?_; dsimp only [List.set]) | (refine Ex.pfo hA 2 rfl rfl rfl (by rfl) (by rfl) (by rfl) ?_; dsimp only [List.set]) | (refine Ex.pfo hA 3 rfl rfl rfl (by rfl) (by rfl) (by rfl) ?_; dsimp only [List.set]) | (refine Ex.pfo hA 4 rfl rfl rfl (by rfl) (by rfl) (by rfl) ?_; dsimp only [List.set]) | (refine Ex.pfo hA 5 rfl rfl rfl (by rfl) (by rfl) (by rfl) ?_; dsimp only [List.set]) | (refine Ex.pfo hA 6 rfl rfl rfl (by rfl) (by rfl) (by rfl) ?_; dsimp only [List.set])))
      refine Ex.iaso hA 1 rfl (j := v) rfl rfl (by omega) (by omega) ?_
      dsimp only [List.set]
      (repeat (first | refine Ex.go rfl rfl ?_ | refine Ex.gf rfl rfl (ov_get hA 0 rfl) (by rfl) (by rfl) ?_ | refine Ex.gf rfl rfl (ov_get hA 1 rfl) (by rfl) (by rfl) ?_ | refine Ex.gf rfl rfl (ov_get hA 2 rfl) (by rfl) (by rfl) ?_ | refine Ex.gf rfl rfl (ov_get hA 3 rfl) (by rfl) (by rfl) ?_ | refine Ex.gf rfl rfl (ov_get hA 4 rfl) (by rfl) (by rfl) ?_ | refine Ex.gf rfl rfl (ov_get hA 5 rfl) (by rfl) (by rfl) ?_ | refine Ex.gf rfl rfl (ov_get hA 6 rfl) (by rfl) (by rfl) ?_ | (refine Ex.pfo hA 0 rfl rfl rfl (by rfl) (by rfl) (by rfl) ?_; dsimp only [List.set]) | (refine Ex.pfo hA 1 rfl rfl rfl (by rfl) (by rfl) (by rfl) ?_; dsimp only [List.set]) | (refine Ex.pfo hA 2 rfl rfl rfl (by rfl) (by rfl) (by rfl) ?_; dsimp only [List.set]) | (refine Ex.pfo hA 3 rfl rfl rfl (by rfl) (by rfl) (by rfl) ?_; dsimp only [List.set]) | (refine Ex.pfo hA 4 rfl rfl rfl (by rfl) (by rfl) (by rfl) ?_; dsimp only [List.set]) | (refine Ex.pfo hA 5 rfl rfl rfl (by rfl) (by rfl) (by rfl) ?_; dsimp only [List.set]) | (refine Ex.pfo hA 6 rfl rfl rfl (by rfl) (by rfl) (by rfl) ?_; dsimp only [List.set])))
      refine Ex.ret rfl rfl rfl ?_
      show Q (some (.int 2)) (ov G1 [(364, cO 11 (rG (nI E) (nI fx) (tdy lg E) (nI (acl lg E).length) (nI (osl lg E).length) (nI (vsl lg (E + 1)).length - 0) (nI (rsl lg (E + 1)).length - 0) 0 sh shs w mn im tp rs)), (367, cI 30 (upd pt v (pt v - 1)))])
      have ev : nI (vsl lg (E + 1)).length - 0 = nI (vsl lg E).length := by rw [eV, hc]; rw [if_neg (by decide), List.append_nil]; exact Int32.sub_zero _
      have er : nI (rsl lg (E + 1)).length - 0 = nI (rsl lg E).length := by rw [eR, hc]; rw [if_neg (by decide), List.append_nil]; exact Int32.sub_zero _
      rw [ev, er]
      refine k0 _ ⟨w, (upd pt v (pt v - 1)), vl, pp, va, pa, wa, ⟨⟨(by first | exact ov_get hA 0 rfl | exact ov_get hA 1 rfl | exact ov_get hA 2 rfl | exact ov_get hA 3 rfl | exact ov_get hA 4 rfl | (rw [ov_ne (by simp)]; assumption)), rfl, rfl, rfl, rfl, rfl, rfl, rfl, rfl, rfl, rfl, rfl⟩, ⟨(by first | exact ov_get hA 0 rfl | exact ov_get hA 1 rfl | exact ov_get hA 2 rfl | exact ov_get hA 3 rfl | exact ov_get hA 4 rfl | (rw [ov_ne (by simp)]; assumption)), (by first | exact ov_get hA 0 rfl | exact ov_get hA 1 rfl | exact ov_get hA 2 rfl | exact ov_get hA 3 rfl | exact ov_get hA 4 rfl | (rw [ov_ne (by simp)]; assumption)), (by first | exact ov_get hA 0 rfl | exact ov_get hA 1 rfl | exact ov_get hA 2 rfl | exact ov_get hA 3 rfl | exact ov_get hA 4 rfl | (rw [ov_ne (by simp)]; assumption)), (by first | exact ov_get hA 0 rfl | exact ov_get hA 1 rfl | exact ov_get hA 2 rfl | exact ov_get hA 3 rfl | exact ov_get hA 4 rfl | (rw [ov_ne (by simp)]; assumption)), (by first | exact ov_get hA 0 rfl | exact ov_get hA 1 rfl | exact ov_get hA 2 rfl | exact ov_get hA 3 rfl | exact ov_get hA 4 rfl | (rw [ov_ne (by simp)]; assumption)), (by first | exact ov_get hA 0 rfl | exact ov_get hA 1 rfl | exact ov_get hA 2 rfl | exact ov_get hA 3 rfl | exact ov_get hA 4 rfl | (rw [ov_ne (by simp)]; assumption)), (by first | exact ov_get hA 0 rfl | exact ov_get hA 1 rfl | exact ov_get hA 2 rfl | exact ov_get hA 3 rfl | exact ov_get hA 4 rfl | (rw [ov_ne (by simp)]; assumption)), (by first | exact ov_get hA 0 rfl | exact ov_get hA 1 rfl | exact ov_get hA 2 rfl | exact ov_get hA 3 rfl | exact ov_get hA 4 rfl | (rw [ov_ne (by simp)]; assumption))⟩, by omega, by rw [eV, List.length_append] at hV; omega⟩, RI_U hI rfl (fun u hu => ?_) (fun u hu => ?_) (fun u hu => ?_)⟩ (FA.ov F1 (by simp))
      · have hu1 : u < (vsl lg (E + 1)).length := by rw [eV, List.length_append]; omega
        have a1 := (hI.hp u hu1).1
        rw [psl_s, List.length_append] at a1
        by_cases hn : num lg E 0 = nI u
        · have huv := eu e0 hn hu1 hv
          rw [if_pos ⟨hc, hn⟩] at a1
          rw [huv] at a1 ⊢
          rw [pk_us, a1]
          exact nI_pred _
        · rw [if_neg (fun z => hn z.2)] at a1
          rw [pk_un (fun z => hn (by rw [z]; exact e0))]
          exact a1
      · have hu1 : u < (vsl lg (E + 1)).length := by rw [eV, List.length_append]; omega
        have a1 := (hI.hw u hu1).1
        rw [wsl_s, List.length_append] at a1
        rw [if_neg (fun z => absurd (hc.symm.trans z.1) (by decide))] at a1
        exact a1
      · have hu1 : u < (vsl lg (E + 1)).length := by rw [eV, List.length_append]; omega
        have a1 := hI.hq u hu1
        rw [qsl_s, List.length_append] at a1
        rw [if_neg (fun z => absurd (hc.symm.trans z.1) (by decide))] at a1
        exact a1
    · -- code 3
      have hc' : lg (18 * E) = 3 := hc
      rw [hc'] at k0 ⊢
      have hA : ap ([(364, cO 11 (rF E fx (tdy lg E) (acl lg E).length (osl lg E).length (vsl lg (E + 1)).length (rsl lg (E + 1)).length 0 sh shs w mn im tp rs))].map Prod.fst) G1.length := apG (as := [364]) (by decide) (by decide) hL1
      refine Ex.lay [(364, cO 11 (rF E fx (tdy lg E) (acl lg E).length (osl lg E).length (vsl lg (E + 1)).length (rsl lg (E + 1)).length 0 sh shs w mn im tp rs))] (lay1 p0) ?_
      (repeat (first | refine Ex.go rfl rfl ?_ | refine Ex.gf rfl rfl (ov_get hA 0 rfl) (by rfl) (by rfl) ?_ | refine Ex.gf rfl rfl (ov_get hA 1 rfl) (by rfl) (by rfl) ?_ | refine Ex.gf rfl rfl (ov_get hA 2 rfl) (by rfl) (by rfl) ?_ | refine Ex.gf rfl rfl (ov_get hA 3 rfl) (by rfl) (by rfl) ?_ | refine Ex.gf rfl rfl (ov_get hA 4 rfl) (by rfl) (by rfl) ?_ | refine Ex.gf rfl rfl (ov_get hA 5 rfl) (by rfl) (by rfl) ?_ | refine Ex.gf rfl rfl (ov_get hA 6 rfl) (by rfl) (by rfl) ?_ | (refine Ex.pfo hA 0 rfl rfl rfl (by rfl) (by rfl) (by rfl) ?_; dsimp only [List.set]) | (refine Ex.pfo hA 1 rfl rfl rfl (by rfl) (by rfl) (by rfl) ?_; dsimp only [List.set]) | (refine Ex.pfo hA 2 rfl rfl rfl (by rfl) (by rfl) (by rfl) ?_; dsimp only [List.set]) | (refine Ex.pfo hA 3 rfl rfl rfl (by rfl) (by rfl) (by rfl) ?_; dsimp only [List.set]) | (refine Ex.pfo hA 4 rfl rfl rfl (by rfl) (by rfl) (by rfl) ?_; dsimp only [List.set]) | (refine Ex.pfo hA 5 rfl rfl rfl (by rfl) (by rfl) (by rfl) ?_; dsimp only [List.set]) | (refine Ex.pfo hA 6 rfl rfl rfl (by rfl) (by rfl) (by rfl) ?_; dsimp only [List.set])))
      refine Ex.ret rfl rfl rfl ?_
      show Q (some (.int 3)) (ov G1 [(364, cO 11 (rG (nI E) (nI fx) (tdy lg E) (nI (acl lg E).length) (nI (osl lg E).length) (nI (vsl lg (E + 1)).length - 0) (nI (rsl lg (E + 1)).length - 0) 0 sh shs w mn im tp rs))])
      have ev : nI (vsl lg (E + 1)).length - 0 = nI (vsl lg E).length := by rw [eV, hc]; rw [if_neg (by decide), List.append_nil]; exact Int32.sub_zero _
      have er : nI (rsl lg (E + 1)).length - 0 = nI (rsl lg E).length := by rw [eR, hc]; rw [if_neg (by decide), List.append_nil]; exact Int32.sub_zero _
      rw [ev, er]
      refine k0 _ ⟨w, pt, vl, pp, va, pa, wa, ⟨⟨(by first | exact ov_get hA 0 rfl | exact ov_get hA 1 rfl | exact ov_get hA 2 rfl | exact ov_get hA 3 rfl | exact ov_get hA 4 rfl | (rw [ov_ne (by simp)]; assumption)), rfl, rfl, rfl, rfl, rfl, rfl, rfl, rfl, rfl, rfl, rfl⟩, ⟨(by first | exact ov_get hA 0 rfl | exact ov_get hA 1 rfl | exact ov_get hA 2 rfl | exact ov_get hA 3 rfl | exact ov_get hA 4 rfl | (rw [ov_ne (by simp)]; assumption)), (by first | exact ov_get hA 0 rfl | exact ov_get hA 1 rfl | exact ov_get hA 2 rfl | exact ov_get hA 3 rfl | exact ov_get hA 4 rfl | (rw [ov_ne (by simp)]; assumption)), (by first | exact ov_get hA 0 rfl | exact ov_get hA 1 rfl | exact ov_get hA 2 rfl | exact ov_get hA 3 rfl | exact ov_get hA 4 rfl | (rw [ov_ne (by simp)]; assumption)), (by first | exact ov_get hA 0 rfl | exact ov_get hA 1 rfl | exact ov_get hA 2 rfl | exact ov_get hA 3 rfl | exact ov_get hA 4 rfl | (rw [ov_ne (by simp)]; assumption)), (by first | exact ov_get hA 0 rfl | exact ov_get hA 1 rfl | exact ov_get hA 2 rfl | exact ov_get hA 3 rfl | exact ov_get hA 4 rfl | (rw [ov_ne (by simp)]; assumption)), (by first | exact ov_get hA 0 rfl | exact ov_get hA 1 rfl | exact ov_get hA 2 rfl | exact ov_get hA 3 rfl | exact ov_get hA 4 rfl | (rw [ov_ne (by simp)]; assumption)), (by first | exact ov_get hA 0 rfl | exact ov_get hA 1 rfl | exact ov_get hA 2 rfl | exact ov_get hA 3 rfl | exact ov_get hA 4 rfl | (rw [ov_ne (by simp)]; assumption)), (by first | exact ov_get hA 0 rfl | exact ov_get hA 1 rfl | exact ov_get hA 2 rfl | exact ov_get hA 3 rfl | exact ov_get hA 4 rfl | (rw [ov_ne (by simp)]; assumption))⟩, by omega, by rw [eV, List.length_append] at hV; omega⟩, RI_U hI rfl (fun u hu => ?_) (fun u hu => ?_) (fun u hu => ?_)⟩ (FA.ov F1 (by simp))
      · have hu1 : u < (vsl lg (E + 1)).length := by rw [eV, List.length_append]; omega
        have a1 := (hI.hp u hu1).1
        rw [psl_s, List.length_append] at a1
        rw [if_neg (fun z => absurd (hc.symm.trans z.1) (by decide))] at a1
        exact a1
      · have hu1 : u < (vsl lg (E + 1)).length := by rw [eV, List.length_append]; omega
        have a1 := (hI.hw u hu1).1
        rw [wsl_s, List.length_append] at a1
        rw [if_neg (fun z => absurd (hc.symm.trans z.1) (by decide))] at a1
        exact a1
      · have hu1 : u < (vsl lg (E + 1)).length := by rw [eV, List.length_append]; omega
        have a1 := hI.hq u hu1
        rw [qsl_s, List.length_append] at a1
        rw [if_neg (fun z => absurd (hc.symm.trans z.1) (by decide))] at a1
        exact a1
    · -- code 4
      have hc' : lg (18 * E) = 4 := hc
      rw [hc'] at k0 ⊢
      have hA : ap ([(364, cO 11 (rF E fx (tdy lg E) (acl lg E).length (osl lg E).length (vsl lg (E + 1)).length (rsl lg (E + 1)).length 0 sh shs w mn im tp rs))].map Prod.fst) G1.length := apG (as := [364]) (by decide) (by decide) hL1
      refine Ex.lay [(364, cO 11 (rF E fx (tdy lg E) (acl lg E).length (osl lg E).length (vsl lg (E + 1)).length (rsl lg (E + 1)).length 0 sh shs w mn im tp rs))] (lay1 p0) ?_
      (repeat (first | refine Ex.go rfl rfl ?_ | refine Ex.gf rfl rfl (ov_get hA 0 rfl) (by rfl) (by rfl) ?_ | refine Ex.gf rfl rfl (ov_get hA 1 rfl) (by rfl) (by rfl) ?_ | refine Ex.gf rfl rfl (ov_get hA 2 rfl) (by rfl) (by rfl) ?_ | refine Ex.gf rfl rfl (ov_get hA 3 rfl) (by rfl) (by rfl) ?_ | refine Ex.gf rfl rfl (ov_get hA 4 rfl) (by rfl) (by rfl) ?_ | refine Ex.gf rfl rfl (ov_get hA 5 rfl) (by rfl) (by rfl) ?_ | refine Ex.gf rfl rfl (ov_get hA 6 rfl) (by rfl) (by rfl) ?_ | (refine Ex.pfo hA 0 rfl rfl rfl (by rfl) (by rfl) (by rfl) ?_; dsimp only [List.set]) | (refine Ex.pfo hA 1 rfl rfl rfl (by rfl) (by rfl) (by rfl) ?_; dsimp only [List.set]) | (refine Ex.pfo hA 2 rfl rfl rfl (by rfl) (by rfl) (by rfl) ?_; dsimp only [List.set]) | (refine Ex.pfo hA 3 rfl rfl rfl (by rfl) (by rfl) (by rfl) ?_; dsimp only [List.set]) | (refine Ex.pfo hA 4 rfl rfl rfl (by rfl) (by rfl) (by rfl) ?_; dsimp only [List.set]) | (refine Ex.pfo hA 5 rfl rfl rfl (by rfl) (by rfl) (by rfl) ?_; dsimp only [List.set]) | (refine Ex.pfo hA 6 rfl rfl rfl (by rfl) (by rfl) (by rfl) ?_; dsimp only [List.set])))
      refine Ex.ret rfl rfl rfl ?_
      show Q (some (.int 4)) (ov G1 [(364, cO 11 (rG (nI E) (nI fx) (tdy lg E) (nI (acl lg E).length) (nI (osl lg E).length) (nI (vsl lg (E + 1)).length - 0) (nI (rsl lg (E + 1)).length - 0) 0 sh shs w mn im tp rs))])
      have ev : nI (vsl lg (E + 1)).length - 0 = nI (vsl lg E).length := by rw [eV, hc]; rw [if_neg (by decide), List.append_nil]; exact Int32.sub_zero _
      have er : nI (rsl lg (E + 1)).length - 0 = nI (rsl lg E).length := by rw [eR, hc]; rw [if_neg (by decide), List.append_nil]; exact Int32.sub_zero _
      rw [ev, er]
      refine k0 _ ⟨w, pt, vl, pp, va, pa, wa, ⟨⟨(by first | exact ov_get hA 0 rfl | exact ov_get hA 1 rfl | exact ov_get hA 2 rfl | exact ov_get hA 3 rfl | exact ov_get hA 4 rfl | (rw [ov_ne (by simp)]; assumption)), rfl, rfl, rfl, rfl, rfl, rfl, rfl, rfl, rfl, rfl, rfl⟩, ⟨(by first | exact ov_get hA 0 rfl | exact ov_get hA 1 rfl | exact ov_get hA 2 rfl | exact ov_get hA 3 rfl | exact ov_get hA 4 rfl | (rw [ov_ne (by simp)]; assumption)), (by first | exact ov_get hA 0 rfl | exact ov_get hA 1 rfl | exact ov_get hA 2 rfl | exact ov_get hA 3 rfl | exact ov_get hA 4 rfl | (rw [ov_ne (by simp)]; assumption)), (by first | exact ov_get hA 0 rfl | exact ov_get hA 1 rfl | exact ov_get hA 2 rfl | exact ov_get hA 3 rfl | exact ov_get hA 4 rfl | (rw [ov_ne (by simp)]; assumption)), (by first | exact ov_get hA 0 rfl | exact ov_get hA 1 rfl | exact ov_get hA 2 rfl | exact ov_get hA 3 rfl | exact ov_get hA 4 rfl | (rw [ov_ne (by simp)]; assumption)), (by first | exact ov_get hA 0 rfl | exact ov_get hA 1 rfl | exact ov_get hA 2 rfl | exact ov_get hA 3 rfl | exact ov_get hA 4 rfl | (rw [ov_ne (by simp)]; assumption)), (by first | exact ov_get hA 0 rfl | exact ov_get hA 1 rfl | exact ov_get hA 2 rfl | exact ov_get hA 3 rfl | exact ov_get hA 4 rfl | (rw [ov_ne (by simp)]; assumption)), (by first | exact ov_get hA 0 rfl | exact ov_get hA 1 rfl | exact ov_get hA 2 rfl | exact ov_get hA 3 rfl | exact ov_get hA 4 rfl | (rw [ov_ne (by simp)]; assumption)), (by first | exact ov_get hA 0 rfl | exact ov_get hA 1 rfl | exact ov_get hA 2 rfl | exact ov_get hA 3 rfl | exact ov_get hA 4 rfl | (rw [ov_ne (by simp)]; assumption))⟩, by omega, by rw [eV, List.length_append] at hV; omega⟩, RI_U hI rfl (fun u hu => ?_) (fun u hu => ?_) (fun u hu => ?_)⟩ (FA.ov F1 (by simp))
      · have hu1 : u < (vsl lg (E + 1)).length := by rw [eV, List.length_append]; omega
        have a1 := (hI.hp u hu1).1
        rw [psl_s, List.length_append] at a1
        rw [if_neg (fun z => absurd (hc.symm.trans z.1) (by decide))] at a1
        exact a1
      · have hu1 : u < (vsl lg (E + 1)).length := by rw [eV, List.length_append]; omega
        have a1 := (hI.hw u hu1).1
        rw [wsl_s, List.length_append] at a1
        rw [if_neg (fun z => absurd (hc.symm.trans z.1) (by decide))] at a1
        exact a1
      · have hu1 : u < (vsl lg (E + 1)).length := by rw [eV, List.length_append]; omega
        have a1 := hI.hq u hu1
        rw [qsl_s, List.length_append] at a1
        rw [if_neg (fun z => absurd (hc.symm.trans z.1) (by decide))] at a1
        exact a1
    · -- code 5
      have hc' : lg (18 * E) = 5 := hc
      rw [hc'] at k0 ⊢
      have hA : ap ([(364, cO 11 (rF E fx (tdy lg E) (acl lg E).length (osl lg E).length (vsl lg (E + 1)).length (rsl lg (E + 1)).length 0 sh shs w mn im tp rs))].map Prod.fst) G1.length := apG (as := [364]) (by decide) (by decide) hL1
      refine Ex.lay [(364, cO 11 (rF E fx (tdy lg E) (acl lg E).length (osl lg E).length (vsl lg (E + 1)).length (rsl lg (E + 1)).length 0 sh shs w mn im tp rs))] (lay1 p0) ?_
      (repeat (first | refine Ex.go rfl rfl ?_ | refine Ex.gf rfl rfl (ov_get hA 0 rfl) (by rfl) (by rfl) ?_ | refine Ex.gf rfl rfl (ov_get hA 1 rfl) (by rfl) (by rfl) ?_ | refine Ex.gf rfl rfl (ov_get hA 2 rfl) (by rfl) (by rfl) ?_ | refine Ex.gf rfl rfl (ov_get hA 3 rfl) (by rfl) (by rfl) ?_ | refine Ex.gf rfl rfl (ov_get hA 4 rfl) (by rfl) (by rfl) ?_ | refine Ex.gf rfl rfl (ov_get hA 5 rfl) (by rfl) (by rfl) ?_ | refine Ex.gf rfl rfl (ov_get hA 6 rfl) (by rfl) (by rfl) ?_ | (refine Ex.pfo hA 0 rfl rfl rfl (by rfl) (by rfl) (by rfl) ?_; dsimp only [List.set]) | (refine Ex.pfo hA 1 rfl rfl rfl (by rfl) (by rfl) (by rfl) ?_; dsimp only [List.set]) | (refine Ex.pfo hA 2 rfl rfl rfl (by rfl) (by rfl) (by rfl) ?_; dsimp only [List.set]) | (refine Ex.pfo hA 3 rfl rfl rfl (by rfl) (by rfl) (by rfl) ?_; dsimp only [List.set]) | (refine Ex.pfo hA 4 rfl rfl rfl (by rfl) (by rfl) (by rfl) ?_; dsimp only [List.set]) | (refine Ex.pfo hA 5 rfl rfl rfl (by rfl) (by rfl) (by rfl) ?_; dsimp only [List.set]) | (refine Ex.pfo hA 6 rfl rfl rfl (by rfl) (by rfl) (by rfl) ?_; dsimp only [List.set])))
      refine Ex.ret rfl rfl rfl ?_
      show Q (some (.int 5)) (ov G1 [(364, cO 11 (rG (nI E) (nI fx) (tdy lg E) (nI (acl lg E).length) (nI (osl lg E).length) (nI (vsl lg (E + 1)).length - 0) (nI (rsl lg (E + 1)).length - 0) 0 sh shs w mn im tp rs))])
      have ev : nI (vsl lg (E + 1)).length - 0 = nI (vsl lg E).length := by rw [eV, hc]; rw [if_neg (by decide), List.append_nil]; exact Int32.sub_zero _
      have er : nI (rsl lg (E + 1)).length - 0 = nI (rsl lg E).length := by rw [eR, hc]; rw [if_neg (by decide), List.append_nil]; exact Int32.sub_zero _
      rw [ev, er]
      refine k0 _ ⟨w, pt, vl, pp, va, pa, wa, ⟨⟨(by first | exact ov_get hA 0 rfl | exact ov_get hA 1 rfl | exact ov_get hA 2 rfl | exact ov_get hA 3 rfl | exact ov_get hA 4 rfl | (rw [ov_ne (by simp)]; assumption)), rfl, rfl, rfl, rfl, rfl, rfl, rfl, rfl, rfl, rfl, rfl⟩, ⟨(by first | exact ov_get hA 0 rfl | exact ov_get hA 1 rfl | exact ov_get hA 2 rfl | exact ov_get hA 3 rfl | exact ov_get hA 4 rfl | (rw [ov_ne (by simp)]; assumption)), (by first | exact ov_get hA 0 rfl | exact ov_get hA 1 rfl | exact ov_get hA 2 rfl | exact ov_get hA 3 rfl | exact ov_get hA 4 rfl | (rw [ov_ne (by simp)]; assumption)), (by first | exact ov_get hA 0 rfl | exact ov_get hA 1 rfl | exact ov_get hA 2 rfl | exact ov_get hA 3 rfl | exact ov_get hA 4 rfl | (rw [ov_ne (by simp)]; assumption)), (by first | exact ov_get hA 0 rfl | exact ov_get hA 1 rfl | exact ov_get hA 2 rfl | exact ov_get hA 3 rfl | exact ov_get hA 4 rfl | (rw [ov_ne (by simp)]; assumption)), (by first | exact ov_get hA 0 rfl | exact ov_get hA 1 rfl | exact ov_get hA 2 rfl | exact ov_get hA 3 rfl | exact ov_get hA 4 rfl | (rw [ov_ne (by simp)]; assumption)), (by first | exact ov_get hA 0 rfl | exact ov_get hA 1 rfl | exact ov_get hA 2 rfl | exact ov_get hA 3 rfl | exact ov_get hA 4 rfl | (rw [ov_ne (by simp)]; assumption)), (by first | exact ov_get hA 0 rfl | exact ov_get hA 1 rfl | exact ov_get hA 2 rfl | exact ov_get hA 3 rfl | exact ov_get hA 4 rfl | (rw [ov_ne (by simp)]; assumption)), (by first | exact ov_get hA 0 rfl | exact ov_get hA 1 rfl | exact ov_get hA 2 rfl | exact ov_get hA 3 rfl | exact ov_get hA 4 rfl | (rw [ov_ne (by simp)]; assumption))⟩, by omega, by rw [eV, List.length_append] at hV; omega⟩, RI_U hI rfl (fun u hu => ?_) (fun u hu => ?_) (fun u hu => ?_)⟩ (FA.ov F1 (by simp))
      · have hu1 : u < (vsl lg (E + 1)).length := by rw [eV, List.length_append]; omega
        have a1 := (hI.hp u hu1).1
        rw [psl_s, List.length_append] at a1
        rw [if_neg (fun z => absurd (hc.symm.trans z.1) (by decide))] at a1
        exact a1
      · have hu1 : u < (vsl lg (E + 1)).length := by rw [eV, List.length_append]; omega
        have a1 := (hI.hw u hu1).1
        rw [wsl_s, List.length_append] at a1
        rw [if_neg (fun z => absurd (hc.symm.trans z.1) (by decide))] at a1
        exact a1
      · have hu1 : u < (vsl lg (E + 1)).length := by rw [eV, List.length_append]; omega
        have a1 := hI.hq u hu1
        rw [qsl_s, List.length_append] at a1
        rw [if_neg (fun z => absurd (hc.symm.trans z.1) (by decide))] at a1
        exact a1
    · -- code 6
      have hc' : lg (18 * E) = 6 := hc
      rw [hc'] at k0 ⊢
      have hA : ap ([(364, cO 11 (rF E fx (tdy lg E) (acl lg E).length (osl lg E).length (vsl lg (E + 1)).length (rsl lg (E + 1)).length 0 sh shs w mn im tp rs))].map Prod.fst) G1.length := apG (as := [364]) (by decide) (by decide) hL1
      refine Ex.lay [(364, cO 11 (rF E fx (tdy lg E) (acl lg E).length (osl lg E).length (vsl lg (E + 1)).length (rsl lg (E + 1)).length 0 sh shs w mn im tp rs))] (lay1 p0) ?_
      (repeat (first | refine Ex.go rfl rfl ?_ | refine Ex.gf rfl rfl (ov_get hA 0 rfl) (by rfl) (by rfl) ?_ | refine Ex.gf rfl rfl (ov_get hA 1 rfl) (by rfl) (by rfl) ?_ | refine Ex.gf rfl rfl (ov_get hA 2 rfl) (by rfl) (by rfl) ?_ | refine Ex.gf rfl rfl (ov_get hA 3 rfl) (by rfl) (by rfl) ?_ | refine Ex.gf rfl rfl (ov_get hA 4 rfl) (by rfl) (by rfl) ?_ | refine Ex.gf rfl rfl (ov_get hA 5 rfl) (by rfl) (by rfl) ?_ | refine Ex.gf rfl rfl (ov_get hA 6 rfl) (by rfl) (by rfl) ?_ | (refine Ex.pfo hA 0 rfl rfl rfl (by rfl) (by rfl) (by rfl) ?_; dsimp only [List.set]) | (refine Ex.pfo hA 1 rfl rfl rfl (by rfl) (by rfl) (by rfl) ?_; dsimp only [List.set]) | (refine Ex.pfo hA 2 rfl rfl rfl (by rfl) (by rfl) (by rfl) ?_; dsimp only [List.set]) | (refine Ex.pfo hA 3 rfl rfl rfl (by rfl) (by rfl) (by rfl) ?_; dsimp only [List.set]) | (refine Ex.pfo hA 4 rfl rfl rfl (by rfl) (by rfl) (by rfl) ?_; dsimp only [List.set]) | (refine Ex.pfo hA 5 rfl rfl rfl (by rfl) (by rfl) (by rfl) ?_; dsimp only [List.set]) | (refine Ex.pfo hA 6 rfl rfl rfl (by rfl) (by rfl) (by rfl) ?_; dsimp only [List.set])))
      refine Ex.ret rfl rfl rfl ?_
      show Q (some (.int 6)) (ov G1 [(364, cO 11 (rG (nI E) (nI fx) (tdy lg E) (nI (acl lg E).length) (nI (osl lg E).length) (nI (vsl lg (E + 1)).length - 0) (nI (rsl lg (E + 1)).length - 0) 0 sh shs w mn im tp rs))])
      have ev : nI (vsl lg (E + 1)).length - 0 = nI (vsl lg E).length := by rw [eV, hc]; rw [if_neg (by decide), List.append_nil]; exact Int32.sub_zero _
      have er : nI (rsl lg (E + 1)).length - 0 = nI (rsl lg E).length := by rw [eR, hc]; rw [if_neg (by decide), List.append_nil]; exact Int32.sub_zero _
      rw [ev, er]
      refine k0 _ ⟨w, pt, vl, pp, va, pa, wa, ⟨⟨(by first | exact ov_get hA 0 rfl | exact ov_get hA 1 rfl | exact ov_get hA 2 rfl | exact ov_get hA 3 rfl | exact ov_get hA 4 rfl | (rw [ov_ne (by simp)]; assumption)), rfl, rfl, rfl, rfl, rfl, rfl, rfl, rfl, rfl, rfl, rfl⟩, ⟨(by first | exact ov_get hA 0 rfl | exact ov_get hA 1 rfl | exact ov_get hA 2 rfl | exact ov_get hA 3 rfl | exact ov_get hA 4 rfl | (rw [ov_ne (by simp)]; assumption)), (by first | exact ov_get hA 0 rfl | exact ov_get hA 1 rfl | exact ov_get hA 2 rfl | exact ov_get hA 3 rfl | exact ov_get hA 4 rfl | (rw [ov_ne (by simp)]; assumption)), (by first | exact ov_get hA 0 rfl | exact ov_get hA 1 rfl | exact ov_get hA 2 rfl | exact ov_get hA 3 rfl | exact ov_get hA 4 rfl | (rw [ov_ne (by simp)]; assumption)), (by first | exact ov_get hA 0 rfl | exact ov_get hA 1 rfl | exact ov_get hA 2 rfl | exact ov_get hA 3 rfl | exact ov_get hA 4 rfl | (rw [ov_ne (by simp)]; assumption)), (by first | exact ov_get hA 0 rfl | exact ov_get hA 1 rfl | exact ov_get hA 2 rfl | exact ov_get hA 3 rfl | exact ov_get hA 4 rfl | (rw [ov_ne (by simp)]; assumption)), (by first | exact ov_get hA 0 rfl | exact ov_get hA 1 rfl | exact ov_get hA 2 rfl | exact ov_get hA 3 rfl | exact ov_get hA 4 rfl | (rw [ov_ne (by simp)]; assumption)), (by first | exact ov_get hA 0 rfl | exact ov_get hA 1 rfl | exact ov_get hA 2 rfl | exact ov_get hA 3 rfl | exact ov_get hA 4 rfl | (rw [ov_ne (by simp)]; assumption)), (by first | exact ov_get hA 0 rfl | exact ov_get hA 1 rfl | exact ov_get hA 2 rfl | exact ov_get hA 3 rfl | exact ov_get hA 4 rfl | (rw [ov_ne (by simp)]; assumption))⟩, by omega, by rw [eV, List.length_append] at hV; omega⟩, RI_U hI rfl (fun u hu => ?_) (fun u hu => ?_) (fun u hu => ?_)⟩ (FA.ov F1 (by simp))
      · have hu1 : u < (vsl lg (E + 1)).length := by rw [eV, List.length_append]; omega
        have a1 := (hI.hp u hu1).1
        rw [psl_s, List.length_append] at a1
        rw [if_neg (fun z => absurd (hc.symm.trans z.1) (by decide))] at a1
        exact a1
      · have hu1 : u < (vsl lg (E + 1)).length := by rw [eV, List.length_append]; omega
        have a1 := (hI.hw u hu1).1
        rw [wsl_s, List.length_append] at a1
        rw [if_neg (fun z => absurd (hc.symm.trans z.1) (by decide))] at a1
        exact a1
      · have hu1 : u < (vsl lg (E + 1)).length := by rw [eV, List.length_append]; omega
        have a1 := hI.hq u hu1
        rw [qsl_s, List.length_append] at a1
        rw [if_neg (fun z => absurd (hc.symm.trans z.1) (by decide))] at a1
        exact a1
    · -- code 7
      have hc' : lg (18 * E) = 7 := hc
      rw [hc'] at k0 ⊢
      have hA : ap ([(364, cO 11 (rF E fx (tdy lg E) (acl lg E).length (osl lg E).length (vsl lg (E + 1)).length (rsl lg (E + 1)).length 0 sh shs w mn im tp rs))].map Prod.fst) G1.length := apG (as := [364]) (by decide) (by decide) hL1
      refine Ex.lay [(364, cO 11 (rF E fx (tdy lg E) (acl lg E).length (osl lg E).length (vsl lg (E + 1)).length (rsl lg (E + 1)).length 0 sh shs w mn im tp rs))] (lay1 p0) ?_
      (repeat (first | refine Ex.go rfl rfl ?_ | refine Ex.gf rfl rfl (ov_get hA 0 rfl) (by rfl) (by rfl) ?_ | refine Ex.gf rfl rfl (ov_get hA 1 rfl) (by rfl) (by rfl) ?_ | refine Ex.gf rfl rfl (ov_get hA 2 rfl) (by rfl) (by rfl) ?_ | refine Ex.gf rfl rfl (ov_get hA 3 rfl) (by rfl) (by rfl) ?_ | refine Ex.gf rfl rfl (ov_get hA 4 rfl) (by rfl) (by rfl) ?_ | refine Ex.gf rfl rfl (ov_get hA 5 rfl) (by rfl) (by rfl) ?_ | refine Ex.gf rfl rfl (ov_get hA 6 rfl) (by rfl) (by rfl) ?_ | (refine Ex.pfo hA 0 rfl rfl rfl (by rfl) (by rfl) (by rfl) ?_; dsimp only [List.set]) | (refine Ex.pfo hA 1 rfl rfl rfl (by rfl) (by rfl) (by rfl) ?_; dsimp only [List.set]) | (refine Ex.pfo hA 2 rfl rfl rfl (by rfl) (by rfl) (by rfl) ?_; dsimp only [List.set]) | (refine Ex.pfo hA 3 rfl rfl rfl (by rfl) (by rfl) (by rfl) ?_; dsimp only [List.set]) | (refine Ex.pfo hA 4 rfl rfl rfl (by rfl) (by rfl) (by rfl) ?_; dsimp only [List.set]) | (refine Ex.pfo hA 5 rfl rfl rfl (by rfl) (by rfl) (by rfl) ?_; dsimp only [List.set]) | (refine Ex.pfo hA 6 rfl rfl rfl (by rfl) (by rfl) (by rfl) ?_; dsimp only [List.set])))
      refine Ex.ret rfl rfl rfl ?_
      show Q (some (.int 7)) (ov G1 [(364, cO 11 (rG (nI E) (nI fx) (tdy lg E) (nI (acl lg E).length) (nI (osl lg E).length) (nI (vsl lg (E + 1)).length - 0) (nI (rsl lg (E + 1)).length - 0) 0 sh shs w mn im tp rs))])
      have ev : nI (vsl lg (E + 1)).length - 0 = nI (vsl lg E).length := by rw [eV, hc]; rw [if_neg (by decide), List.append_nil]; exact Int32.sub_zero _
      have er : nI (rsl lg (E + 1)).length - 0 = nI (rsl lg E).length := by rw [eR, hc]; rw [if_neg (by decide), List.append_nil]; exact Int32.sub_zero _
      rw [ev, er]
      refine k0 _ ⟨w, pt, vl, pp, va, pa, wa, ⟨⟨(by first | exact ov_get hA 0 rfl | exact ov_get hA 1 rfl | exact ov_get hA 2 rfl | exact ov_get hA 3 rfl | exact ov_get hA 4 rfl | (rw [ov_ne (by simp)]; assumption)), rfl, rfl, rfl, rfl, rfl, rfl, rfl, rfl, rfl, rfl, rfl⟩, ⟨(by first | exact ov_get hA 0 rfl | exact ov_get hA 1 rfl | exact ov_get hA 2 rfl | exact ov_get hA 3 rfl | exact ov_get hA 4 rfl | (rw [ov_ne (by simp)]; assumption)), (by first | exact ov_get hA 0 rfl | exact ov_get hA 1 rfl | exact ov_get hA 2 rfl | exact ov_get hA 3 rfl | exact ov_get hA 4 rfl | (rw [ov_ne (by simp)]; assumption)), (by first | exact ov_get hA 0 rfl | exact ov_get hA 1 rfl | exact ov_get hA 2 rfl | exact ov_get hA 3 rfl | exact ov_get hA 4 rfl | (rw [ov_ne (by simp)]; assumption)), (by first | exact ov_get hA 0 rfl | exact ov_get hA 1 rfl | exact ov_get hA 2 rfl | exact ov_get hA 3 rfl | exact ov_get hA 4 rfl | (rw [ov_ne (by simp)]; assumption)), (by first | exact ov_get hA 0 rfl | exact ov_get hA 1 rfl | exact ov_get hA 2 rfl | exact ov_get hA 3 rfl | exact ov_get hA 4 rfl | (rw [ov_ne (by simp)]; assumption)), (by first | exact ov_get hA 0 rfl | exact ov_get hA 1 rfl | exact ov_get hA 2 rfl | exact ov_get hA 3 rfl | exact ov_get hA 4 rfl | (rw [ov_ne (by simp)]; assumption)), (by first | exact ov_get hA 0 rfl | exact ov_get hA 1 rfl | exact ov_get hA 2 rfl | exact ov_get hA 3 rfl | exact ov_get hA 4 rfl | (rw [ov_ne (by simp)]; assumption)), (by first | exact ov_get hA 0 rfl | exact ov_get hA 1 rfl | exact ov_get hA 2 rfl | exact ov_get hA 3 rfl | exact ov_get hA 4 rfl | (rw [ov_ne (by simp)]; assumption))⟩, by omega, by rw [eV, List.length_append] at hV; omega⟩, RI_U hI rfl (fun u hu => ?_) (fun u hu => ?_) (fun u hu => ?_)⟩ (FA.ov F1 (by simp))
      · have hu1 : u < (vsl lg (E + 1)).length := by rw [eV, List.length_append]; omega
        have a1 := (hI.hp u hu1).1
        rw [psl_s, List.length_append] at a1
        rw [if_neg (fun z => absurd (hc.symm.trans z.1) (by decide))] at a1
        exact a1
      · have hu1 : u < (vsl lg (E + 1)).length := by rw [eV, List.length_append]; omega
        have a1 := (hI.hw u hu1).1
        rw [wsl_s, List.length_append] at a1
        rw [if_neg (fun z => absurd (hc.symm.trans z.1) (by decide))] at a1
        exact a1
      · have hu1 : u < (vsl lg (E + 1)).length := by rw [eV, List.length_append]; omega
        have a1 := hI.hq u hu1
        rw [qsl_s, List.length_append] at a1
        rw [if_neg (fun z => absurd (hc.symm.trans z.1) (by decide))] at a1
        exact a1
    · -- code 8
      have hc' : lg (18 * E) = 8 := hc
      rw [hc'] at k0 ⊢
      obtain ⟨v, hv, e0⟩ := vess (by rw [hc]; decide) (by rw [hc]; decide)
      have hv1 : v < (vsl lg (E + 1)).length := by rw [eV, List.length_append]; omega
      rw [e0]
      have hA : ap ([(364, cO 11 (rF E fx (tdy lg E) (acl lg E).length (osl lg E).length (vsl lg (E + 1)).length (rsl lg (E + 1)).length 0 sh shs w mn im tp rs)), (368, cI 30 vl)].map Prod.fst) G1.length := apG (as := [364, 368]) (by decide) (by decide) hL1
      refine Ex.lay [(364, cO 11 (rF E fx (tdy lg E) (acl lg E).length (osl lg E).length (vsl lg (E + 1)).length (rsl lg (E + 1)).length 0 sh shs w mn im tp rs)), (368, cI 30 vl)] (by simp only [List.forall_mem_cons]; exact ⟨p0, b2, fun _ z => absurd z List.not_mem_nil⟩) ?_
      (repeat (first | refine Ex.go rfl rfl ?_ | refine Ex.gf rfl rfl (ov_get hA 0 rfl) (by rfl) (by rfl) ?_ | refine Ex.gf rfl rfl (ov_get hA 1 rfl) (by rfl) (by rfl) ?_ | refine Ex.gf rfl rfl (ov_get hA 2 rfl) (by rfl) (by rfl) ?_ | refine Ex.gf rfl rfl (ov_get hA 3 rfl) (by rfl) (by rfl) ?_ | refine Ex.gf rfl rfl (ov_get hA 4 rfl) (by rfl) (by rfl) ?_ | refine Ex.gf rfl rfl (ov_get hA 5 rfl) (by rfl) (by rfl) ?_ | refine Ex.gf rfl rfl (ov_get hA 6 rfl) (by rfl) (by rfl) ?_ | (refine Ex.pfo hA 0 rfl rfl rfl (by rfl) (by rfl) (by rfl) ?_; dsimp only [List.set]) | (refine Ex.pfo hA 1 rfl rfl rfl (by rfl) (by rfl) (by rfl) ?_; dsimp only [List.set]) | (refine Ex.pfo hA 2 rfl rfl rfl (by rfl) (by rfl) (by rfl) ?_; dsimp only [List.set]) | (refine Ex.pfo hA 3 rfl rfl rfl (by rfl) (by rfl) (by rfl) ?_; dsimp only [List.set]) | (refine Ex.pfo hA 4 rfl rfl rfl (by rfl) (by rfl) (by rfl) ?_; dsimp only [List.set]) | (refine Ex.pfo hA 5 rfl rfl rfl (by rfl) (by rfl) (by rfl) ?_; dsimp only [List.set]) | (refine Ex.pfo hA 6 rfl rfl rfl (by rfl) (by rfl) (by rfl) ?_; dsimp only [List.set])))
      refine Ex.ialo hA 1 rfl (j := v) rfl rfl (by omega) (by omega) ?_
      (repeat (first | refine Ex.go rfl rfl ?_ | refine Ex.gf rfl rfl (ov_get hA 0 rfl) (by rfl) (by rfl) ?_ | refine Ex.gf rfl rfl (ov_get hA 1 rfl) (by rfl) (by rfl) ?_ | refine Ex.gf rfl rfl (ov_get hA 2 rfl) (by rfl) (by rfl) ?_ | refine Ex.gf rfl rfl (ov_get hA 3 rfl) (by rfl) (by rfl) ?_ | refine Ex.gf rfl rfl (ov_get hA 4 rfl) (by rfl) (by rfl) ?_ | refine Ex.gf rfl rfl (ov_get hA 5 rfl) (by rfl) (by rfl) ?_ | refine Ex.gf rfl rfl (ov_get hA 6 rfl) (by rfl) (by rfl) ?_ | (refine Ex.pfo hA 0 rfl rfl rfl (by rfl) (by rfl) (by rfl) ?_; dsimp only [List.set]) | (refine Ex.pfo hA 1 rfl rfl rfl (by rfl) (by rfl) (by rfl) ?_; dsimp only [List.set]) | (refine Ex.pfo hA 2 rfl rfl rfl (by rfl) (by rfl) (by rfl) ?_; dsimp only [List.set]) | (refine Ex.pfo hA 3 rfl rfl rfl (by rfl) (by rfl) (by rfl) ?_; dsimp only [List.set]) | (refine Ex.pfo hA 4 rfl rfl rfl (by rfl) (by rfl) (by rfl) ?_; dsimp only [List.set]) | (refine Ex.pfo hA 5 rfl rfl rfl (by rfl) (by rfl) (by rfl) ?_; dsimp only [List.set]) | (refine Ex.pfo hA 6 rfl rfl rfl (by rfl) (by rfl) (by rfl) ?_; dsimp only [List.set])))
      refine Ex.iaso hA 1 rfl (j := v) rfl rfl (by omega) (by omega) ?_
      dsimp only [List.set]
      (repeat (first | refine Ex.go rfl rfl ?_ | refine Ex.gf rfl rfl (ov_get hA 0 rfl) (by rfl) (by rfl) ?_ | refine Ex.gf rfl rfl (ov_get hA 1 rfl) (by rfl) (by rfl) ?_ | refine Ex.gf rfl rfl (ov_get hA 2 rfl) (by rfl) (by rfl) ?_ | refine Ex.gf rfl rfl (ov_get hA 3 rfl) (by rfl) (by rfl) ?_ | refine Ex.gf rfl rfl (ov_get hA 4 rfl) (by rfl) (by rfl) ?_ | refine Ex.gf rfl rfl (ov_get hA 5 rfl) (by rfl) (by rfl) ?_ | refine Ex.gf rfl rfl (ov_get hA 6 rfl) (by rfl) (by rfl) ?_ | (refine Ex.pfo hA 0 rfl rfl rfl (by rfl) (by rfl) (by rfl) ?_; dsimp only [List.set]) | (refine Ex.pfo hA 1 rfl rfl rfl (by rfl) (by rfl) (by rfl) ?_; dsimp only [List.set]) | (refine Ex.pfo hA 2 rfl rfl rfl (by rfl) (by rfl) (by rfl) ?_; dsimp only [List.set]) | (refine Ex.pfo hA 3 rfl rfl rfl (by rfl) (by rfl) (by rfl) ?_; dsimp only [List.set]) | (refine Ex.pfo hA 4 rfl rfl rfl (by rfl) (by rfl) (by rfl) ?_; dsimp only [List.set]) | (refine Ex.pfo hA 5 rfl rfl rfl (by rfl) (by rfl) (by rfl) ?_; dsimp only [List.set]) | (refine Ex.pfo hA 6 rfl rfl rfl (by rfl) (by rfl) (by rfl) ?_; dsimp only [List.set])))
      refine Ex.ret rfl rfl rfl ?_
      show Q (some (.int 8)) (ov G1 [(364, cO 11 (rG (nI E) (nI fx) (tdy lg E) (nI (acl lg E).length) (nI (osl lg E).length) (nI (vsl lg (E + 1)).length - 0) (nI (rsl lg (E + 1)).length - 0) 0 sh shs w mn im tp rs)), (368, cI 30 (upd vl v (vl v - 1)))])
      have ev : nI (vsl lg (E + 1)).length - 0 = nI (vsl lg E).length := by rw [eV, hc]; rw [if_neg (by decide), List.append_nil]; exact Int32.sub_zero _
      have er : nI (rsl lg (E + 1)).length - 0 = nI (rsl lg E).length := by rw [eR, hc]; rw [if_neg (by decide), List.append_nil]; exact Int32.sub_zero _
      rw [ev, er]
      refine k0 _ ⟨w, pt, (upd vl v (vl v - 1)), pp, va, pa, wa, ⟨⟨(by first | exact ov_get hA 0 rfl | exact ov_get hA 1 rfl | exact ov_get hA 2 rfl | exact ov_get hA 3 rfl | exact ov_get hA 4 rfl | (rw [ov_ne (by simp)]; assumption)), rfl, rfl, rfl, rfl, rfl, rfl, rfl, rfl, rfl, rfl, rfl⟩, ⟨(by first | exact ov_get hA 0 rfl | exact ov_get hA 1 rfl | exact ov_get hA 2 rfl | exact ov_get hA 3 rfl | exact ov_get hA 4 rfl | (rw [ov_ne (by simp)]; assumption)), (by first | exact ov_get hA 0 rfl | exact ov_get hA 1 rfl | exact ov_get hA 2 rfl | exact ov_get hA 3 rfl | exact ov_get hA 4 rfl | (rw [ov_ne (by simp)]; assumption)), (by first | exact ov_get hA 0 rfl | exact ov_get hA 1 rfl | exact ov_get hA 2 rfl | exact ov_get hA 3 rfl | exact ov_get hA 4 rfl | (rw [ov_ne (by simp)]; assumption)), (by first | exact ov_get hA 0 rfl | exact ov_get hA 1 rfl | exact ov_get hA 2 rfl | exact ov_get hA 3 rfl | exact ov_get hA 4 rfl | (rw [ov_ne (by simp)]; assumption)), (by first | exact ov_get hA 0 rfl | exact ov_get hA 1 rfl | exact ov_get hA 2 rfl | exact ov_get hA 3 rfl | exact ov_get hA 4 rfl | (rw [ov_ne (by simp)]; assumption)), (by first | exact ov_get hA 0 rfl | exact ov_get hA 1 rfl | exact ov_get hA 2 rfl | exact ov_get hA 3 rfl | exact ov_get hA 4 rfl | (rw [ov_ne (by simp)]; assumption)), (by first | exact ov_get hA 0 rfl | exact ov_get hA 1 rfl | exact ov_get hA 2 rfl | exact ov_get hA 3 rfl | exact ov_get hA 4 rfl | (rw [ov_ne (by simp)]; assumption)), (by first | exact ov_get hA 0 rfl | exact ov_get hA 1 rfl | exact ov_get hA 2 rfl | exact ov_get hA 3 rfl | exact ov_get hA 4 rfl | (rw [ov_ne (by simp)]; assumption))⟩, by omega, by rw [eV, List.length_append] at hV; omega⟩, RI_U hI rfl (fun u hu => ?_) (fun u hu => ?_) (fun u hu => ?_)⟩ (FA.ov F1 (by simp))
      · have hu1 : u < (vsl lg (E + 1)).length := by rw [eV, List.length_append]; omega
        have a1 := (hI.hp u hu1).1
        rw [psl_s, List.length_append] at a1
        rw [if_neg (fun z => absurd (hc.symm.trans z.1) (by decide))] at a1
        exact a1
      · have hu1 : u < (vsl lg (E + 1)).length := by rw [eV, List.length_append]; omega
        have a1 := (hI.hw u hu1).1
        rw [wsl_s, List.length_append] at a1
        by_cases hn : num lg E 0 = nI u
        · have huv := eu e0 hn hu1 hv
          rw [if_pos ⟨hc, hn⟩] at a1
          rw [huv] at a1 ⊢
          rw [pk_us, a1]
          exact nI_pred _
        · rw [if_neg (fun z => hn z.2)] at a1
          rw [pk_un (fun z => hn (by rw [z]; exact e0))]
          exact a1
      · have hu1 : u < (vsl lg (E + 1)).length := by rw [eV, List.length_append]; omega
        have a1 := hI.hq u hu1
        rw [qsl_s, List.length_append] at a1
        rw [if_neg (fun z => absurd (hc.symm.trans z.1) (by decide))] at a1
        exact a1
    · -- code 9
      have hc' : lg (18 * E) = 9 := hc
      rw [hc'] at k0 ⊢
      have hA : ap ([(364, cO 11 (rF E fx (tdy lg E) (acl lg E).length (osl lg E).length (vsl lg (E + 1)).length (rsl lg (E + 1)).length 0 sh shs w mn im tp rs))].map Prod.fst) G1.length := apG (as := [364]) (by decide) (by decide) hL1
      refine Ex.lay [(364, cO 11 (rF E fx (tdy lg E) (acl lg E).length (osl lg E).length (vsl lg (E + 1)).length (rsl lg (E + 1)).length 0 sh shs w mn im tp rs))] (lay1 p0) ?_
      (repeat (first | refine Ex.go rfl rfl ?_ | refine Ex.gf rfl rfl (ov_get hA 0 rfl) (by rfl) (by rfl) ?_ | refine Ex.gf rfl rfl (ov_get hA 1 rfl) (by rfl) (by rfl) ?_ | refine Ex.gf rfl rfl (ov_get hA 2 rfl) (by rfl) (by rfl) ?_ | refine Ex.gf rfl rfl (ov_get hA 3 rfl) (by rfl) (by rfl) ?_ | refine Ex.gf rfl rfl (ov_get hA 4 rfl) (by rfl) (by rfl) ?_ | refine Ex.gf rfl rfl (ov_get hA 5 rfl) (by rfl) (by rfl) ?_ | refine Ex.gf rfl rfl (ov_get hA 6 rfl) (by rfl) (by rfl) ?_ | (refine Ex.pfo hA 0 rfl rfl rfl (by rfl) (by rfl) (by rfl) ?_; dsimp only [List.set]) | (refine Ex.pfo hA 1 rfl rfl rfl (by rfl) (by rfl) (by rfl) ?_; dsimp only [List.set]) | (refine Ex.pfo hA 2 rfl rfl rfl (by rfl) (by rfl) (by rfl) ?_; dsimp only [List.set]) | (refine Ex.pfo hA 3 rfl rfl rfl (by rfl) (by rfl) (by rfl) ?_; dsimp only [List.set]) | (refine Ex.pfo hA 4 rfl rfl rfl (by rfl) (by rfl) (by rfl) ?_; dsimp only [List.set]) | (refine Ex.pfo hA 5 rfl rfl rfl (by rfl) (by rfl) (by rfl) ?_; dsimp only [List.set]) | (refine Ex.pfo hA 6 rfl rfl rfl (by rfl) (by rfl) (by rfl) ?_; dsimp only [List.set])))
      refine Ex.ret rfl rfl rfl ?_
      show Q (some (.int 9)) (ov G1 [(364, cO 11 (rG (nI E) (nI fx) (tdy lg E) (nI (acl lg E).length) (nI (osl lg E).length) (nI (vsl lg (E + 1)).length - 0) (nI (rsl lg (E + 1)).length - 0) 0 sh shs w mn im tp rs))])
      have ev : nI (vsl lg (E + 1)).length - 0 = nI (vsl lg E).length := by rw [eV, hc]; rw [if_neg (by decide), List.append_nil]; exact Int32.sub_zero _
      have er : nI (rsl lg (E + 1)).length - 0 = nI (rsl lg E).length := by rw [eR, hc]; rw [if_neg (by decide), List.append_nil]; exact Int32.sub_zero _
      rw [ev, er]
      refine k0 _ ⟨w, pt, vl, pp, va, pa, wa, ⟨⟨(by first | exact ov_get hA 0 rfl | exact ov_get hA 1 rfl | exact ov_get hA 2 rfl | exact ov_get hA 3 rfl | exact ov_get hA 4 rfl | (rw [ov_ne (by simp)]; assumption)), rfl, rfl, rfl, rfl, rfl, rfl, rfl, rfl, rfl, rfl, rfl⟩, ⟨(by first | exact ov_get hA 0 rfl | exact ov_get hA 1 rfl | exact ov_get hA 2 rfl | exact ov_get hA 3 rfl | exact ov_get hA 4 rfl | (rw [ov_ne (by simp)]; assumption)), (by first | exact ov_get hA 0 rfl | exact ov_get hA 1 rfl | exact ov_get hA 2 rfl | exact ov_get hA 3 rfl | exact ov_get hA 4 rfl | (rw [ov_ne (by simp)]; assumption)), (by first | exact ov_get hA 0 rfl | exact ov_get hA 1 rfl | exact ov_get hA 2 rfl | exact ov_get hA 3 rfl | exact ov_get hA 4 rfl | (rw [ov_ne (by simp)]; assumption)), (by first | exact ov_get hA 0 rfl | exact ov_get hA 1 rfl | exact ov_get hA 2 rfl | exact ov_get hA 3 rfl | exact ov_get hA 4 rfl | (rw [ov_ne (by simp)]; assumption)), (by first | exact ov_get hA 0 rfl | exact ov_get hA 1 rfl | exact ov_get hA 2 rfl | exact ov_get hA 3 rfl | exact ov_get hA 4 rfl | (rw [ov_ne (by simp)]; assumption)), (by first | exact ov_get hA 0 rfl | exact ov_get hA 1 rfl | exact ov_get hA 2 rfl | exact ov_get hA 3 rfl | exact ov_get hA 4 rfl | (rw [ov_ne (by simp)]; assumption)), (by first | exact ov_get hA 0 rfl | exact ov_get hA 1 rfl | exact ov_get hA 2 rfl | exact ov_get hA 3 rfl | exact ov_get hA 4 rfl | (rw [ov_ne (by simp)]; assumption)), (by first | exact ov_get hA 0 rfl | exact ov_get hA 1 rfl | exact ov_get hA 2 rfl | exact ov_get hA 3 rfl | exact ov_get hA 4 rfl | (rw [ov_ne (by simp)]; assumption))⟩, by omega, by rw [eV, List.length_append] at hV; omega⟩, RI_U hI rfl (fun u hu => ?_) (fun u hu => ?_) (fun u hu => ?_)⟩ (FA.ov F1 (by simp))
      · have hu1 : u < (vsl lg (E + 1)).length := by rw [eV, List.length_append]; omega
        have a1 := (hI.hp u hu1).1
        rw [psl_s, List.length_append] at a1
        rw [if_neg (fun z => absurd (hc.symm.trans z.1) (by decide))] at a1
        exact a1
      · have hu1 : u < (vsl lg (E + 1)).length := by rw [eV, List.length_append]; omega
        have a1 := (hI.hw u hu1).1
        rw [wsl_s, List.length_append] at a1
        rw [if_neg (fun z => absurd (hc.symm.trans z.1) (by decide))] at a1
        exact a1
      · have hu1 : u < (vsl lg (E + 1)).length := by rw [eV, List.length_append]; omega
        have a1 := hI.hq u hu1
        rw [qsl_s, List.length_append] at a1
        rw [if_neg (fun z => absurd (hc.symm.trans z.1) (by decide))] at a1
        exact a1
    · -- code 10
      have hc' : lg (18 * E) = 10 := hc
      rw [hc'] at k0 ⊢
      obtain ⟨v, hv, e0⟩ := vess (by rw [hc]; decide) (by rw [hc]; decide)
      have hv1 : v < (vsl lg (E + 1)).length := by rw [eV, List.length_append]; omega
      rw [e0]
      have hA : ap ([(364, cO 11 (rF E fx (tdy lg E) (acl lg E).length (osl lg E).length (vsl lg (E + 1)).length (rsl lg (E + 1)).length 0 sh shs w mn im tp rs)), (369, cI 30 pp)].map Prod.fst) G1.length := apG (as := [364, 369]) (by decide) (by decide) hL1
      refine Ex.lay [(364, cO 11 (rF E fx (tdy lg E) (acl lg E).length (osl lg E).length (vsl lg (E + 1)).length (rsl lg (E + 1)).length 0 sh shs w mn im tp rs)), (369, cI 30 pp)] (by simp only [List.forall_mem_cons]; exact ⟨p0, b3, fun _ z => absurd z List.not_mem_nil⟩) ?_
      (repeat (first | refine Ex.go rfl rfl ?_ | refine Ex.gf rfl rfl (ov_get hA 0 rfl) (by rfl) (by rfl) ?_ | refine Ex.gf rfl rfl (ov_get hA 1 rfl) (by rfl) (by rfl) ?_ | refine Ex.gf rfl rfl (ov_get hA 2 rfl) (by rfl) (by rfl) ?_ | refine Ex.gf rfl rfl (ov_get hA 3 rfl) (by rfl) (by rfl) ?_ | refine Ex.gf rfl rfl (ov_get hA 4 rfl) (by rfl) (by rfl) ?_ | refine Ex.gf rfl rfl (ov_get hA 5 rfl) (by rfl) (by rfl) ?_ | refine Ex.gf rfl rfl (ov_get hA 6 rfl) (by rfl) (by rfl) ?_ | (refine Ex.pfo hA 0 rfl rfl rfl (by rfl) (by rfl) (by rfl) ?_; dsimp only [List.set]) | (refine Ex.pfo hA 1 rfl rfl rfl (by rfl) (by rfl) (by rfl) ?_; dsimp only [List.set]) | (refine Ex.pfo hA 2 rfl rfl rfl (by rfl) (by rfl) (by rfl) ?_; dsimp only [List.set]) | (refine Ex.pfo hA 3 rfl rfl rfl (by rfl) (by rfl) (by rfl) ?_; dsimp only [List.set]) | (refine Ex.pfo hA 4 rfl rfl rfl (by rfl) (by rfl) (by rfl) ?_; dsimp only [List.set]) | (refine Ex.pfo hA 5 rfl rfl rfl (by rfl) (by rfl) (by rfl) ?_; dsimp only [List.set]) | (refine Ex.pfo hA 6 rfl rfl rfl (by rfl) (by rfl) (by rfl) ?_; dsimp only [List.set])))
      refine Ex.ialo hA 1 rfl (j := v) rfl rfl (by omega) (by omega) ?_
      (repeat (first | refine Ex.go rfl rfl ?_ | refine Ex.gf rfl rfl (ov_get hA 0 rfl) (by rfl) (by rfl) ?_ | refine Ex.gf rfl rfl (ov_get hA 1 rfl) (by rfl) (by rfl) ?_ | refine Ex.gf rfl rfl (ov_get hA 2 rfl) (by rfl) (by rfl) ?_ | refine Ex.gf rfl rfl (ov_get hA 3 rfl) (by rfl) (by rfl) ?_ | refine Ex.gf rfl rfl (ov_get hA 4 rfl) (by rfl) (by rfl) ?_ | refine Ex.gf rfl rfl (ov_get hA 5 rfl) (by rfl) (by rfl) ?_ | refine Ex.gf rfl rfl (ov_get hA 6 rfl) (by rfl) (by rfl) ?_ | (refine Ex.pfo hA 0 rfl rfl rfl (by rfl) (by rfl) (by rfl) ?_; dsimp only [List.set]) | (refine Ex.pfo hA 1 rfl rfl rfl (by rfl) (by rfl) (by rfl) ?_; dsimp only [List.set]) | (refine Ex.pfo hA 2 rfl rfl rfl (by rfl) (by rfl) (by rfl) ?_; dsimp only [List.set]) | (refine Ex.pfo hA 3 rfl rfl rfl (by rfl) (by rfl) (by rfl) ?_; dsimp only [List.set]) | (refine Ex.pfo hA 4 rfl rfl rfl (by rfl) (by rfl) (by rfl) ?_; dsimp only [List.set]) | (refine Ex.pfo hA 5 rfl rfl rfl (by rfl) (by rfl) (by rfl) ?_; dsimp only [List.set]) | (refine Ex.pfo hA 6 rfl rfl rfl (by rfl) (by rfl) (by rfl) ?_; dsimp only [List.set])))
      refine Ex.iaso hA 1 rfl (j := v) rfl rfl (by omega) (by omega) ?_
      dsimp only [List.set]
      (repeat (first | refine Ex.go rfl rfl ?_ | refine Ex.gf rfl rfl (ov_get hA 0 rfl) (by rfl) (by rfl) ?_ | refine Ex.gf rfl rfl (ov_get hA 1 rfl) (by rfl) (by rfl) ?_ | refine Ex.gf rfl rfl (ov_get hA 2 rfl) (by rfl) (by rfl) ?_ | refine Ex.gf rfl rfl (ov_get hA 3 rfl) (by rfl) (by rfl) ?_ | refine Ex.gf rfl rfl (ov_get hA 4 rfl) (by rfl) (by rfl) ?_ | refine Ex.gf rfl rfl (ov_get hA 5 rfl) (by rfl) (by rfl) ?_ | refine Ex.gf rfl rfl (ov_get hA 6 rfl) (by rfl) (by rfl) ?_ | (refine Ex.pfo hA 0 rfl rfl rfl (by rfl) (by rfl) (by rfl) ?_; dsimp only [List.set]) | (refine Ex.pfo hA 1 rfl rfl rfl (by rfl) (by rfl) (by rfl) ?_; dsimp only [List.set]) | (refine Ex.pfo hA 2 rfl rfl rfl (by rfl) (by rfl) (by rfl) ?_; dsimp only [List.set]) | (refine Ex.pfo hA 3 rfl rfl rfl (by rfl) (by rfl) (by rfl) ?_; dsimp only [List.set]) | (refine Ex.pfo hA 4 rfl rfl rfl (by rfl) (by rfl) (by rfl) ?_; dsimp only [List.set]) | (refine Ex.pfo hA 5 rfl rfl rfl (by rfl) (by rfl) (by rfl) ?_; dsimp only [List.set]) | (refine Ex.pfo hA 6 rfl rfl rfl (by rfl) (by rfl) (by rfl) ?_; dsimp only [List.set])))
      refine Ex.ret rfl rfl rfl ?_
      show Q (some (.int 10)) (ov G1 [(364, cO 11 (rG (nI E) (nI fx) (tdy lg E) (nI (acl lg E).length) (nI (osl lg E).length) (nI (vsl lg (E + 1)).length - 0) (nI (rsl lg (E + 1)).length - 0) 0 sh shs w mn im tp rs)), (369, cI 30 (upd pp v (pp v - 1)))])
      have ev : nI (vsl lg (E + 1)).length - 0 = nI (vsl lg E).length := by rw [eV, hc]; rw [if_neg (by decide), List.append_nil]; exact Int32.sub_zero _
      have er : nI (rsl lg (E + 1)).length - 0 = nI (rsl lg E).length := by rw [eR, hc]; rw [if_neg (by decide), List.append_nil]; exact Int32.sub_zero _
      rw [ev, er]
      refine k0 _ ⟨w, pt, vl, (upd pp v (pp v - 1)), va, pa, wa, ⟨⟨(by first | exact ov_get hA 0 rfl | exact ov_get hA 1 rfl | exact ov_get hA 2 rfl | exact ov_get hA 3 rfl | exact ov_get hA 4 rfl | (rw [ov_ne (by simp)]; assumption)), rfl, rfl, rfl, rfl, rfl, rfl, rfl, rfl, rfl, rfl, rfl⟩, ⟨(by first | exact ov_get hA 0 rfl | exact ov_get hA 1 rfl | exact ov_get hA 2 rfl | exact ov_get hA 3 rfl | exact ov_get hA 4 rfl | (rw [ov_ne (by simp)]; assumption)), (by first | exact ov_get hA 0 rfl | exact ov_get hA 1 rfl | exact ov_get hA 2 rfl | exact ov_get hA 3 rfl | exact ov_get hA 4 rfl | (rw [ov_ne (by simp)]; assumption)), (by first | exact ov_get hA 0 rfl | exact ov_get hA 1 rfl | exact ov_get hA 2 rfl | exact ov_get hA 3 rfl | exact ov_get hA 4 rfl | (rw [ov_ne (by simp)]; assumption)), (by first | exact ov_get hA 0 rfl | exact ov_get hA 1 rfl | exact ov_get hA 2 rfl | exact ov_get hA 3 rfl | exact ov_get hA 4 rfl | (rw [ov_ne (by simp)]; assumption)), (by first | exact ov_get hA 0 rfl | exact ov_get hA 1 rfl | exact ov_get hA 2 rfl | exact ov_get hA 3 rfl | exact ov_get hA 4 rfl | (rw [ov_ne (by simp)]; assumption)), (by first | exact ov_get hA 0 rfl | exact ov_get hA 1 rfl | exact ov_get hA 2 rfl | exact ov_get hA 3 rfl | exact ov_get hA 4 rfl | (rw [ov_ne (by simp)]; assumption)), (by first | exact ov_get hA 0 rfl | exact ov_get hA 1 rfl | exact ov_get hA 2 rfl | exact ov_get hA 3 rfl | exact ov_get hA 4 rfl | (rw [ov_ne (by simp)]; assumption)), (by first | exact ov_get hA 0 rfl | exact ov_get hA 1 rfl | exact ov_get hA 2 rfl | exact ov_get hA 3 rfl | exact ov_get hA 4 rfl | (rw [ov_ne (by simp)]; assumption))⟩, by omega, by rw [eV, List.length_append] at hV; omega⟩, RI_U hI rfl (fun u hu => ?_) (fun u hu => ?_) (fun u hu => ?_)⟩ (FA.ov F1 (by simp))
      · have hu1 : u < (vsl lg (E + 1)).length := by rw [eV, List.length_append]; omega
        have a1 := (hI.hp u hu1).1
        rw [psl_s, List.length_append] at a1
        rw [if_neg (fun z => absurd (hc.symm.trans z.1) (by decide))] at a1
        exact a1
      · have hu1 : u < (vsl lg (E + 1)).length := by rw [eV, List.length_append]; omega
        have a1 := (hI.hw u hu1).1
        rw [wsl_s, List.length_append] at a1
        rw [if_neg (fun z => absurd (hc.symm.trans z.1) (by decide))] at a1
        exact a1
      · have hu1 : u < (vsl lg (E + 1)).length := by rw [eV, List.length_append]; omega
        have a1 := hI.hq u hu1
        rw [qsl_s, List.length_append] at a1
        by_cases hn : num lg E 0 = nI u
        · have huv := eu e0 hn hu1 hv
          rw [if_pos ⟨hc, hn⟩] at a1
          rw [huv] at a1 ⊢
          rw [pk_us, a1]
          exact nI_pred _
        · rw [if_neg (fun z => hn z.2)] at a1
          rw [pk_un (fun z => hn (by rw [z]; exact e0))]
          exact a1
    · -- code 11
      have hc' : lg (18 * E) = 11 := hc
      rw [hc'] at k0 ⊢
      have hA : ap ([(364, cO 11 (rF E fx (tdy lg E) (acl lg E).length (osl lg E).length (vsl lg (E + 1)).length (rsl lg (E + 1)).length 0 sh shs w mn im tp rs))].map Prod.fst) G1.length := apG (as := [364]) (by decide) (by decide) hL1
      refine Ex.lay [(364, cO 11 (rF E fx (tdy lg E) (acl lg E).length (osl lg E).length (vsl lg (E + 1)).length (rsl lg (E + 1)).length 0 sh shs w mn im tp rs))] (lay1 p0) ?_
      (repeat (first | refine Ex.go rfl rfl ?_ | refine Ex.gf rfl rfl (ov_get hA 0 rfl) (by rfl) (by rfl) ?_ | refine Ex.gf rfl rfl (ov_get hA 1 rfl) (by rfl) (by rfl) ?_ | refine Ex.gf rfl rfl (ov_get hA 2 rfl) (by rfl) (by rfl) ?_ | refine Ex.gf rfl rfl (ov_get hA 3 rfl) (by rfl) (by rfl) ?_ | refine Ex.gf rfl rfl (ov_get hA 4 rfl) (by rfl) (by rfl) ?_ | refine Ex.gf rfl rfl (ov_get hA 5 rfl) (by rfl) (by rfl) ?_ | refine Ex.gf rfl rfl (ov_get hA 6 rfl) (by rfl) (by rfl) ?_ | (refine Ex.pfo hA 0 rfl rfl rfl (by rfl) (by rfl) (by rfl) ?_; dsimp only [List.set]) | (refine Ex.pfo hA 1 rfl rfl rfl (by rfl) (by rfl) (by rfl) ?_; dsimp only [List.set]) | (refine Ex.pfo hA 2 rfl rfl rfl (by rfl) (by rfl) (by rfl) ?_; dsimp only [List.set]) | (refine Ex.pfo hA 3 rfl rfl rfl (by rfl) (by rfl) (by rfl) ?_; dsimp only [List.set]) | (refine Ex.pfo hA 4 rfl rfl rfl (by rfl) (by rfl) (by rfl) ?_; dsimp only [List.set]) | (refine Ex.pfo hA 5 rfl rfl rfl (by rfl) (by rfl) (by rfl) ?_; dsimp only [List.set]) | (refine Ex.pfo hA 6 rfl rfl rfl (by rfl) (by rfl) (by rfl) ?_; dsimp only [List.set])))
      refine Ex.ret rfl rfl rfl ?_
      show Q (some (.int 11)) (ov G1 [(364, cO 11 (rG (nI E) (nI fx) (tdy lg E) (nI (acl lg E).length) (nI (osl lg E).length) (nI (vsl lg (E + 1)).length - 0) (nI (rsl lg (E + 1)).length - 1) 0 sh shs w mn im tp rs))])
      have ev : nI (vsl lg (E + 1)).length - 0 = nI (vsl lg E).length := by rw [eV, hc]; rw [if_neg (by decide), List.append_nil]; exact Int32.sub_zero _
      have er : nI (rsl lg (E + 1)).length - 1 = nI (rsl lg E).length := by rw [eR, hc]; simp only [if_true, List.length_append, List.length_singleton]; exact nI_pred _
      rw [ev, er]
      refine k0 _ ⟨w, pt, vl, pp, va, pa, wa, ⟨⟨(by first | exact ov_get hA 0 rfl | exact ov_get hA 1 rfl | exact ov_get hA 2 rfl | exact ov_get hA 3 rfl | exact ov_get hA 4 rfl | (rw [ov_ne (by simp)]; assumption)), rfl, rfl, rfl, rfl, rfl, rfl, rfl, rfl, rfl, rfl, rfl⟩, ⟨(by first | exact ov_get hA 0 rfl | exact ov_get hA 1 rfl | exact ov_get hA 2 rfl | exact ov_get hA 3 rfl | exact ov_get hA 4 rfl | (rw [ov_ne (by simp)]; assumption)), (by first | exact ov_get hA 0 rfl | exact ov_get hA 1 rfl | exact ov_get hA 2 rfl | exact ov_get hA 3 rfl | exact ov_get hA 4 rfl | (rw [ov_ne (by simp)]; assumption)), (by first | exact ov_get hA 0 rfl | exact ov_get hA 1 rfl | exact ov_get hA 2 rfl | exact ov_get hA 3 rfl | exact ov_get hA 4 rfl | (rw [ov_ne (by simp)]; assumption)), (by first | exact ov_get hA 0 rfl | exact ov_get hA 1 rfl | exact ov_get hA 2 rfl | exact ov_get hA 3 rfl | exact ov_get hA 4 rfl | (rw [ov_ne (by simp)]; assumption)), (by first | exact ov_get hA 0 rfl | exact ov_get hA 1 rfl | exact ov_get hA 2 rfl | exact ov_get hA 3 rfl | exact ov_get hA 4 rfl | (rw [ov_ne (by simp)]; assumption)), (by first | exact ov_get hA 0 rfl | exact ov_get hA 1 rfl | exact ov_get hA 2 rfl | exact ov_get hA 3 rfl | exact ov_get hA 4 rfl | (rw [ov_ne (by simp)]; assumption)), (by first | exact ov_get hA 0 rfl | exact ov_get hA 1 rfl | exact ov_get hA 2 rfl | exact ov_get hA 3 rfl | exact ov_get hA 4 rfl | (rw [ov_ne (by simp)]; assumption)), (by first | exact ov_get hA 0 rfl | exact ov_get hA 1 rfl | exact ov_get hA 2 rfl | exact ov_get hA 3 rfl | exact ov_get hA 4 rfl | (rw [ov_ne (by simp)]; assumption))⟩, by omega, by rw [eV, List.length_append] at hV; omega⟩, RI_U hI rfl (fun u hu => ?_) (fun u hu => ?_) (fun u hu => ?_)⟩ (FA.ov F1 (by simp))
      · have hu1 : u < (vsl lg (E + 1)).length := by rw [eV, List.length_append]; omega
        have a1 := (hI.hp u hu1).1
        rw [psl_s, List.length_append] at a1
        rw [if_neg (fun z => absurd (hc.symm.trans z.1) (by decide))] at a1
        exact a1
      · have hu1 : u < (vsl lg (E + 1)).length := by rw [eV, List.length_append]; omega
        have a1 := (hI.hw u hu1).1
        rw [wsl_s, List.length_append] at a1
        rw [if_neg (fun z => absurd (hc.symm.trans z.1) (by decide))] at a1
        exact a1
      · have hu1 : u < (vsl lg (E + 1)).length := by rw [eV, List.length_append]; omega
        have a1 := hI.hq u hu1
        rw [qsl_s, List.length_append] at a1
        rw [if_neg (fun z => absurd (hc.symm.trans z.1) (by decide))] at a1
        exact a1
  have hst := G1e _ rfl
  have e1 : nI (E + 1) - 1 = nI E := nI_pred E
  have e2 : nI ((acl lg E).length + 1) - 1 = nI (acl lg E).length := nI_pred _
  unfold rF at hst
  rw [← e1, ← e2] at hst
  refine Cx.body rfl rfl ?_
  (repeat (first | refine Ex.go rfl rfl ?_ | refine Ex.gf rfl rfl (by assumption) (by rfl) (by first | rfl | assumption) ?_))
  refine Ex.br (fun h1 => ?_) (fun h1 => ?_); rotate_left
  · exact absurd ((nI_eq (by omega) (by omega)).mp (Decidable.not_not.mp h1)) (by omega)
  refine Ex.lay [(364, cO 11 (rF (E + 1) fx (tdy lg E) ((acl lg E).length + 1) (osl lg E).length (vsl lg (E + 1)).length (rsl lg (E + 1)).length st sh shs w mn im tp rs))] (lay1 q0) ?_
  have hA := ap1 q0
  (repeat (first | exact hst | refine Ex.go rfl rfl ?_ | refine Ex.gf rfl rfl (ov_get hA 0 rfl) (by rfl) (by rfl) ?_ | refine Ex.gf rfl rfl (ov_get hA 1 rfl) (by rfl) (by rfl) ?_ | refine Ex.gf rfl rfl (ov_get hA 2 rfl) (by rfl) (by rfl) ?_ | refine Ex.gf rfl rfl (ov_get hA 3 rfl) (by rfl) (by rfl) ?_ | refine Ex.gf rfl rfl (ov_get hA 4 rfl) (by rfl) (by rfl) ?_ | refine Ex.gf rfl rfl (ov_get hA 5 rfl) (by rfl) (by rfl) ?_ | refine Ex.gf rfl rfl (ov_get hA 6 rfl) (by rfl) (by rfl) ?_ | (refine Ex.pfo hA 0 rfl rfl rfl (by rfl) (by rfl) (by rfl) ?_; dsimp only [List.set]) | (refine Ex.pfo hA 1 rfl rfl rfl (by rfl) (by rfl) (by rfl) ?_; dsimp only [List.set]) | (refine Ex.pfo hA 2 rfl rfl rfl (by rfl) (by rfl) (by rfl) ?_; dsimp only [List.set]) | (refine Ex.pfo hA 3 rfl rfl rfl (by rfl) (by rfl) (by rfl) ?_; dsimp only [List.set]) | (refine Ex.pfo hA 4 rfl rfl rfl (by rfl) (by rfl) (by rfl) ?_; dsimp only [List.set]) | (refine Ex.pfo hA 5 rfl rfl rfl (by rfl) (by rfl) (by rfl) ?_; dsimp only [List.set]) | (refine Ex.pfo hA 6 rfl rfl rfl (by rfl) (by rfl) (by rfl) ?_; dsimp only [List.set])))
end RR
