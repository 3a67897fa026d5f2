/-! The reference's image and tape. -/
section RR
variable {d : Nat} {G G' : bo_G} {Q : Option Value → bo_G → Prop} {lg lg' : Nat → Int32} {E E' fx fx' mn : Nat} {nn gv ls : Nat → Int32} {ts : List Int32} {st sh shs im rs st' sh' shs' : Int32}
theorem img_le {i : Nat} (h : i ≤ E) : (img lg i).length ≤ (img lg E).length := by
  obtain ⟨r, hr⟩ := img_pre lg h
  rw [hr, List.length_append]; omega
theorem WF_img (h : WF lg E) : (img lg E).length ≤ 40000 := by
  have h1 := img_len (lg := lg) (E := E)
  have := h.2.2.1
  have := h.2.2.2
  omega
theorem range_map {f : Nat → Int32} {k : Nat} : (List.range (k + 1)).map f = (List.range k).map f ++ [f k] := by
  rw [List.range_succ, List.map_append]; rfl
theorem r_made {imf : Nat → Int32} {tp rs : Int32} {mnI : Int32} (R : RT G lg E fx st sh shs mnI im tp rs nn) (hW : WF lg E) (hE : E ≤ 6000) (hL : 378 ≤ G.length) (c376 : G[376]? = some (cI 40000 imf)) (k : ∀ L f w, L = [(364, cO 11 (rF E fx (tdy lg E) (acl lg E).length (osl lg E).length (vsl lg E).length (rsl lg E).length st sh shs w mnI (nI (img lg E).length) tp rs)), (376, cI 40000 f)] → ap (L.map Prod.fst) G.length → RT (ov G L) lg E fx st sh shs mnI (nI (img lg E).length) tp rs nn → agr f (img lg E) → Q none (ov G L)) : Cx (d + 2) mX11_made [.ref 364] G Q := by
  obtain ⟨w, q0, -⟩ := RT_fs R
  have hI4 := WF_img hW
  have hAp : ∀ x f, ap ([(364, cO 11 (rF E fx (tdy lg E) (acl lg E).length (osl lg E).length (vsl lg E).length (rsl lg E).length st sh shs w mnI x tp rs)), (376, cI 40000 f)].map Prod.fst) G.length := fun x f => apG (as := [364, 376]) (by decide) (by decide) hL
  have RTx : ∀ x f, RT (ov G [(364, cO 11 (rF E fx (tdy lg E) (acl lg E).length (osl lg E).length (vsl lg E).length (rsl lg E).length st sh shs w mnI x tp rs)), (376, cI 40000 f)]) lg E fx st sh shs mnI x tp rs nn := fun x f => RT_ov R (hAp x f) (fun j h1 h2 _ z => by simp at z; omega) (ov_get (hAp x f) 0 rfl)
  have outer : ∀ (e i : Nat) (a : Int32) (f : Nat → Int32), a = nI i → i + e = E → agr f (img lg i) → Ex (d + 2) mX11_made (7, [(0, .ref 364), (1, .int a)], [], ov G [(364, cO 11 (rF E fx (tdy lg E) (acl lg E).length (osl lg E).length (vsl lg E).length (rsl lg E).length st sh shs w mnI (nI (img lg i).length) tp rs)), (376, cI 40000 f)]) Q := by
    intro e
    induction e with
    | zero =>
      intro i a f ha hi hf
      subst ha
      have hA := hAp (nI (img lg i).length) f
      have hiE : i = E := by omega
      rw [hiE] at hf
      have k := k _ f w rfl (hAp (nI (img lg E).length) f) (RTx _ _) hf
      (repeat (first | refine Ex.go rfl rfl ?_ | refine Ex.gf rfl rfl (ov_get hA 0 rfl) (by rfl) (by rfl) ?_ | refine Ex.gf rfl rfl (ov_get hA 1 rfl) (by rfl) (by rfl) ?_ | refine Ex.gf rfl rfl (ov_get hA 2 rfl) (by rfl) (by rfl) ?_ | refine Ex.gf rfl rfl (ov_get hA 3 rfl) (by rfl) (by rfl) ?_ | refine Ex.gf rfl rfl (ov_get hA 4 rfl) (by rfl) (by rfl) ?_ | refine Ex.gf rfl rfl (ov_get hA 5 rfl) (by rfl) (by rfl) ?_ | refine Ex.gf rfl rfl (ov_get hA 6 rfl) (by rfl) (by rfl) ?_ | (refine Ex.pfo hA 0 rfl rfl rfl (by rfl) (by rfl) (by rfl) ?_; dsimp only [List.set]) | (refine Ex.pfo hA 1 rfl rfl rfl (by rfl) (by rfl) (by rfl) ?_; dsimp only [List.set]) | (refine Ex.pfo hA 2 rfl rfl rfl (by rfl) (by rfl) (by rfl) ?_; dsimp only [List.set]) | (refine Ex.pfo hA 3 rfl rfl rfl (by rfl) (by rfl) (by rfl) ?_; dsimp only [List.set]) | (refine Ex.pfo hA 4 rfl rfl rfl (by rfl) (by rfl) (by rfl) ?_; dsimp only [List.set]) | (refine Ex.pfo hA 5 rfl rfl rfl (by rfl) (by rfl) (by rfl) ?_; dsimp only [List.set]) | (refine Ex.pfo hA 6 rfl rfl rfl (by rfl) (by rfl) (by rfl) ?_; dsimp only [List.set])))
      refine Ex.br (fun hc => ?_) (fun hc => ?_); rotate_left
      · exact absurd (nI_le (show E ≤ i by omega) (by omega)) hc
      rw [hiE]
      (repeat (first | refine Ex.go rfl rfl ?_ | refine Ex.gf rfl rfl (ov_get hA 0 rfl) (by rfl) (by rfl) ?_ | refine Ex.gf rfl rfl (ov_get hA 1 rfl) (by rfl) (by rfl) ?_ | refine Ex.gf rfl rfl (ov_get hA 2 rfl) (by rfl) (by rfl) ?_ | refine Ex.gf rfl rfl (ov_get hA 3 rfl) (by rfl) (by rfl) ?_ | refine Ex.gf rfl rfl (ov_get hA 4 rfl) (by rfl) (by rfl) ?_ | refine Ex.gf rfl rfl (ov_get hA 5 rfl) (by rfl) (by rfl) ?_ | refine Ex.gf rfl rfl (ov_get hA 6 rfl) (by rfl) (by rfl) ?_ | (refine Ex.pfo hA 0 rfl rfl rfl (by rfl) (by rfl) (by rfl) ?_; dsimp only [List.set]) | (refine Ex.pfo hA 1 rfl rfl rfl (by rfl) (by rfl) (by rfl) ?_; dsimp only [List.set]) | (refine Ex.pfo hA 2 rfl rfl rfl (by rfl) (by rfl) (by rfl) ?_; dsimp only [List.set]) | (refine Ex.pfo hA 3 rfl rfl rfl (by rfl) (by rfl) (by rfl) ?_; dsimp only [List.set]) | (refine Ex.pfo hA 4 rfl rfl rfl (by rfl) (by rfl) (by rfl) ?_; dsimp only [List.set]) | (refine Ex.pfo hA 5 rfl rfl rfl (by rfl) (by rfl) (by rfl) ?_; dsimp only [List.set]) | (refine Ex.pfo hA 6 rfl rfl rfl (by rfl) (by rfl) (by rfl) ?_; dsimp only [List.set])))
      refine Ex.ret rfl rfl rfl ?_
      exact k
    | succ e ih =>
      intro i a f ha hi hf
      subst ha
      have hlen := posn_s lg i
      unfold posn at hlen
      have hle := img_le (lg := lg) (show i + 1 ≤ E by omega)
      have hcd := wf_codes (hW.1 i (by omega))
      obtain ⟨c, hc12, hcc⟩ : ∃ c : Nat, c < 12 ∧ cod lg i = nI c := by
        rcases hcd with h | h | h | h | h | h | h | h | h | h | h | h
        · exact ⟨0, by omega, h⟩
        · exact ⟨1, by omega, h⟩
        · exact ⟨2, by omega, h⟩
        · exact ⟨3, by omega, h⟩
        · exact ⟨4, by omega, h⟩
        · exact ⟨5, by omega, h⟩
        · exact ⟨6, by omega, h⟩
        · exact ⟨7, by omega, h⟩
        · exact ⟨8, by omega, h⟩
        · exact ⟨9, by omega, h⟩
        · exact ⟨10, by omega, h⟩
        · exact ⟨11, by omega, h⟩
      have hnum : nums (cod lg i) = numc c := by rw [hcc]; rfl
      have hn15 := numc_le c
      have rcode : ∀ (x : Int32) (f : Nat → Int32) (Q' : Option Value → bo_G → Prop), Q' (some (.int (nI c))) (ov G [(364, cO 11 (rF E fx (tdy lg E) (acl lg E).length (osl lg E).length (vsl lg E).length (rsl lg E).length st sh shs w mnI x tp rs)), (376, cI 40000 f)]) → Cx (d + 1) mX11_code [.ref 364, .int (nI i)] (ov G [(364, cO 11 (rF E fx (tdy lg E) (acl lg E).length (osl lg E).length (vsl lg E).length (rsl lg E).length st sh shs w mnI x tp rs)), (376, cI 40000 f)]) Q' := by
        intro x f Q' k
        obtain ⟨w', pt, vl, pp, va, pa, wa, R', -⟩ := RTx x f
        refine r_code R' (by omega) ?_
        rw [← hcc] at k
        exact k
      have inner : ∀ (e j : Nat) (b : Int32) (f : Nat → Int32), b = nI j → j + e = numc c → agr f (img lg i ++ (cod lg i :: (List.range j).map (num lg i))) → Ex (d + 2) mX11_made (41, [(0, .ref 364), (1, .int (nI i)), (2, .int b)], [], ov G [(364, cO 11 (rF E fx (tdy lg E) (acl lg E).length (osl lg E).length (vsl lg E).length (rsl lg E).length st sh shs w mnI (nI ((img lg i).length + 1 + j)) tp rs)), (376, cI 40000 f)]) Q := by
        intro e2
        induction e2 with
        | zero =>
          intro j b f hb hj hf
          subst hb
          have hA := hAp (nI ((img lg i).length + 1 + j)) f
          have hjn : j = numc c := by omega
          have e1 : img lg (i + 1) = img lg i ++ (cod lg i :: (List.range j).map (num lg i)) := by rw [hjn, ← hnum]; rfl
          have e2 : (img lg i).length + 1 + j = (img lg (i + 1)).length := by rw [hlen, hnum]; omega
          rw [← e1] at hf
          rw [e2]
          have hA := hAp (nI (img lg (i + 1)).length) f
          (repeat (first | refine Ex.go rfl rfl ?_ | refine Ex.gf rfl rfl (ov_get hA 0 rfl) (by rfl) (by rfl) ?_ | refine Ex.gf rfl rfl (ov_get hA 1 rfl) (by rfl) (by rfl) ?_ | refine Ex.gf rfl rfl (ov_get hA 2 rfl) (by rfl) (by rfl) ?_ | refine Ex.gf rfl rfl (ov_get hA 3 rfl) (by rfl) (by rfl) ?_ | refine Ex.gf rfl rfl (ov_get hA 4 rfl) (by rfl) (by rfl) ?_ | refine Ex.gf rfl rfl (ov_get hA 5 rfl) (by rfl) (by rfl) ?_ | refine Ex.gf rfl rfl (ov_get hA 6 rfl) (by rfl) (by rfl) ?_ | (refine Ex.pfo hA 0 rfl rfl rfl (by rfl) (by rfl) (by rfl) ?_; dsimp only [List.set]) | (refine Ex.pfo hA 1 rfl rfl rfl (by rfl) (by rfl) (by rfl) ?_; dsimp only [List.set]) | (refine Ex.pfo hA 2 rfl rfl rfl (by rfl) (by rfl) (by rfl) ?_; dsimp only [List.set]) | (refine Ex.pfo hA 3 rfl rfl rfl (by rfl) (by rfl) (by rfl) ?_; dsimp only [List.set]) | (refine Ex.pfo hA 4 rfl rfl rfl (by rfl) (by rfl) (by rfl) ?_; dsimp only [List.set]) | (refine Ex.pfo hA 5 rfl rfl rfl (by rfl) (by rfl) (by rfl) ?_; dsimp only [List.set]) | (refine Ex.pfo hA 6 rfl rfl rfl (by rfl) (by rfl) (by rfl) ?_; dsimp only [List.set])))
          refine Ex.cv1 rfl rfl rfl (ov_get hA 0 rfl) (by rfl) (by decide) rfl ?_
          refine rcode _ _ _ ?_
          refine Ex.cs1 rfl rfl rfl rfl rfl rfl ?_
          refine r_numbers hc12 ?_
          (repeat (first | refine Ex.go rfl rfl ?_ | refine Ex.gf rfl rfl (ov_get hA 0 rfl) (by rfl) (by rfl) ?_ | refine Ex.gf rfl rfl (ov_get hA 1 rfl) (by rfl) (by rfl) ?_ | refine Ex.gf rfl rfl (ov_get hA 2 rfl) (by rfl) (by rfl) ?_ | refine Ex.gf rfl rfl (ov_get hA 3 rfl) (by rfl) (by rfl) ?_ | refine Ex.gf rfl rfl (ov_get hA 4 rfl) (by rfl) (by rfl) ?_ | refine Ex.gf rfl rfl (ov_get hA 5 rfl) (by rfl) (by rfl) ?_ | refine Ex.gf rfl rfl (ov_get hA 6 rfl) (by rfl) (by rfl) ?_ | (refine Ex.pfo hA 0 rfl rfl rfl (by rfl) (by rfl) (by rfl) ?_; dsimp only [List.set]) | (refine Ex.pfo hA 1 rfl rfl rfl (by rfl) (by rfl) (by rfl) ?_; dsimp only [List.set]) | (refine Ex.pfo hA 2 rfl rfl rfl (by rfl) (by rfl) (by rfl) ?_; dsimp only [List.set]) | (refine Ex.pfo hA 3 rfl rfl rfl (by rfl) (by rfl) (by rfl) ?_; dsimp only [List.set]) | (refine Ex.pfo hA 4 rfl rfl rfl (by rfl) (by rfl) (by rfl) ?_; dsimp only [List.set]) | (refine Ex.pfo hA 5 rfl rfl rfl (by rfl) (by rfl) (by rfl) ?_; dsimp only [List.set]) | (refine Ex.pfo hA 6 rfl rfl rfl (by rfl) (by rfl) (by rfl) ?_; dsimp only [List.set])))
          refine Ex.br (fun h1 => ?_) (fun h1 => ?_); rotate_left
          · exact absurd (nI_le (show numc c ≤ j by omega) (by omega)) h1
          (repeat (first | exact ih (i + 1) _ f (nI_1 i) (by omega) hf | refine Ex.go rfl rfl ?_ | refine Ex.gf rfl rfl (ov_get hA 0 rfl) (by rfl) (by rfl) ?_ | refine Ex.gf rfl rfl (ov_get hA 1 rfl) (by rfl) (by rfl) ?_ | refine Ex.gf rfl rfl (ov_get hA 2 rfl) (by rfl) (by rfl) ?_ | refine Ex.gf rfl rfl (ov_get hA 3 rfl) (by rfl) (by rfl) ?_ | refine Ex.gf rfl rfl (ov_get hA 4 rfl) (by rfl) (by rfl) ?_ | refine Ex.gf rfl rfl (ov_get hA 5 rfl) (by rfl) (by rfl) ?_ | refine Ex.gf rfl rfl (ov_get hA 6 rfl) (by rfl) (by rfl) ?_ | (refine Ex.pfo hA 0 rfl rfl rfl (by rfl) (by rfl) (by rfl) ?_; dsimp only [List.set]) | (refine Ex.pfo hA 1 rfl rfl rfl (by rfl) (by rfl) (by rfl) ?_; dsimp only [List.set]) | (refine Ex.pfo hA 2 rfl rfl rfl (by rfl) (by rfl) (by rfl) ?_; dsimp only [List.set]) | (refine Ex.pfo hA 3 rfl rfl rfl (by rfl) (by rfl) (by rfl) ?_; dsimp only [List.set]) | (refine Ex.pfo hA 4 rfl rfl rfl (by rfl) (by rfl) (by rfl) ?_; dsimp only [List.set]) | (refine Ex.pfo hA 5 rfl rfl rfl (by rfl) (by rfl) (by rfl) ?_; dsimp only [List.set]) | (refine Ex.pfo hA 6 rfl rfl rfl (by rfl) (by rfl) (by rfl) ?_; dsimp only [List.set])))
        | succ e2 ih2 =>
          intro j b f hb hj hf
          subst hb
          have hA := hAp (nI ((img lg i).length + 1 + j)) f
          (repeat (first | refine Ex.go rfl rfl ?_ | refine Ex.gf rfl rfl (ov_get hA 0 rfl) (by rfl) (by rfl) ?_ | refine Ex.gf rfl rfl (ov_get hA 1 rfl) (by rfl) (by rfl) ?_ | refine Ex.gf rfl rfl (ov_get hA 2 rfl) (by rfl) (by rfl) ?_ | refine Ex.gf rfl rfl (ov_get hA 3 rfl) (by rfl) (by rfl) ?_ | refine Ex.gf rfl rfl (ov_get hA 4 rfl) (by rfl) (by rfl) ?_ | refine Ex.gf rfl rfl (ov_get hA 5 rfl) (by rfl) (by rfl) ?_ | refine Ex.gf rfl rfl (ov_get hA 6 rfl) (by rfl) (by rfl) ?_ | (refine Ex.pfo hA 0 rfl rfl rfl (by rfl) (by rfl) (by rfl) ?_; dsimp only [List.set]) | (refine Ex.pfo hA 1 rfl rfl rfl (by rfl) (by rfl) (by rfl) ?_; dsimp only [List.set]) | (refine Ex.pfo hA 2 rfl rfl rfl (by rfl) (by rfl) (by rfl) ?_; dsimp only [List.set]) | (refine Ex.pfo hA 3 rfl rfl rfl (by rfl) (by rfl) (by rfl) ?_; dsimp only [List.set]) | (refine Ex.pfo hA 4 rfl rfl rfl (by rfl) (by rfl) (by rfl) ?_; dsimp only [List.set]) | (refine Ex.pfo hA 5 rfl rfl rfl (by rfl) (by rfl) (by rfl) ?_; dsimp only [List.set]) | (refine Ex.pfo hA 6 rfl rfl rfl (by rfl) (by rfl) (by rfl) ?_; dsimp only [List.set])))
          refine Ex.cv1 rfl rfl rfl (ov_get hA 0 rfl) (by rfl) (by decide) rfl ?_
          refine rcode _ _ _ ?_
          refine Ex.cs1 rfl rfl rfl rfl rfl rfl ?_
          refine r_numbers hc12 ?_
          (repeat (first | refine Ex.go rfl rfl ?_ | refine Ex.gf rfl rfl (ov_get hA 0 rfl) (by rfl) (by rfl) ?_ | refine Ex.gf rfl rfl (ov_get hA 1 rfl) (by rfl) (by rfl) ?_ | refine Ex.gf rfl rfl (ov_get hA 2 rfl) (by rfl) (by rfl) ?_ | refine Ex.gf rfl rfl (ov_get hA 3 rfl) (by rfl) (by rfl) ?_ | refine Ex.gf rfl rfl (ov_get hA 4 rfl) (by rfl) (by rfl) ?_ | refine Ex.gf rfl rfl (ov_get hA 5 rfl) (by rfl) (by rfl) ?_ | refine Ex.gf rfl rfl (ov_get hA 6 rfl) (by rfl) (by rfl) ?_ | (refine Ex.pfo hA 0 rfl rfl rfl (by rfl) (by rfl) (by rfl) ?_; dsimp only [List.set]) | (refine Ex.pfo hA 1 rfl rfl rfl (by rfl) (by rfl) (by rfl) ?_; dsimp only [List.set]) | (refine Ex.pfo hA 2 rfl rfl rfl (by rfl) (by rfl) (by rfl) ?_; dsimp only [List.set]) | (refine Ex.pfo hA 3 rfl rfl rfl (by rfl) (by rfl) (by rfl) ?_; dsimp only [List.set]) | (refine Ex.pfo hA 4 rfl rfl rfl (by rfl) (by rfl) (by rfl) ?_; dsimp only [List.set]) | (refine Ex.pfo hA 5 rfl rfl rfl (by rfl) (by rfl) (by rfl) ?_; dsimp only [List.set]) | (refine Ex.pfo hA 6 rfl rfl rfl (by rfl) (by rfl) (by rfl) ?_; dsimp only [List.set])))
          refine Ex.br (fun h1 => ?_) (fun h1 => ?_)
          · have := (n_ge (a := j) (b := numc c) (by omega) (by omega)).mp h1
            omega
          (repeat (first | refine Ex.go rfl rfl ?_ | refine Ex.gf rfl rfl (ov_get hA 0 rfl) (by rfl) (by rfl) ?_ | refine Ex.gf rfl rfl (ov_get hA 1 rfl) (by rfl) (by rfl) ?_ | refine Ex.gf rfl rfl (ov_get hA 2 rfl) (by rfl) (by rfl) ?_ | refine Ex.gf rfl rfl (ov_get hA 3 rfl) (by rfl) (by rfl) ?_ | refine Ex.gf rfl rfl (ov_get hA 4 rfl) (by rfl) (by rfl) ?_ | refine Ex.gf rfl rfl (ov_get hA 5 rfl) (by rfl) (by rfl) ?_ | refine Ex.gf rfl rfl (ov_get hA 6 rfl) (by rfl) (by rfl) ?_ | (refine Ex.pfo hA 0 rfl rfl rfl (by rfl) (by rfl) (by rfl) ?_; dsimp only [List.set]) | (refine Ex.pfo hA 1 rfl rfl rfl (by rfl) (by rfl) (by rfl) ?_; dsimp only [List.set]) | (refine Ex.pfo hA 2 rfl rfl rfl (by rfl) (by rfl) (by rfl) ?_; dsimp only [List.set]) | (refine Ex.pfo hA 3 rfl rfl rfl (by rfl) (by rfl) (by rfl) ?_; dsimp only [List.set]) | (refine Ex.pfo hA 4 rfl rfl rfl (by rfl) (by rfl) (by rfl) ?_; dsimp only [List.set]) | (refine Ex.pfo hA 5 rfl rfl rfl (by rfl) (by rfl) (by rfl) ?_; dsimp only [List.set]) | (refine Ex.pfo hA 6 rfl rfl rfl (by rfl) (by rfl) (by rfl) ?_; dsimp only [List.set])))
          refine Ex.cv2 rfl rfl rfl (ov_get hA 0 rfl) (by rfl) (by decide) rfl ?_
          obtain ⟨w', pt, vl, pp, va, pa, wa, R', -⟩ := RTx (nI ((img lg i).length + 1 + j)) f
          refine r_num R' (by omega) (by omega) ?_
          (repeat (first | refine Ex.go rfl rfl ?_ | refine Ex.gf rfl rfl (ov_get hA 0 rfl) (by rfl) (by rfl) ?_ | refine Ex.gf rfl rfl (ov_get hA 1 rfl) (by rfl) (by rfl) ?_ | refine Ex.gf rfl rfl (ov_get hA 2 rfl) (by rfl) (by rfl) ?_ | refine Ex.gf rfl rfl (ov_get hA 3 rfl) (by rfl) (by rfl) ?_ | refine Ex.gf rfl rfl (ov_get hA 4 rfl) (by rfl) (by rfl) ?_ | refine Ex.gf rfl rfl (ov_get hA 5 rfl) (by rfl) (by rfl) ?_ | refine Ex.gf rfl rfl (ov_get hA 6 rfl) (by rfl) (by rfl) ?_ | (refine Ex.pfo hA 0 rfl rfl rfl (by rfl) (by rfl) (by rfl) ?_; dsimp only [List.set]) | (refine Ex.pfo hA 1 rfl rfl rfl (by rfl) (by rfl) (by rfl) ?_; dsimp only [List.set]) | (refine Ex.pfo hA 2 rfl rfl rfl (by rfl) (by rfl) (by rfl) ?_; dsimp only [List.set]) | (refine Ex.pfo hA 3 rfl rfl rfl (by rfl) (by rfl) (by rfl) ?_; dsimp only [List.set]) | (refine Ex.pfo hA 4 rfl rfl rfl (by rfl) (by rfl) (by rfl) ?_; dsimp only [List.set]) | (refine Ex.pfo hA 5 rfl rfl rfl (by rfl) (by rfl) (by rfl) ?_; dsimp only [List.set]) | (refine Ex.pfo hA 6 rfl rfl rfl (by rfl) (by rfl) (by rfl) ?_; dsimp only [List.set])))
          refine Ex.iaso hA 1 rfl rfl rfl (by omega) (by omega) ?_
          dsimp only [List.set]
          have hf2 := hf.push (num lg i j)
          rw [List.append_assoc, List.cons_append, ← range_map] at hf2
          have el : (img lg i ++ (cod lg i :: (List.range j).map (num lg i))).length = (img lg i).length + 1 + j := by simp; omega
          rw [el] at hf2
          have ih3 := ih2 (j + 1) _ _ (nI_1 j) (by omega) hf2
          have hA := hAp (nI ((img lg i).length + 1 + j)) (upd f ((img lg i).length + 1 + j) (num lg i j))
          rw [show (img lg i).length + 1 + (j + 1) = (img lg i).length + 1 + j + 1 by omega] at ih3
          unfold rF at ih3
          rw [← nI_1 ((img lg i).length + 1 + j)] at ih3
          (repeat (first | exact ih3 | refine Ex.go rfl rfl ?_ | refine Ex.gf rfl rfl (ov_get hA 0 rfl) (by rfl) (by rfl) ?_ | refine Ex.gf rfl rfl (ov_get hA 1 rfl) (by rfl) (by rfl) ?_ | refine Ex.gf rfl rfl (ov_get hA 2 rfl) (by rfl) (by rfl) ?_ | refine Ex.gf rfl rfl (ov_get hA 3 rfl) (by rfl) (by rfl) ?_ | refine Ex.gf rfl rfl (ov_get hA 4 rfl) (by rfl) (by rfl) ?_ | refine Ex.gf rfl rfl (ov_get hA 5 rfl) (by rfl) (by rfl) ?_ | refine Ex.gf rfl rfl (ov_get hA 6 rfl) (by rfl) (by rfl) ?_ | (refine Ex.pfo hA 0 rfl rfl rfl (by rfl) (by rfl) (by rfl) ?_; dsimp only [List.set]) | (refine Ex.pfo hA 1 rfl rfl rfl (by rfl) (by rfl) (by rfl) ?_; dsimp only [List.set]) | (refine Ex.pfo hA 2 rfl rfl rfl (by rfl) (by rfl) (by rfl) ?_; dsimp only [List.set]) | (refine Ex.pfo hA 3 rfl rfl rfl (by rfl) (by rfl) (by rfl) ?_; dsimp only [List.set]) | (refine Ex.pfo hA 4 rfl rfl rfl (by rfl) (by rfl) (by rfl) ?_; dsimp only [List.set]) | (refine Ex.pfo hA 5 rfl rfl rfl (by rfl) (by rfl) (by rfl) ?_; dsimp only [List.set]) | (refine Ex.pfo hA 6 rfl rfl rfl (by rfl) (by rfl) (by rfl) ?_; dsimp only [List.set])))
      have hA := hAp (nI (img lg i).length) f
      (repeat (first | refine Ex.go rfl rfl ?_ | refine Ex.gf rfl rfl (ov_get hA 0 rfl) (by rfl) (by rfl) ?_ | refine Ex.gf rfl rfl (ov_get hA 1 rfl) (by rfl) (by rfl) ?_ | refine Ex.gf rfl rfl (ov_get hA 2 rfl) (by rfl) (by rfl) ?_ | refine Ex.gf rfl rfl (ov_get hA 3 rfl) (by rfl) (by rfl) ?_ | refine Ex.gf rfl rfl (ov_get hA 4 rfl) (by rfl) (by rfl) ?_ | refine Ex.gf rfl rfl (ov_get hA 5 rfl) (by rfl) (by rfl) ?_ | refine Ex.gf rfl rfl (ov_get hA 6 rfl) (by rfl) (by rfl) ?_ | (refine Ex.pfo hA 0 rfl rfl rfl (by rfl) (by rfl) (by rfl) ?_; dsimp only [List.set]) | (refine Ex.pfo hA 1 rfl rfl rfl (by rfl) (by rfl) (by rfl) ?_; dsimp only [List.set]) | (refine Ex.pfo hA 2 rfl rfl rfl (by rfl) (by rfl) (by rfl) ?_; dsimp only [List.set]) | (refine Ex.pfo hA 3 rfl rfl rfl (by rfl) (by rfl) (by rfl) ?_; dsimp only [List.set]) | (refine Ex.pfo hA 4 rfl rfl rfl (by rfl) (by rfl) (by rfl) ?_; dsimp only [List.set]) | (refine Ex.pfo hA 5 rfl rfl rfl (by rfl) (by rfl) (by rfl) ?_; dsimp only [List.set]) | (refine Ex.pfo hA 6 rfl rfl rfl (by rfl) (by rfl) (by rfl) ?_; dsimp only [List.set])))
      refine Ex.br (fun h1 => ?_) (fun h1 => ?_)
      · have := (n_ge (a := i) (b := E) (by omega) (by omega)).mp h1
        omega
      (repeat (first | refine Ex.go rfl rfl ?_ | refine Ex.gf rfl rfl (ov_get hA 0 rfl) (by rfl) (by rfl) ?_ | refine Ex.gf rfl rfl (ov_get hA 1 rfl) (by rfl) (by rfl) ?_ | refine Ex.gf rfl rfl (ov_get hA 2 rfl) (by rfl) (by rfl) ?_ | refine Ex.gf rfl rfl (ov_get hA 3 rfl) (by rfl) (by rfl) ?_ | refine Ex.gf rfl rfl (ov_get hA 4 rfl) (by rfl) (by rfl) ?_ | refine Ex.gf rfl rfl (ov_get hA 5 rfl) (by rfl) (by rfl) ?_ | refine Ex.gf rfl rfl (ov_get hA 6 rfl) (by rfl) (by rfl) ?_ | (refine Ex.pfo hA 0 rfl rfl rfl (by rfl) (by rfl) (by rfl) ?_; dsimp only [List.set]) | (refine Ex.pfo hA 1 rfl rfl rfl (by rfl) (by rfl) (by rfl) ?_; dsimp only [List.set]) | (refine Ex.pfo hA 2 rfl rfl rfl (by rfl) (by rfl) (by rfl) ?_; dsimp only [List.set]) | (refine Ex.pfo hA 3 rfl rfl rfl (by rfl) (by rfl) (by rfl) ?_; dsimp only [List.set]) | (refine Ex.pfo hA 4 rfl rfl rfl (by rfl) (by rfl) (by rfl) ?_; dsimp only [List.set]) | (refine Ex.pfo hA 5 rfl rfl rfl (by rfl) (by rfl) (by rfl) ?_; dsimp only [List.set]) | (refine Ex.pfo hA 6 rfl rfl rfl (by rfl) (by rfl) (by rfl) ?_; dsimp only [List.set])))
      refine Ex.cv1 rfl rfl rfl (ov_get hA 0 rfl) (by rfl) (by decide) rfl ?_
      refine rcode _ _ _ ?_
      (repeat (first | refine Ex.go rfl rfl ?_ | refine Ex.gf rfl rfl (ov_get hA 0 rfl) (by rfl) (by rfl) ?_ | refine Ex.gf rfl rfl (ov_get hA 1 rfl) (by rfl) (by rfl) ?_ | refine Ex.gf rfl rfl (ov_get hA 2 rfl) (by rfl) (by rfl) ?_ | refine Ex.gf rfl rfl (ov_get hA 3 rfl) (by rfl) (by rfl) ?_ | refine Ex.gf rfl rfl (ov_get hA 4 rfl) (by rfl) (by rfl) ?_ | refine Ex.gf rfl rfl (ov_get hA 5 rfl) (by rfl) (by rfl) ?_ | refine Ex.gf rfl rfl (ov_get hA 6 rfl) (by rfl) (by rfl) ?_ | (refine Ex.pfo hA 0 rfl rfl rfl (by rfl) (by rfl) (by rfl) ?_; dsimp only [List.set]) | (refine Ex.pfo hA 1 rfl rfl rfl (by rfl) (by rfl) (by rfl) ?_; dsimp only [List.set]) | (refine Ex.pfo hA 2 rfl rfl rfl (by rfl) (by rfl) (by rfl) ?_; dsimp only [List.set]) | (refine Ex.pfo hA 3 rfl rfl rfl (by rfl) (by rfl) (by rfl) ?_; dsimp only [List.set]) | (refine Ex.pfo hA 4 rfl rfl rfl (by rfl) (by rfl) (by rfl) ?_; dsimp only [List.set]) | (refine Ex.pfo hA 5 rfl rfl rfl (by rfl) (by rfl) (by rfl) ?_; dsimp only [List.set]) | (refine Ex.pfo hA 6 rfl rfl rfl (by rfl) (by rfl) (by rfl) ?_; dsimp only [List.set])))
      refine Ex.iaso hA 1 rfl rfl rfl (by omega) (by omega) ?_
      dsimp only [List.set]
      have hf2 := hf.push (cod lg i)
      rw [hcc] at hf2
      have i0 := inner (numc c) 0 _ _ rfl (by omega) (by rw [hcc]; exact hf2)
      unfold rF at i0
      rw [show (img lg i).length + 1 + 0 = (img lg i).length + 1 from rfl, ← nI_1 (img lg i).length] at i0
      have hA := hAp (nI (img lg i).length) (upd f (img lg i).length (nI c))
      (repeat (first | exact i0 | refine Ex.go rfl rfl ?_ | refine Ex.gf rfl rfl (ov_get hA 0 rfl) (by rfl) (by rfl) ?_ | refine Ex.gf rfl rfl (ov_get hA 1 rfl) (by rfl) (by rfl) ?_ | refine Ex.gf rfl rfl (ov_get hA 2 rfl) (by rfl) (by rfl) ?_ | refine Ex.gf rfl rfl (ov_get hA 3 rfl) (by rfl) (by rfl) ?_ | refine Ex.gf rfl rfl (ov_get hA 4 rfl) (by rfl) (by rfl) ?_ | refine Ex.gf rfl rfl (ov_get hA 5 rfl) (by rfl) (by rfl) ?_ | refine Ex.gf rfl rfl (ov_get hA 6 rfl) (by rfl) (by rfl) ?_ | (refine Ex.pfo hA 0 rfl rfl rfl (by rfl) (by rfl) (by rfl) ?_; dsimp only [List.set]) | (refine Ex.pfo hA 1 rfl rfl rfl (by rfl) (by rfl) (by rfl) ?_; dsimp only [List.set]) | (refine Ex.pfo hA 2 rfl rfl rfl (by rfl) (by rfl) (by rfl) ?_; dsimp only [List.set]) | (refine Ex.pfo hA 3 rfl rfl rfl (by rfl) (by rfl) (by rfl) ?_; dsimp only [List.set]) | (refine Ex.pfo hA 4 rfl rfl rfl (by rfl) (by rfl) (by rfl) ?_; dsimp only [List.set]) | (refine Ex.pfo hA 5 rfl rfl rfl (by rfl) (by rfl) (by rfl) ?_; dsimp only [List.set]) | (refine Ex.pfo hA 6 rfl rfl rfl (by rfl) (by rfl) (by rfl) ?_; dsimp only [List.set])))
  refine Cx.body rfl rfl ?_
  refine Ex.lay [(364, cO 11 (rF E fx (tdy lg E) (acl lg E).length (osl lg E).length (vsl lg E).length (rsl lg E).length st sh shs w mnI im tp rs)), (376, cI 40000 imf)] (by simp only [List.forall_mem_cons]; exact ⟨q0, c376, fun _ z => absurd z List.not_mem_nil⟩) ?_
  have hA := hAp im imf
  have o0 := outer E 0 _ imf rfl (by omega) (agr.nil _)
  (repeat (first | exact o0 | refine Ex.go rfl rfl ?_ | refine Ex.gf rfl rfl (ov_get hA 0 rfl) (by rfl) (by rfl) ?_ | refine Ex.gf rfl rfl (ov_get hA 1 rfl) (by rfl) (by rfl) ?_ | refine Ex.gf rfl rfl (ov_get hA 2 rfl) (by rfl) (by rfl) ?_ | refine Ex.gf rfl rfl (ov_get hA 3 rfl) (by rfl) (by rfl) ?_ | refine Ex.gf rfl rfl (ov_get hA 4 rfl) (by rfl) (by rfl) ?_ | refine Ex.gf rfl rfl (ov_get hA 5 rfl) (by rfl) (by rfl) ?_ | refine Ex.gf rfl rfl (ov_get hA 6 rfl) (by rfl) (by rfl) ?_ | (refine Ex.pfo hA 0 rfl rfl rfl (by rfl) (by rfl) (by rfl) ?_; dsimp only [List.set]) | (refine Ex.pfo hA 1 rfl rfl rfl (by rfl) (by rfl) (by rfl) ?_; dsimp only [List.set]) | (refine Ex.pfo hA 2 rfl rfl rfl (by rfl) (by rfl) (by rfl) ?_; dsimp only [List.set]) | (refine Ex.pfo hA 3 rfl rfl rfl (by rfl) (by rfl) (by rfl) ?_; dsimp only [List.set]) | (refine Ex.pfo hA 4 rfl rfl rfl (by rfl) (by rfl) (by rfl) ?_; dsimp only [List.set]) | (refine Ex.pfo hA 5 rfl rfl rfl (by rfl) (by rfl) (by rfl) ?_; dsimp only [List.set]) | (refine Ex.pfo hA 6 rfl rfl rfl (by rfl) (by rfl) (by rfl) ?_; dsimp only [List.set])))
theorem r_image (h : RS G lg E fx st sh shs gv mn ls ts rs) (hW : WF lg E) (hE : E ≤ 6000) (hL : 378 ≤ G.length) (k : ∀ G', RS G' lg E fx st sh shs gv mn ls ts rs → FR G G' → Q (some (.int (nI (img lg E).length))) G') : Cx (d + 3) mX11_image [.ref 364] G Q := by
  obtain ⟨nn, im, imf, old, tpf, R, ⟨c366, c374, c375, c376, c377⟩, ht⟩ := h
  obtain ⟨w, q0, -⟩ := RT_fs R
  refine Cx.body rfl rfl ?_
  (repeat (first | refine Ex.go rfl rfl ?_ | refine Ex.gf rfl rfl (by assumption) (by rfl) (by first | rfl | assumption) ?_))
  refine Ex.cv0 rfl rfl rfl (by assumption) (by rfl) (by decide) rfl ?_
  refine r_made R hW hE hL c376 (fun L f w' eL hA R' hf => ?_)
  subst eL
  (repeat (first | refine Ex.go rfl rfl ?_ | refine Ex.gf rfl rfl (ov_get hA 0 rfl) (by rfl) (by rfl) ?_ | refine Ex.gf rfl rfl (ov_get hA 1 rfl) (by rfl) (by rfl) ?_ | refine Ex.gf rfl rfl (ov_get hA 2 rfl) (by rfl) (by rfl) ?_ | refine Ex.gf rfl rfl (ov_get hA 3 rfl) (by rfl) (by rfl) ?_ | refine Ex.gf rfl rfl (ov_get hA 4 rfl) (by rfl) (by rfl) ?_ | refine Ex.gf rfl rfl (ov_get hA 5 rfl) (by rfl) (by rfl) ?_ | refine Ex.gf rfl rfl (ov_get hA 6 rfl) (by rfl) (by rfl) ?_ | (refine Ex.pfo hA 0 rfl rfl rfl (by rfl) (by rfl) (by rfl) ?_; dsimp only [List.set]) | (refine Ex.pfo hA 1 rfl rfl rfl (by rfl) (by rfl) (by rfl) ?_; dsimp only [List.set]) | (refine Ex.pfo hA 2 rfl rfl rfl (by rfl) (by rfl) (by rfl) ?_; dsimp only [List.set]) | (refine Ex.pfo hA 3 rfl rfl rfl (by rfl) (by rfl) (by rfl) ?_; dsimp only [List.set]) | (refine Ex.pfo hA 4 rfl rfl rfl (by rfl) (by rfl) (by rfl) ?_; dsimp only [List.set]) | (refine Ex.pfo hA 5 rfl rfl rfl (by rfl) (by rfl) (by rfl) ?_; dsimp only [List.set]) | (refine Ex.pfo hA 6 rfl rfl rfl (by rfl) (by rfl) (by rfl) ?_; dsimp only [List.set])))
  refine Ex.ret rfl rfl rfl ?_
  exact k _ ⟨nn, _, f, old, tpf, R', ⟨(by first | exact ov_get hA 0 rfl | exact ov_get hA 1 rfl | exact ov_get hA 2 rfl | exact ov_get hA 3 rfl | exact ov_get hA 4 rfl | (rw [ov_ne (by simp)]; assumption)), (by first | exact ov_get hA 0 rfl | exact ov_get hA 1 rfl | exact ov_get hA 2 rfl | exact ov_get hA 3 rfl | exact ov_get hA 4 rfl | (rw [ov_ne (by simp)]; assumption)), (by first | exact ov_get hA 0 rfl | exact ov_get hA 1 rfl | exact ov_get hA 2 rfl | exact ov_get hA 3 rfl | exact ov_get hA 4 rfl | (rw [ov_ne (by simp)]; assumption)), (by first | exact ov_get hA 0 rfl | exact ov_get hA 1 rfl | exact ov_get hA 2 rfl | exact ov_get hA 3 rfl | exact ov_get hA 4 rfl | (rw [ov_ne (by simp)]; assumption)), (by first | exact ov_get hA 0 rfl | exact ov_get hA 1 rfl | exact ov_get hA 2 rfl | exact ov_get hA 3 rfl | exact ov_get hA 4 rfl | (rw [ov_ne (by simp)]; assumption))⟩, ht⟩ (FR.ov (FR.rfl' G) (by simp))
theorem agr_at {f : Nat → Int32} {xs : List Int32} {i : Nat} (h : agr f xs) (hi : i < xs.length) (h31 : i < 2 ^ 31) : bo_at xs (nI i) = f i := by
  unfold bo_at
  rw [if_pos (nI_pos' h31), nI_clamp h31, List.getD_eq_getElem?_getD, h i hi]
  rfl
theorem bo_at_no {xs : List Int32} {i : Int32} (h : ¬ (0 ≤ i.toInt ∧ i.toInt < xs.length)) : bo_at xs i = 0 := by
  unfold bo_at
  by_cases h0 : 0 ≤ i
  · have h1 : 0 ≤ i.toInt := Int32.le_iff_toInt_le.mp h0
    obtain ⟨e1, e2, e3⟩ := nI_iof h1
    rw [if_pos h0, List.getD_eq_getElem?_getD, List.getElem?_eq_none (by omega)]
    rfl
  · rw [if_neg h0]
theorem r_imageAt {i : Int32} (h : RS G lg E fx st sh shs gv mn ls ts rs) (hW : WF lg E) (hE : E ≤ 6000) (hL : 378 ≤ G.length) (k : ∀ G', RS G' lg E fx st sh shs gv mn ls ts rs → FR G G' → Q (some (.int (bo_at (img lg E) i))) G') : Cx (d + 3) mX11_imageAt [.ref 364, .int i] G Q := by
  obtain ⟨nn, im, imf, old, tpf, R, ⟨c366, c374, c375, c376, c377⟩, ht⟩ := h
  obtain ⟨w, q0, -⟩ := RT_fs R
  have hI4 := WF_img hW
  refine Cx.body rfl rfl ?_
  (repeat (first | refine Ex.go rfl rfl ?_ | refine Ex.gf rfl rfl (by assumption) (by rfl) (by first | rfl | assumption) ?_))
  refine Ex.cv0 rfl rfl rfl (by assumption) (by rfl) (by decide) rfl ?_
  refine r_made R hW hE hL c376 (fun L f w' eL hA R' hf => ?_)
  subst eL
  have k := k _ ⟨nn, _, f, old, tpf, R', ⟨(by first | exact ov_get hA 0 rfl | exact ov_get hA 1 rfl | exact ov_get hA 2 rfl | exact ov_get hA 3 rfl | exact ov_get hA 4 rfl | (rw [ov_ne (by simp)]; assumption)), (by first | exact ov_get hA 0 rfl | exact ov_get hA 1 rfl | exact ov_get hA 2 rfl | exact ov_get hA 3 rfl | exact ov_get hA 4 rfl | (rw [ov_ne (by simp)]; assumption)), (by first | exact ov_get hA 0 rfl | exact ov_get hA 1 rfl | exact ov_get hA 2 rfl | exact ov_get hA 3 rfl | exact ov_get hA 4 rfl | (rw [ov_ne (by simp)]; assumption)), (by first | exact ov_get hA 0 rfl | exact ov_get hA 1 rfl | exact ov_get hA 2 rfl | exact ov_get hA 3 rfl | exact ov_get hA 4 rfl | (rw [ov_ne (by simp)]; assumption)), (by first | exact ov_get hA 0 rfl | exact ov_get hA 1 rfl | exact ov_get hA 2 rfl | exact ov_get hA 3 rfl | exact ov_get hA 4 rfl | (rw [ov_ne (by simp)]; assumption))⟩, ht⟩ (FR.ov (FR.rfl' G) (by simp))
  (repeat (first | refine Ex.go rfl rfl ?_ | refine Ex.gf rfl rfl (ov_get hA 0 rfl) (by rfl) (by rfl) ?_ | refine Ex.gf rfl rfl (ov_get hA 1 rfl) (by rfl) (by rfl) ?_ | refine Ex.gf rfl rfl (ov_get hA 2 rfl) (by rfl) (by rfl) ?_ | refine Ex.gf rfl rfl (ov_get hA 3 rfl) (by rfl) (by rfl) ?_ | refine Ex.gf rfl rfl (ov_get hA 4 rfl) (by rfl) (by rfl) ?_ | refine Ex.gf rfl rfl (ov_get hA 5 rfl) (by rfl) (by rfl) ?_ | refine Ex.gf rfl rfl (ov_get hA 6 rfl) (by rfl) (by rfl) ?_ | (refine Ex.pfo hA 0 rfl rfl rfl (by rfl) (by rfl) (by rfl) ?_; dsimp only [List.set]) | (refine Ex.pfo hA 1 rfl rfl rfl (by rfl) (by rfl) (by rfl) ?_; dsimp only [List.set]) | (refine Ex.pfo hA 2 rfl rfl rfl (by rfl) (by rfl) (by rfl) ?_; dsimp only [List.set]) | (refine Ex.pfo hA 3 rfl rfl rfl (by rfl) (by rfl) (by rfl) ?_; dsimp only [List.set]) | (refine Ex.pfo hA 4 rfl rfl rfl (by rfl) (by rfl) (by rfl) ?_; dsimp only [List.set]) | (refine Ex.pfo hA 5 rfl rfl rfl (by rfl) (by rfl) (by rfl) ?_; dsimp only [List.set]) | (refine Ex.pfo hA 6 rfl rfl rfl (by rfl) (by rfl) (by rfl) ?_; dsimp only [List.set])))
  refine Ex.cs3 rfl rfl rfl rfl rfl rfl ?_
  refine r_inI (lo := 0) (hi := ((img lg E).length : Int) - 1) (by decide +kernel) (l_of (z_sub (nI_toInt (by omega)) rfl (by omega))) ?_
  (repeat (first | refine Ex.go rfl rfl ?_ | refine Ex.gf rfl rfl (ov_get hA 0 rfl) (by rfl) (by rfl) ?_ | refine Ex.gf rfl rfl (ov_get hA 1 rfl) (by rfl) (by rfl) ?_ | refine Ex.gf rfl rfl (ov_get hA 2 rfl) (by rfl) (by rfl) ?_ | refine Ex.gf rfl rfl (ov_get hA 3 rfl) (by rfl) (by rfl) ?_ | refine Ex.gf rfl rfl (ov_get hA 4 rfl) (by rfl) (by rfl) ?_ | refine Ex.gf rfl rfl (ov_get hA 5 rfl) (by rfl) (by rfl) ?_ | refine Ex.gf rfl rfl (ov_get hA 6 rfl) (by rfl) (by rfl) ?_ | (refine Ex.pfo hA 0 rfl rfl rfl (by rfl) (by rfl) (by rfl) ?_; dsimp only [List.set]) | (refine Ex.pfo hA 1 rfl rfl rfl (by rfl) (by rfl) (by rfl) ?_; dsimp only [List.set]) | (refine Ex.pfo hA 2 rfl rfl rfl (by rfl) (by rfl) (by rfl) ?_; dsimp only [List.set]) | (refine Ex.pfo hA 3 rfl rfl rfl (by rfl) (by rfl) (by rfl) ?_; dsimp only [List.set]) | (refine Ex.pfo hA 4 rfl rfl rfl (by rfl) (by rfl) (by rfl) ?_; dsimp only [List.set]) | (refine Ex.pfo hA 5 rfl rfl rfl (by rfl) (by rfl) (by rfl) ?_; dsimp only [List.set]) | (refine Ex.pfo hA 6 rfl rfl rfl (by rfl) (by rfl) (by rfl) ?_; dsimp only [List.set])))
  refine Ex.brz (fun h1 => ?_) (fun h1 => ?_); rotate_left
  · rw [bo_at_no (fun z => h1 ⟨z.1, by omega⟩)] at k
    (repeat (first | refine Ex.go rfl rfl ?_ | refine Ex.gf rfl rfl (ov_get hA 0 rfl) (by rfl) (by rfl) ?_ | refine Ex.gf rfl rfl (ov_get hA 1 rfl) (by rfl) (by rfl) ?_ | refine Ex.gf rfl rfl (ov_get hA 2 rfl) (by rfl) (by rfl) ?_ | refine Ex.gf rfl rfl (ov_get hA 3 rfl) (by rfl) (by rfl) ?_ | refine Ex.gf rfl rfl (ov_get hA 4 rfl) (by rfl) (by rfl) ?_ | refine Ex.gf rfl rfl (ov_get hA 5 rfl) (by rfl) (by rfl) ?_ | refine Ex.gf rfl rfl (ov_get hA 6 rfl) (by rfl) (by rfl) ?_ | (refine Ex.pfo hA 0 rfl rfl rfl (by rfl) (by rfl) (by rfl) ?_; dsimp only [List.set]) | (refine Ex.pfo hA 1 rfl rfl rfl (by rfl) (by rfl) (by rfl) ?_; dsimp only [List.set]) | (refine Ex.pfo hA 2 rfl rfl rfl (by rfl) (by rfl) (by rfl) ?_; dsimp only [List.set]) | (refine Ex.pfo hA 3 rfl rfl rfl (by rfl) (by rfl) (by rfl) ?_; dsimp only [List.set]) | (refine Ex.pfo hA 4 rfl rfl rfl (by rfl) (by rfl) (by rfl) ?_; dsimp only [List.set]) | (refine Ex.pfo hA 5 rfl rfl rfl (by rfl) (by rfl) (by rfl) ?_; dsimp only [List.set]) | (refine Ex.pfo hA 6 rfl rfl rfl (by rfl) (by rfl) (by rfl) ?_; dsimp only [List.set])))
    refine Ex.ret rfl rfl rfl ?_
    exact k
  obtain ⟨e1, e2, e3⟩ := nI_iof h1.1
  rw [e1, agr_at hf (by omega) e3] at k
  (repeat (first | refine Ex.go rfl rfl ?_ | refine Ex.gf rfl rfl (ov_get hA 0 rfl) (by rfl) (by rfl) ?_ | refine Ex.gf rfl rfl (ov_get hA 1 rfl) (by rfl) (by rfl) ?_ | refine Ex.gf rfl rfl (ov_get hA 2 rfl) (by rfl) (by rfl) ?_ | refine Ex.gf rfl rfl (ov_get hA 3 rfl) (by rfl) (by rfl) ?_ | refine Ex.gf rfl rfl (ov_get hA 4 rfl) (by rfl) (by rfl) ?_ | refine Ex.gf rfl rfl (ov_get hA 5 rfl) (by rfl) (by rfl) ?_ | refine Ex.gf rfl rfl (ov_get hA 6 rfl) (by rfl) (by rfl) ?_ | (refine Ex.pfo hA 0 rfl rfl rfl (by rfl) (by rfl) (by rfl) ?_; dsimp only [List.set]) | (refine Ex.pfo hA 1 rfl rfl rfl (by rfl) (by rfl) (by rfl) ?_; dsimp only [List.set]) | (refine Ex.pfo hA 2 rfl rfl rfl (by rfl) (by rfl) (by rfl) ?_; dsimp only [List.set]) | (refine Ex.pfo hA 3 rfl rfl rfl (by rfl) (by rfl) (by rfl) ?_; dsimp only [List.set]) | (refine Ex.pfo hA 4 rfl rfl rfl (by rfl) (by rfl) (by rfl) ?_; dsimp only [List.set]) | (refine Ex.pfo hA 5 rfl rfl rfl (by rfl) (by rfl) (by rfl) ?_; dsimp only [List.set]) | (refine Ex.pfo hA 6 rfl rfl rfl (by rfl) (by rfl) (by rfl) ?_; dsimp only [List.set])))
  refine Ex.ialo hA 1 rfl e1 rfl (by omega) (by omega) ?_
  (repeat (first | refine Ex.go rfl rfl ?_ | refine Ex.gf rfl rfl (ov_get hA 0 rfl) (by rfl) (by rfl) ?_ | refine Ex.gf rfl rfl (ov_get hA 1 rfl) (by rfl) (by rfl) ?_ | refine Ex.gf rfl rfl (ov_get hA 2 rfl) (by rfl) (by rfl) ?_ | refine Ex.gf rfl rfl (ov_get hA 3 rfl) (by rfl) (by rfl) ?_ | refine Ex.gf rfl rfl (ov_get hA 4 rfl) (by rfl) (by rfl) ?_ | refine Ex.gf rfl rfl (ov_get hA 5 rfl) (by rfl) (by rfl) ?_ | refine Ex.gf rfl rfl (ov_get hA 6 rfl) (by rfl) (by rfl) ?_ | (refine Ex.pfo hA 0 rfl rfl rfl (by rfl) (by rfl) (by rfl) ?_; dsimp only [List.set]) | (refine Ex.pfo hA 1 rfl rfl rfl (by rfl) (by rfl) (by rfl) ?_; dsimp only [List.set]) | (refine Ex.pfo hA 2 rfl rfl rfl (by rfl) (by rfl) (by rfl) ?_; dsimp only [List.set]) | (refine Ex.pfo hA 3 rfl rfl rfl (by rfl) (by rfl) (by rfl) ?_; dsimp only [List.set]) | (refine Ex.pfo hA 4 rfl rfl rfl (by rfl) (by rfl) (by rfl) ?_; dsimp only [List.set]) | (refine Ex.pfo hA 5 rfl rfl rfl (by rfl) (by rfl) (by rfl) ?_; dsimp only [List.set]) | (refine Ex.pfo hA 6 rfl rfl rfl (by rfl) (by rfl) (by rfl) ?_; dsimp only [List.set])))
  refine Ex.ret rfl rfl rfl ?_
  exact k
theorem r_end {n : Int32} (h : RS G lg E fx st sh shs gv mn ls ts rs) (hL : 378 ≤ G.length) (k : ∀ G', RS G' lg E fx st sh shs gv mn ls (rcut n ts) rs → FR G G' → Q (some (.int (bo_b (0 ≤ n ∧ n.toNatClampNeg ≤ ts.length)))) G') : Cx (d + 1) mX11_end [.ref 364, .int n] G Q := by
  obtain ⟨nn, im, imf, old, tpf, R, ⟨c366, c374, c375, c376, c377⟩, ht, h4⟩ := h
  obtain ⟨w, q0, -⟩ := RT_fs R
  have hr : RS G lg E fx st sh shs gv mn ls ts rs := ⟨nn, im, imf, old, tpf, R, ⟨c366, c374, c375, c376, c377⟩, ht, h4⟩
  have hP : (0 ≤ n ∧ n.toNatClampNeg ≤ ts.length) ↔ 0 ≤ n.toInt ∧ n.toInt ≤ (ts.length : Int) := by
    constructor
    · intro z
      have h1 : 0 ≤ n.toInt := Int32.le_iff_toInt_le.mp z.1
      obtain ⟨e1, e2, e3⟩ := nI_iof h1
      exact ⟨h1, by omega⟩
    · intro z
      obtain ⟨e1, e2, e3⟩ := nI_iof z.1
      exact ⟨Int32.le_iff_toInt_le.mpr z.1, by omega⟩
  unfold rcut at k
  refine Cx.body rfl rfl ?_
  (repeat (first | refine Ex.go rfl rfl ?_ | refine Ex.gf rfl rfl (by assumption) (by rfl) (by first | rfl | assumption) ?_))
  refine Ex.cs3 rfl rfl rfl rfl rfl rfl ?_
  refine r_inI (lo := 0) (hi := (ts.length : Int)) (by decide +kernel) (l_of (nI_toInt (by omega))) ?_
  (repeat (first | refine Ex.go rfl rfl ?_ | refine Ex.gf rfl rfl (by assumption) (by rfl) (by first | rfl | assumption) ?_))
  first | (refine Ex.brz (fun h1 => ?_) (fun h1 => ?_); rotate_left) | (refine Ex.brn (fun h1 => ?_) (fun h1 => ?_); rotate_left)
  · have h2 : ¬ (0 ≤ n ∧ n.toNatClampNeg ≤ ts.length) := fun z => h1 (hP.mp z)
    rw [if_neg h2, bo_b_f h2] at k
    have k := k G hr (FR.rfl' G)
    (repeat (first | refine Ex.go rfl rfl ?_ | refine Ex.gf rfl rfl (by assumption) (by rfl) (by first | rfl | assumption) ?_))
    refine Ex.retz rfl rfl rfl (Or.inl rfl) ?_
    exact k
  have h2 := hP.mpr h1
  rw [if_pos h2, bo_b_t h2] at k
  obtain ⟨e1, e2, e3⟩ := nI_iof h1.1
  refine Ex.lay [(364, cO 11 (rF E fx (tdy lg E) (acl lg E).length (osl lg E).length (vsl lg E).length (rsl lg E).length st sh shs w (nI mn) im (nI ts.length) rs))] (lay1 q0) ?_
  have hA := ap1 q0
  (repeat (first | refine Ex.go rfl rfl ?_ | refine Ex.gf rfl rfl (ov_get hA 0 rfl) (by rfl) (by rfl) ?_ | refine Ex.gf rfl rfl (ov_get hA 1 rfl) (by rfl) (by rfl) ?_ | refine Ex.gf rfl rfl (ov_get hA 2 rfl) (by rfl) (by rfl) ?_ | refine Ex.gf rfl rfl (ov_get hA 3 rfl) (by rfl) (by rfl) ?_ | refine Ex.gf rfl rfl (ov_get hA 4 rfl) (by rfl) (by rfl) ?_ | refine Ex.gf rfl rfl (ov_get hA 5 rfl) (by rfl) (by rfl) ?_ | refine Ex.gf rfl rfl (ov_get hA 6 rfl) (by rfl) (by rfl) ?_ | (refine Ex.pfo hA 0 rfl rfl rfl (by rfl) (by rfl) (by rfl) ?_; dsimp only [List.set]) | (refine Ex.pfo hA 1 rfl rfl rfl (by rfl) (by rfl) (by rfl) ?_; dsimp only [List.set]) | (refine Ex.pfo hA 2 rfl rfl rfl (by rfl) (by rfl) (by rfl) ?_; dsimp only [List.set]) | (refine Ex.pfo hA 3 rfl rfl rfl (by rfl) (by rfl) (by rfl) ?_; dsimp only [List.set]) | (refine Ex.pfo hA 4 rfl rfl rfl (by rfl) (by rfl) (by rfl) ?_; dsimp only [List.set]) | (refine Ex.pfo hA 5 rfl rfl rfl (by rfl) (by rfl) (by rfl) ?_; dsimp only [List.set]) | (refine Ex.pfo hA 6 rfl rfl rfl (by rfl) (by rfl) (by rfl) ?_; dsimp only [List.set])))
  refine Ex.retz rfl rfl rfl (Or.inr rfl) ?_
  have hl : (ts.take n.toNatClampNeg).length = n.toNatClampNeg := by rw [List.length_take]; omega
  have q1 : (ov G [(364, cO 11 (rF E fx (tdy lg E) (acl lg E).length (osl lg E).length (vsl lg E).length (rsl lg E).length st sh shs w (nI mn) im (nI (ts.take n.toNatClampNeg).length) rs))])[364]? = some (cO 11 (rF E fx (tdy lg E) (acl lg E).length (osl lg E).length (vsl lg E).length (rsl lg E).length st sh shs w (nI mn) im (nI (ts.take n.toNatClampNeg).length) rs)) := get_set q0
  have q2 : ∀ x, (ov G [(364, cO 11 (rF E fx (tdy lg E) (acl lg E).length (osl lg E).length (vsl lg E).length (rsl lg E).length st sh shs w (nI mn) im x rs))]) = ov G [(364, cO 11 (rF E fx (tdy lg E) (acl lg E).length (osl lg E).length (vsl lg E).length (rsl lg E).length st sh shs w (nI mn) im x rs))] := fun _ => rfl
  show Q (some (.int 1)) (ov G [(364, cO 11 (rF E fx (tdy lg E) (acl lg E).length (osl lg E).length (vsl lg E).length (rsl lg E).length st sh shs w (nI mn) im n rs))])
  have en : n = nI (ts.take n.toNatClampNeg).length := by rw [hl]; exact e1
  generalize hm : ts.take n.toNatClampNeg = ts' at en k q1 hl
  subst en
  have hA : ap ([(364, cO 11 (rF E fx (tdy lg E) (acl lg E).length (osl lg E).length (vsl lg E).length (rsl lg E).length st sh shs w (nI mn) im (nI ts'.length) rs))].map Prod.fst) G.length := ap1 q0
  exact k _ ⟨nn, im, imf, old, tpf, RT_ov R hA (fun j h1 h2 _ z => by simp at z; omega) q1, ⟨(by first | exact ov_get hA 0 rfl | exact ov_get hA 1 rfl | exact ov_get hA 2 rfl | exact ov_get hA 3 rfl | exact ov_get hA 4 rfl | (rw [ov_ne (by simp)]; assumption)), (by first | exact ov_get hA 0 rfl | exact ov_get hA 1 rfl | exact ov_get hA 2 rfl | exact ov_get hA 3 rfl | exact ov_get hA 4 rfl | (rw [ov_ne (by simp)]; assumption)), (by first | exact ov_get hA 0 rfl | exact ov_get hA 1 rfl | exact ov_get hA 2 rfl | exact ov_get hA 3 rfl | exact ov_get hA 4 rfl | (rw [ov_ne (by simp)]; assumption)), (by first | exact ov_get hA 0 rfl | exact ov_get hA 1 rfl | exact ov_get hA 2 rfl | exact ov_get hA 3 rfl | exact ov_get hA 4 rfl | (rw [ov_ne (by simp)]; assumption)), (by first | exact ov_get hA 0 rfl | exact ov_get hA 1 rfl | exact ov_get hA 2 rfl | exact ov_get hA 3 rfl | exact ov_get hA 4 rfl | (rw [ov_ne (by simp)]; assumption))⟩, by rw [← hm]; exact ht.take _, by rw [hl]; omega⟩ (FR.ov (FR.rfl' G) (by simp))
theorem r_feed {a b c e f : Int32} (h : RS G lg E fx st sh shs gv mn ls ts rs) (hL : 378 ≤ G.length) (k0 : ¬ ts.length + 5 ≤ 40000 → Q (some (.int (-1))) G) (k1 : ts.length + 5 ≤ 40000 → ∀ G', RS G' lg E fx st sh shs gv mn ls (ts ++ [a, b, c, e, f]) rs → FR G G' → Q (some (.int (nI (ts.length + 5)))) G') : Cx d mX11_feed [.ref 364, .int a, .int b, .int c, .int e, .int f] G Q := by
  obtain ⟨nn, im, imf, old, tpf, R, ⟨c366, c374, c375, c376, c377⟩, ht, h4⟩ := h
  obtain ⟨w, q0, -⟩ := RT_fs R
  have k39 : (39995 : Int32).toInt = 39995 := by decide +kernel
  refine Cx.body rfl rfl ?_
  (repeat (first | refine Ex.go rfl rfl ?_ | refine Ex.gf rfl rfl (by assumption) (by rfl) (by first | rfl | assumption) ?_))
  refine Ex.br (fun h1 => ?_) (fun h1 => ?_); rotate_left
  · have h2 := Int32.lt_iff_toInt_lt.mp (Int32.not_le.mp h1)
    rw [k39, nI_toInt (by omega)] at h2
    have k := k0 (by omega)
    (repeat (first | refine Ex.go rfl rfl ?_ | refine Ex.gf rfl rfl (by assumption) (by rfl) (by first | rfl | assumption) ?_))
    refine Ex.ret rfl rfl rfl ?_
    exact k
  have h2 := Int32.le_iff_toInt_le.mp h1
  rw [k39, nI_toInt (by omega)] at h2
  have h3 : ts.length + 5 ≤ 40000 := by omega
  have k := k1 h3
  refine Ex.lay [(364, cO 11 (rF E fx (tdy lg E) (acl lg E).length (osl lg E).length (vsl lg E).length (rsl lg E).length st sh shs w (nI mn) im (nI ts.length) rs)), (377, cI 40000 tpf)] (by simp only [List.forall_mem_cons]; exact ⟨q0, c377, fun _ z => absurd z List.not_mem_nil⟩) ?_
  have hA : ap ([(364, cO 11 (rF E fx (tdy lg E) (acl lg E).length (osl lg E).length (vsl lg E).length (rsl lg E).length st sh shs w (nI mn) im (nI ts.length) rs)), (377, cI 40000 tpf)].map Prod.fst) G.length := apG (as := [364, 377]) (by decide) (by decide) hL
  (repeat (first | refine Ex.go rfl rfl ?_ | refine Ex.gf rfl rfl (ov_get hA 0 rfl) (by rfl) (by rfl) ?_ | refine Ex.gf rfl rfl (ov_get hA 1 rfl) (by rfl) (by rfl) ?_ | refine Ex.gf rfl rfl (ov_get hA 2 rfl) (by rfl) (by rfl) ?_ | refine Ex.gf rfl rfl (ov_get hA 3 rfl) (by rfl) (by rfl) ?_ | refine Ex.gf rfl rfl (ov_get hA 4 rfl) (by rfl) (by rfl) ?_ | refine Ex.gf rfl rfl (ov_get hA 5 rfl) (by rfl) (by rfl) ?_ | refine Ex.gf rfl rfl (ov_get hA 6 rfl) (by rfl) (by rfl) ?_ | (refine Ex.pfo hA 0 rfl rfl rfl (by rfl) (by rfl) (by rfl) ?_; dsimp only [List.set]) | (refine Ex.pfo hA 1 rfl rfl rfl (by rfl) (by rfl) (by rfl) ?_; dsimp only [List.set]) | (refine Ex.pfo hA 2 rfl rfl rfl (by rfl) (by rfl) (by rfl) ?_; dsimp only [List.set]) | (refine Ex.pfo hA 3 rfl rfl rfl (by rfl) (by rfl) (by rfl) ?_; dsimp only [List.set]) | (refine Ex.pfo hA 4 rfl rfl rfl (by rfl) (by rfl) (by rfl) ?_; dsimp only [List.set]) | (refine Ex.pfo hA 5 rfl rfl rfl (by rfl) (by rfl) (by rfl) ?_; dsimp only [List.set]) | (refine Ex.pfo hA 6 rfl rfl rfl (by rfl) (by rfl) (by rfl) ?_; dsimp only [List.set])))
  refine Ex.iaso hA 1 rfl (j := ts.length) rfl rfl (by omega) (by omega) ?_
  dsimp only [List.set]
  (repeat (first | refine Ex.go rfl rfl ?_ | refine Ex.gf rfl rfl (ov_get hA 0 rfl) (by rfl) (by rfl) ?_ | refine Ex.gf rfl rfl (ov_get hA 1 rfl) (by rfl) (by rfl) ?_ | refine Ex.gf rfl rfl (ov_get hA 2 rfl) (by rfl) (by rfl) ?_ | refine Ex.gf rfl rfl (ov_get hA 3 rfl) (by rfl) (by rfl) ?_ | refine Ex.gf rfl rfl (ov_get hA 4 rfl) (by rfl) (by rfl) ?_ | refine Ex.gf rfl rfl (ov_get hA 5 rfl) (by rfl) (by rfl) ?_ | refine Ex.gf rfl rfl (ov_get hA 6 rfl) (by rfl) (by rfl) ?_ | (refine Ex.pfo hA 0 rfl rfl rfl (by rfl) (by rfl) (by rfl) ?_; dsimp only [List.set]) | (refine Ex.pfo hA 1 rfl rfl rfl (by rfl) (by rfl) (by rfl) ?_; dsimp only [List.set]) | (refine Ex.pfo hA 2 rfl rfl rfl (by rfl) (by rfl) (by rfl) ?_; dsimp only [List.set]) | (refine Ex.pfo hA 3 rfl rfl rfl (by rfl) (by rfl) (by rfl) ?_; dsimp only [List.set]) | (refine Ex.pfo hA 4 rfl rfl rfl (by rfl) (by rfl) (by rfl) ?_; dsimp only [List.set]) | (refine Ex.pfo hA 5 rfl rfl rfl (by rfl) (by rfl) (by rfl) ?_; dsimp only [List.set]) | (refine Ex.pfo hA 6 rfl rfl rfl (by rfl) (by rfl) (by rfl) ?_; dsimp only [List.set])))
  refine Ex.iaso hA 1 rfl (show nI ts.length + nI 1 = nI (ts.length + 1) by rw [nI_add]) rfl (by omega) (by omega) ?_
  dsimp only [List.set]
  (repeat (first | refine Ex.go rfl rfl ?_ | refine Ex.gf rfl rfl (ov_get hA 0 rfl) (by rfl) (by rfl) ?_ | refine Ex.gf rfl rfl (ov_get hA 1 rfl) (by rfl) (by rfl) ?_ | refine Ex.gf rfl rfl (ov_get hA 2 rfl) (by rfl) (by rfl) ?_ | refine Ex.gf rfl rfl (ov_get hA 3 rfl) (by rfl) (by rfl) ?_ | refine Ex.gf rfl rfl (ov_get hA 4 rfl) (by rfl) (by rfl) ?_ | refine Ex.gf rfl rfl (ov_get hA 5 rfl) (by rfl) (by rfl) ?_ | refine Ex.gf rfl rfl (ov_get hA 6 rfl) (by rfl) (by rfl) ?_ | (refine Ex.pfo hA 0 rfl rfl rfl (by rfl) (by rfl) (by rfl) ?_; dsimp only [List.set]) | (refine Ex.pfo hA 1 rfl rfl rfl (by rfl) (by rfl) (by rfl) ?_; dsimp only [List.set]) | (refine Ex.pfo hA 2 rfl rfl rfl (by rfl) (by rfl) (by rfl) ?_; dsimp only [List.set]) | (refine Ex.pfo hA 3 rfl rfl rfl (by rfl) (by rfl) (by rfl) ?_; dsimp only [List.set]) | (refine Ex.pfo hA 4 rfl rfl rfl (by rfl) (by rfl) (by rfl) ?_; dsimp only [List.set]) | (refine Ex.pfo hA 5 rfl rfl rfl (by rfl) (by rfl) (by rfl) ?_; dsimp only [List.set]) | (refine Ex.pfo hA 6 rfl rfl rfl (by rfl) (by rfl) (by rfl) ?_; dsimp only [List.set])))
  refine Ex.iaso hA 1 rfl (show nI ts.length + nI 2 = nI (ts.length + 2) by rw [nI_add]) rfl (by omega) (by omega) ?_
  dsimp only [List.set]
  (repeat (first | refine Ex.go rfl rfl ?_ | refine Ex.gf rfl rfl (ov_get hA 0 rfl) (by rfl) (by rfl) ?_ | refine Ex.gf rfl rfl (ov_get hA 1 rfl) (by rfl) (by rfl) ?_ | refine Ex.gf rfl rfl (ov_get hA 2 rfl) (by rfl) (by rfl) ?_ | refine Ex.gf rfl rfl (ov_get hA 3 rfl) (by rfl) (by rfl) ?_ | refine Ex.gf rfl rfl (ov_get hA 4 rfl) (by rfl) (by rfl) ?_ | refine Ex.gf rfl rfl (ov_get hA 5 rfl) (by rfl) (by rfl) ?_ | refine Ex.gf rfl rfl (ov_get hA 6 rfl) (by rfl) (by rfl) ?_ | (refine Ex.pfo hA 0 rfl rfl rfl (by rfl) (by rfl) (by rfl) ?_; dsimp only [List.set]) | (refine Ex.pfo hA 1 rfl rfl rfl (by rfl) (by rfl) (by rfl) ?_; dsimp only [List.set]) | (refine Ex.pfo hA 2 rfl rfl rfl (by rfl) (by rfl) (by rfl) ?_; dsimp only [List.set]) | (refine Ex.pfo hA 3 rfl rfl rfl (by rfl) (by rfl) (by rfl) ?_; dsimp only [List.set]) | (refine Ex.pfo hA 4 rfl rfl rfl (by rfl) (by rfl) (by rfl) ?_; dsimp only [List.set]) | (refine Ex.pfo hA 5 rfl rfl rfl (by rfl) (by rfl) (by rfl) ?_; dsimp only [List.set]) | (refine Ex.pfo hA 6 rfl rfl rfl (by rfl) (by rfl) (by rfl) ?_; dsimp only [List.set])))
  refine Ex.iaso hA 1 rfl (show nI ts.length + nI 3 = nI (ts.length + 3) by rw [nI_add]) rfl (by omega) (by omega) ?_
  dsimp only [List.set]
  (repeat (first | refine Ex.go rfl rfl ?_ | refine Ex.gf rfl rfl (ov_get hA 0 rfl) (by rfl) (by rfl) ?_ | refine Ex.gf rfl rfl (ov_get hA 1 rfl) (by rfl) (by rfl) ?_ | refine Ex.gf rfl rfl (ov_get hA 2 rfl) (by rfl) (by rfl) ?_ | refine Ex.gf rfl rfl (ov_get hA 3 rfl) (by rfl) (by rfl) ?_ | refine Ex.gf rfl rfl (ov_get hA 4 rfl) (by rfl) (by rfl) ?_ | refine Ex.gf rfl rfl (ov_get hA 5 rfl) (by rfl) (by rfl) ?_ | refine Ex.gf rfl rfl (ov_get hA 6 rfl) (by rfl) (by rfl) ?_ | (refine Ex.pfo hA 0 rfl rfl rfl (by rfl) (by rfl) (by rfl) ?_; dsimp only [List.set]) | (refine Ex.pfo hA 1 rfl rfl rfl (by rfl) (by rfl) (by rfl) ?_; dsimp only [List.set]) | (refine Ex.pfo hA 2 rfl rfl rfl (by rfl) (by rfl) (by rfl) ?_; dsimp only [List.set]) | (refine Ex.pfo hA 3 rfl rfl rfl (by rfl) (by rfl) (by rfl) ?_; dsimp only [List.set]) | (refine Ex.pfo hA 4 rfl rfl rfl (by rfl) (by rfl) (by rfl) ?_; dsimp only [List.set]) | (refine Ex.pfo hA 5 rfl rfl rfl (by rfl) (by rfl) (by rfl) ?_; dsimp only [List.set]) | (refine Ex.pfo hA 6 rfl rfl rfl (by rfl) (by rfl) (by rfl) ?_; dsimp only [List.set])))
  refine Ex.iaso hA 1 rfl (show nI ts.length + nI 4 = nI (ts.length + 4) by rw [nI_add]) rfl (by omega) (by omega) ?_
  dsimp only [List.set]
  (repeat (first | refine Ex.go rfl rfl ?_ | refine Ex.gf rfl rfl (ov_get hA 0 rfl) (by rfl) (by rfl) ?_ | refine Ex.gf rfl rfl (ov_get hA 1 rfl) (by rfl) (by rfl) ?_ | refine Ex.gf rfl rfl (ov_get hA 2 rfl) (by rfl) (by rfl) ?_ | refine Ex.gf rfl rfl (ov_get hA 3 rfl) (by rfl) (by rfl) ?_ | refine Ex.gf rfl rfl (ov_get hA 4 rfl) (by rfl) (by rfl) ?_ | refine Ex.gf rfl rfl (ov_get hA 5 rfl) (by rfl) (by rfl) ?_ | refine Ex.gf rfl rfl (ov_get hA 6 rfl) (by rfl) (by rfl) ?_ | (refine Ex.pfo hA 0 rfl rfl rfl (by rfl) (by rfl) (by rfl) ?_; dsimp only [List.set]) | (refine Ex.pfo hA 1 rfl rfl rfl (by rfl) (by rfl) (by rfl) ?_; dsimp only [List.set]) | (refine Ex.pfo hA 2 rfl rfl rfl (by rfl) (by rfl) (by rfl) ?_; dsimp only [List.set]) | (refine Ex.pfo hA 3 rfl rfl rfl (by rfl) (by rfl) (by rfl) ?_; dsimp only [List.set]) | (refine Ex.pfo hA 4 rfl rfl rfl (by rfl) (by rfl) (by rfl) ?_; dsimp only [List.set]) | (refine Ex.pfo hA 5 rfl rfl rfl (by rfl) (by rfl) (by rfl) ?_; dsimp only [List.set]) | (refine Ex.pfo hA 6 rfl rfl rfl (by rfl) (by rfl) (by rfl) ?_; dsimp only [List.set])))
  refine Ex.ret rfl rfl rfl ?_
  have en : nI ts.length + nI 5 = nI (ts.length + 5) := nI_add _ _
  have el : (ts ++ [a, b, c, e, f]).length = ts.length + 5 := by simp
  have hg : agr (upd (upd (upd (upd (upd tpf ts.length a) (ts.length + 1) b) (ts.length + 2) c) (ts.length + 3) e) (ts.length + 4) f) (ts ++ [a, b, c, e, f]) := by
    have g1 := ht.push a
    have g2 := g1.push b
    have g3 := g2.push c
    have g4 := g3.push e
    have g5 := g4.push f
    simp only [List.length_append, List.length_singleton, List.append_assoc, List.singleton_append, List.cons_append, List.nil_append, Nat.add_assoc] at g5
    exact g5
  show Q (some (.int (nI ts.length + nI 5))) (ov G [(364, cO 11 (rF E fx (tdy lg E) (acl lg E).length (osl lg E).length (vsl lg E).length (rsl lg E).length st sh shs w (nI mn) im (nI ts.length + nI 5) rs)), (377, cI 40000 (upd (upd (upd (upd (upd tpf ts.length a) (ts.length + 1) b) (ts.length + 2) c) (ts.length + 3) e) (ts.length + 4) f))])
  rw [← el] at k
  rw [en, ← el]
  generalize upd (upd (upd (upd (upd tpf ts.length a) (ts.length + 1) b) (ts.length + 2) c) (ts.length + 3) e) (ts.length + 4) f = tpf' at hg ⊢
  have hA : ap ([(364, cO 11 (rF E fx (tdy lg E) (acl lg E).length (osl lg E).length (vsl lg E).length (rsl lg E).length st sh shs w (nI mn) im (nI (ts ++ [a, b, c, e, f]).length) rs)), (377, cI 40000 tpf')].map Prod.fst) G.length := apG (as := [364, 377]) (by decide) (by decide) hL
  exact k _ ⟨nn, im, imf, old, tpf', RT_ov R hA (fun j h1 h2 _ z => by simp at z; omega) (ov_get hA 0 rfl), ⟨(by first | exact ov_get hA 0 rfl | exact ov_get hA 1 rfl | exact ov_get hA 2 rfl | exact ov_get hA 3 rfl | exact ov_get hA 4 rfl | (rw [ov_ne (by simp)]; assumption)), (by first | exact ov_get hA 0 rfl | exact ov_get hA 1 rfl | exact ov_get hA 2 rfl | exact ov_get hA 3 rfl | exact ov_get hA 4 rfl | (rw [ov_ne (by simp)]; assumption)), (by first | exact ov_get hA 0 rfl | exact ov_get hA 1 rfl | exact ov_get hA 2 rfl | exact ov_get hA 3 rfl | exact ov_get hA 4 rfl | (rw [ov_ne (by simp)]; assumption)), (by first | exact ov_get hA 0 rfl | exact ov_get hA 1 rfl | exact ov_get hA 2 rfl | exact ov_get hA 3 rfl | exact ov_get hA 4 rfl | (rw [ov_ne (by simp)]; assumption)), (by first | exact ov_get hA 0 rfl | exact ov_get hA 1 rfl | exact ov_get hA 2 rfl | exact ov_get hA 3 rfl | exact ov_get hA 4 rfl | (rw [ov_ne (by simp)]; assumption))⟩, hg, by simp; omega⟩ (FR.ov (FR.rfl' G) (by simp))
theorem r_again (h : RS G lg E fx st sh shs gv mn ls ts rs) (hW : WF lg E) (hE : E ≤ 6000) (hL : 378 ≤ G.length) (k : ∀ G', RS G' lg E fx st sh shs gv mn ls (img lg E) rs → FR G G' → Q (some (.int (nI (img lg E).length))) G') : Cx (d + 3) mX11_again [.ref 364] G Q := by
  obtain ⟨nn, im, imf, old, tpf, R, ⟨c366, c374, c375, c376, c377⟩, ht⟩ := h
  obtain ⟨w, q0, -⟩ := RT_fs R
  have hI4 := WF_img hW
  refine Cx.body rfl rfl ?_
  (repeat (first | refine Ex.go rfl rfl ?_ | refine Ex.gf rfl rfl (by assumption) (by rfl) (by first | rfl | assumption) ?_))
  refine Ex.cv0 rfl rfl rfl (by assumption) (by rfl) (by decide) rfl ?_
  refine r_made R hW hE hL c376 (fun L f w' eL hA R' hf => ?_)
  subst eL
  have hAp : ∀ tp g, ap ([(364, cO 11 (rF E fx (tdy lg E) (acl lg E).length (osl lg E).length (vsl lg E).length (rsl lg E).length st sh shs w' (nI mn) (nI (img lg E).length) tp rs)), (376, cI 40000 f), (377, cI 40000 g)].map Prod.fst) G.length := fun tp g => apG (as := [364, 376, 377]) (by decide) (by decide) hL
  have loop : ∀ (e i : Nat) (a : Int32) (g : Nat → Int32), a = nI i → i + e = (img lg E).length → agr g ((img lg E).take i) → Ex (d + 3) mX11_again (6, [(0, .ref 364), (1, .int a)], [], ov G [(364, cO 11 (rF E fx (tdy lg E) (acl lg E).length (osl lg E).length (vsl lg E).length (rsl lg E).length st sh shs w' (nI mn) (nI (img lg E).length) (nI ts.length) rs)), (376, cI 40000 f), (377, cI 40000 g)]) Q := by
    intro e
    induction e with
    | zero =>
      intro i a g ha hi hg
      subst ha
      have hA := hAp (nI ts.length) g
      (repeat (first | refine Ex.go rfl rfl ?_ | refine Ex.gf rfl rfl (ov_get hA 0 rfl) (by rfl) (by rfl) ?_ | refine Ex.gf rfl rfl (ov_get hA 1 rfl) (by rfl) (by rfl) ?_ | refine Ex.gf rfl rfl (ov_get hA 2 rfl) (by rfl) (by rfl) ?_ | refine Ex.gf rfl rfl (ov_get hA 3 rfl) (by rfl) (by rfl) ?_ | refine Ex.gf rfl rfl (ov_get hA 4 rfl) (by rfl) (by rfl) ?_ | refine Ex.gf rfl rfl (ov_get hA 5 rfl) (by rfl) (by rfl) ?_ | refine Ex.gf rfl rfl (ov_get hA 6 rfl) (by rfl) (by rfl) ?_ | (refine Ex.pfo hA 0 rfl rfl rfl (by rfl) (by rfl) (by rfl) ?_; dsimp only [List.set]) | (refine Ex.pfo hA 1 rfl rfl rfl (by rfl) (by rfl) (by rfl) ?_; dsimp only [List.set]) | (refine Ex.pfo hA 2 rfl rfl rfl (by rfl) (by rfl) (by rfl) ?_; dsimp only [List.set]) | (refine Ex.pfo hA 3 rfl rfl rfl (by rfl) (by rfl) (by rfl) ?_; dsimp only [List.set]) | (refine Ex.pfo hA 4 rfl rfl rfl (by rfl) (by rfl) (by rfl) ?_; dsimp only [List.set]) | (refine Ex.pfo hA 5 rfl rfl rfl (by rfl) (by rfl) (by rfl) ?_; dsimp only [List.set]) | (refine Ex.pfo hA 6 rfl rfl rfl (by rfl) (by rfl) (by rfl) ?_; dsimp only [List.set])))
      refine Ex.br (fun hc => ?_) (fun hc => ?_); rotate_left
      · exact absurd (nI_le (show (img lg E).length ≤ i by omega) (by omega)) hc
      (repeat (first | refine Ex.go rfl rfl ?_ | refine Ex.gf rfl rfl (ov_get hA 0 rfl) (by rfl) (by rfl) ?_ | refine Ex.gf rfl rfl (ov_get hA 1 rfl) (by rfl) (by rfl) ?_ | refine Ex.gf rfl rfl (ov_get hA 2 rfl) (by rfl) (by rfl) ?_ | refine Ex.gf rfl rfl (ov_get hA 3 rfl) (by rfl) (by rfl) ?_ | refine Ex.gf rfl rfl (ov_get hA 4 rfl) (by rfl) (by rfl) ?_ | refine Ex.gf rfl rfl (ov_get hA 5 rfl) (by rfl) (by rfl) ?_ | refine Ex.gf rfl rfl (ov_get hA 6 rfl) (by rfl) (by rfl) ?_ | (refine Ex.pfo hA 0 rfl rfl rfl (by rfl) (by rfl) (by rfl) ?_; dsimp only [List.set]) | (refine Ex.pfo hA 1 rfl rfl rfl (by rfl) (by rfl) (by rfl) ?_; dsimp only [List.set]) | (refine Ex.pfo hA 2 rfl rfl rfl (by rfl) (by rfl) (by rfl) ?_; dsimp only [List.set]) | (refine Ex.pfo hA 3 rfl rfl rfl (by rfl) (by rfl) (by rfl) ?_; dsimp only [List.set]) | (refine Ex.pfo hA 4 rfl rfl rfl (by rfl) (by rfl) (by rfl) ?_; dsimp only [List.set]) | (refine Ex.pfo hA 5 rfl rfl rfl (by rfl) (by rfl) (by rfl) ?_; dsimp only [List.set]) | (refine Ex.pfo hA 6 rfl rfl rfl (by rfl) (by rfl) (by rfl) ?_; dsimp only [List.set])))
      refine Ex.ret rfl rfl rfl ?_
      have hA := hAp (nI (img lg E).length) g
      rw [List.take_of_length_le (by omega)] at hg
      refine k _ ⟨nn, _, f, old, g, RT_ov R (hAp _ g) (fun j h1 h2 _ z => by simp at z; omega) (ov_get (hAp (nI (img lg E).length) g) 0 rfl), ⟨(by first | exact ov_get hA 0 rfl | exact ov_get hA 1 rfl | exact ov_get hA 2 rfl | exact ov_get hA 3 rfl | exact ov_get hA 4 rfl | (rw [ov_ne (by simp)]; assumption)), (by first | exact ov_get hA 0 rfl | exact ov_get hA 1 rfl | exact ov_get hA 2 rfl | exact ov_get hA 3 rfl | exact ov_get hA 4 rfl | (rw [ov_ne (by simp)]; assumption)), (by first | exact ov_get hA 0 rfl | exact ov_get hA 1 rfl | exact ov_get hA 2 rfl | exact ov_get hA 3 rfl | exact ov_get hA 4 rfl | (rw [ov_ne (by simp)]; assumption)), (by first | exact ov_get hA 0 rfl | exact ov_get hA 1 rfl | exact ov_get hA 2 rfl | exact ov_get hA 3 rfl | exact ov_get hA 4 rfl | (rw [ov_ne (by simp)]; assumption)), (by first | exact ov_get hA 0 rfl | exact ov_get hA 1 rfl | exact ov_get hA 2 rfl | exact ov_get hA 3 rfl | exact ov_get hA 4 rfl | (rw [ov_ne (by simp)]; assumption))⟩, hg, hI4⟩ (FR.ov (FR.rfl' G) (by simp))
    | succ e ih =>
      intro i a g ha hi hg
      subst ha
      have hA := hAp (nI ts.length) g
      have hil : i < (img lg E).length := by omega
      (repeat (first | refine Ex.go rfl rfl ?_ | refine Ex.gf rfl rfl (ov_get hA 0 rfl) (by rfl) (by rfl) ?_ | refine Ex.gf rfl rfl (ov_get hA 1 rfl) (by rfl) (by rfl) ?_ | refine Ex.gf rfl rfl (ov_get hA 2 rfl) (by rfl) (by rfl) ?_ | refine Ex.gf rfl rfl (ov_get hA 3 rfl) (by rfl) (by rfl) ?_ | refine Ex.gf rfl rfl (ov_get hA 4 rfl) (by rfl) (by rfl) ?_ | refine Ex.gf rfl rfl (ov_get hA 5 rfl) (by rfl) (by rfl) ?_ | refine Ex.gf rfl rfl (ov_get hA 6 rfl) (by rfl) (by rfl) ?_ | (refine Ex.pfo hA 0 rfl rfl rfl (by rfl) (by rfl) (by rfl) ?_; dsimp only [List.set]) | (refine Ex.pfo hA 1 rfl rfl rfl (by rfl) (by rfl) (by rfl) ?_; dsimp only [List.set]) | (refine Ex.pfo hA 2 rfl rfl rfl (by rfl) (by rfl) (by rfl) ?_; dsimp only [List.set]) | (refine Ex.pfo hA 3 rfl rfl rfl (by rfl) (by rfl) (by rfl) ?_; dsimp only [List.set]) | (refine Ex.pfo hA 4 rfl rfl rfl (by rfl) (by rfl) (by rfl) ?_; dsimp only [List.set]) | (refine Ex.pfo hA 5 rfl rfl rfl (by rfl) (by rfl) (by rfl) ?_; dsimp only [List.set]) | (refine Ex.pfo hA 6 rfl rfl rfl (by rfl) (by rfl) (by rfl) ?_; dsimp only [List.set])))
      refine Ex.br (fun hc => ?_) (fun hc => ?_)
      · have := (n_ge (a := i) (b := (img lg E).length) (by omega) (by omega)).mp hc
        omega
      (repeat (first | refine Ex.go rfl rfl ?_ | refine Ex.gf rfl rfl (ov_get hA 0 rfl) (by rfl) (by rfl) ?_ | refine Ex.gf rfl rfl (ov_get hA 1 rfl) (by rfl) (by rfl) ?_ | refine Ex.gf rfl rfl (ov_get hA 2 rfl) (by rfl) (by rfl) ?_ | refine Ex.gf rfl rfl (ov_get hA 3 rfl) (by rfl) (by rfl) ?_ | refine Ex.gf rfl rfl (ov_get hA 4 rfl) (by rfl) (by rfl) ?_ | refine Ex.gf rfl rfl (ov_get hA 5 rfl) (by rfl) (by rfl) ?_ | refine Ex.gf rfl rfl (ov_get hA 6 rfl) (by rfl) (by rfl) ?_ | (refine Ex.pfo hA 0 rfl rfl rfl (by rfl) (by rfl) (by rfl) ?_; dsimp only [List.set]) | (refine Ex.pfo hA 1 rfl rfl rfl (by rfl) (by rfl) (by rfl) ?_; dsimp only [List.set]) | (refine Ex.pfo hA 2 rfl rfl rfl (by rfl) (by rfl) (by rfl) ?_; dsimp only [List.set]) | (refine Ex.pfo hA 3 rfl rfl rfl (by rfl) (by rfl) (by rfl) ?_; dsimp only [List.set]) | (refine Ex.pfo hA 4 rfl rfl rfl (by rfl) (by rfl) (by rfl) ?_; dsimp only [List.set]) | (refine Ex.pfo hA 5 rfl rfl rfl (by rfl) (by rfl) (by rfl) ?_; dsimp only [List.set]) | (refine Ex.pfo hA 6 rfl rfl rfl (by rfl) (by rfl) (by rfl) ?_; dsimp only [List.set])))
      refine Ex.ialo hA 1 rfl (j := i) rfl rfl (by omega) (by omega) ?_
      (repeat (first | refine Ex.go rfl rfl ?_ | refine Ex.gf rfl rfl (ov_get hA 0 rfl) (by rfl) (by rfl) ?_ | refine Ex.gf rfl rfl (ov_get hA 1 rfl) (by rfl) (by rfl) ?_ | refine Ex.gf rfl rfl (ov_get hA 2 rfl) (by rfl) (by rfl) ?_ | refine Ex.gf rfl rfl (ov_get hA 3 rfl) (by rfl) (by rfl) ?_ | refine Ex.gf rfl rfl (ov_get hA 4 rfl) (by rfl) (by rfl) ?_ | refine Ex.gf rfl rfl (ov_get hA 5 rfl) (by rfl) (by rfl) ?_ | refine Ex.gf rfl rfl (ov_get hA 6 rfl) (by rfl) (by rfl) ?_ | (refine Ex.pfo hA 0 rfl rfl rfl (by rfl) (by rfl) (by rfl) ?_; dsimp only [List.set]) | (refine Ex.pfo hA 1 rfl rfl rfl (by rfl) (by rfl) (by rfl) ?_; dsimp only [List.set]) | (refine Ex.pfo hA 2 rfl rfl rfl (by rfl) (by rfl) (by rfl) ?_; dsimp only [List.set]) | (refine Ex.pfo hA 3 rfl rfl rfl (by rfl) (by rfl) (by rfl) ?_; dsimp only [List.set]) | (refine Ex.pfo hA 4 rfl rfl rfl (by rfl) (by rfl) (by rfl) ?_; dsimp only [List.set]) | (refine Ex.pfo hA 5 rfl rfl rfl (by rfl) (by rfl) (by rfl) ?_; dsimp only [List.set]) | (refine Ex.pfo hA 6 rfl rfl rfl (by rfl) (by rfl) (by rfl) ?_; dsimp only [List.set])))
      refine Ex.iaso hA 2 rfl (j := i) rfl rfl (by omega) (by omega) ?_
      dsimp only [List.set]
      have hg2 := hg.push (f i)
      have et : (img lg E).take (i + 1) = (img lg E).take i ++ [f i] := by rw [List.take_add_one, hf i hil]; rfl
      rw [← et, List.length_take, Nat.min_eq_left (by omega)] at hg2
      (repeat (first | exact ih (i + 1) _ _ (nI_1 i) (by omega) hg2 | refine Ex.go rfl rfl ?_ | refine Ex.gf rfl rfl (ov_get hA 0 rfl) (by rfl) (by rfl) ?_ | refine Ex.gf rfl rfl (ov_get hA 1 rfl) (by rfl) (by rfl) ?_ | refine Ex.gf rfl rfl (ov_get hA 2 rfl) (by rfl) (by rfl) ?_ | refine Ex.gf rfl rfl (ov_get hA 3 rfl) (by rfl) (by rfl) ?_ | refine Ex.gf rfl rfl (ov_get hA 4 rfl) (by rfl) (by rfl) ?_ | refine Ex.gf rfl rfl (ov_get hA 5 rfl) (by rfl) (by rfl) ?_ | refine Ex.gf rfl rfl (ov_get hA 6 rfl) (by rfl) (by rfl) ?_ | (refine Ex.pfo hA 0 rfl rfl rfl (by rfl) (by rfl) (by rfl) ?_; dsimp only [List.set]) | (refine Ex.pfo hA 1 rfl rfl rfl (by rfl) (by rfl) (by rfl) ?_; dsimp only [List.set]) | (refine Ex.pfo hA 2 rfl rfl rfl (by rfl) (by rfl) (by rfl) ?_; dsimp only [List.set]) | (refine Ex.pfo hA 3 rfl rfl rfl (by rfl) (by rfl) (by rfl) ?_; dsimp only [List.set]) | (refine Ex.pfo hA 4 rfl rfl rfl (by rfl) (by rfl) (by rfl) ?_; dsimp only [List.set]) | (refine Ex.pfo hA 5 rfl rfl rfl (by rfl) (by rfl) (by rfl) ?_; dsimp only [List.set]) | (refine Ex.pfo hA 6 rfl rfl rfl (by rfl) (by rfl) (by rfl) ?_; dsimp only [List.set])))
  have el : ov G [(364, cO 11 (rF E fx (tdy lg E) (acl lg E).length (osl lg E).length (vsl lg E).length (rsl lg E).length st sh shs w' (nI mn) (nI (img lg E).length) (nI ts.length) rs)), (376, cI 40000 f)] = ov G [(364, cO 11 (rF E fx (tdy lg E) (acl lg E).length (osl lg E).length (vsl lg E).length (rsl lg E).length st sh shs w' (nI mn) (nI (img lg E).length) (nI ts.length) rs)), (376, cI 40000 f), (377, cI 40000 tpf)] := by
    show (List.set _ 364 _) = List.set _ 364 _
    congr 1
    show G.set 376 _ = (G.set 377 _).set 376 _
    rw [set_self c377]
  rw [el]
  have l0 := loop (img lg E).length 0 _ tpf rfl (by omega) (agr.nil _)
  have hA := hAp (nI ts.length) tpf
  (repeat (first | exact l0 | refine Ex.go rfl rfl ?_ | refine Ex.gf rfl rfl (ov_get hA 0 rfl) (by rfl) (by rfl) ?_ | refine Ex.gf rfl rfl (ov_get hA 1 rfl) (by rfl) (by rfl) ?_ | refine Ex.gf rfl rfl (ov_get hA 2 rfl) (by rfl) (by rfl) ?_ | refine Ex.gf rfl rfl (ov_get hA 3 rfl) (by rfl) (by rfl) ?_ | refine Ex.gf rfl rfl (ov_get hA 4 rfl) (by rfl) (by rfl) ?_ | refine Ex.gf rfl rfl (ov_get hA 5 rfl) (by rfl) (by rfl) ?_ | refine Ex.gf rfl rfl (ov_get hA 6 rfl) (by rfl) (by rfl) ?_ | (refine Ex.pfo hA 0 rfl rfl rfl (by rfl) (by rfl) (by rfl) ?_; dsimp only [List.set]) | (refine Ex.pfo hA 1 rfl rfl rfl (by rfl) (by rfl) (by rfl) ?_; dsimp only [List.set]) | (refine Ex.pfo hA 2 rfl rfl rfl (by rfl) (by rfl) (by rfl) ?_; dsimp only [List.set]) | (refine Ex.pfo hA 3 rfl rfl rfl (by rfl) (by rfl) (by rfl) ?_; dsimp only [List.set]) | (refine Ex.pfo hA 4 rfl rfl rfl (by rfl) (by rfl) (by rfl) ?_; dsimp only [List.set]) | (refine Ex.pfo hA 5 rfl rfl rfl (by rfl) (by rfl) (by rfl) ?_; dsimp only [List.set]) | (refine Ex.pfo hA 6 rfl rfl rfl (by rfl) (by rfl) (by rfl) ?_; dsimp only [List.set])))
end RR
