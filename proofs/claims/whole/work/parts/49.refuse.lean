/-! The reference's refusal. -/
section RR
variable {d : Nat} {G : bo_G} {Q : Option Value → bo_G → Prop} {lg : Nat → Int32} {E fx A P RU : Nat} {td : Int32} {VS : Nat} {pt vl pp va pa wa nn : Nat → Int32} {st sh shs mn im tp rs : Int32} {w : Value × Value × Value × Value × Value}
theorem r_ofVessel2 {v : Nat} (h : RD G (rF E fx (tdy lg E) A P VS RU st sh shs w mn im tp rs) lg E (tdy lg E) VS pt vl pp va pa wa nn) (hI : RI lg E VS pt vl pp va pa wa) (hA : A = (acl lg E).length) (hv : v < VS) (e0 : nn 0 = nI v) (k : Q (some (.int (rf2 lg E v nn))) G) : Cx (d + 3) mX11_ofVessel [.ref 364, .int 2] G Q := by
  have g0 := h.1.1
  obtain ⟨-, ⟨b0, b1, b2, b3, b4, b5, b6, b7⟩, hE, hV⟩ := id h
  obtain ⟨p1, p2⟩ := hI.hp v hv
  unfold rf2 at k
  refine Cx.body rfl rfl ?_
  (repeat (first | refine Ex.go rfl rfl ?_ | refine Ex.gf rfl rfl (by assumption) (by rfl) (by first | rfl | assumption) ?_))
  refine Ex.ialN rfl (j := 0) rfl (by assumption) (by omega) (by omega) ?_
  rw [e0]
  (repeat (first | refine Ex.go rfl rfl ?_ | refine Ex.gf rfl rfl (by assumption) (by rfl) (by first | rfl | assumption) ?_))
  refine Ex.ialN rfl (j := 1) rfl (by assumption) (by omega) (by omega) ?_
  (repeat (first | refine Ex.go rfl rfl ?_ | refine Ex.gf rfl rfl (by assumption) (by rfl) (by first | rfl | assumption) ?_))
  refine Ex.cs3 rfl rfl rfl rfl rfl rfl ?_
  refine r_inP (lo := 0) (hi := 4) (by decide +kernel) (by decide +kernel) (fun Pc1 dc1 ic1 => ?_)
  (repeat (first | refine Ex.go rfl rfl ?_ | refine Ex.gf rfl rfl (by assumption) (by rfl) (by first | rfl | assumption) ?_))
  first | (refine Ex.brz (fun c1 => ?_) (fun c1 => ?_); rotate_left) | (refine Ex.brn (fun c1 => ?_) (fun c1 => ?_); rotate_left)
  · rw [if_pos (fun q => c1 (ic1.mpr (q.1)))] at k
    (repeat (first | refine Ex.go rfl rfl ?_ | refine Ex.gf rfl rfl (by assumption) (by rfl) (by first | rfl | assumption) ?_))
    refine Ex.ret rfl rfl rfl ?_
    exact k
  have c1 := ic1.mp c1
  (repeat (first | refine Ex.go rfl rfl ?_ | refine Ex.gf rfl rfl (by assumption) (by rfl) (by first | rfl | assumption) ?_))
  refine Ex.ialN rfl (j := 2) rfl (by assumption) (by omega) (by omega) ?_
  (repeat (first | refine Ex.go rfl rfl ?_ | refine Ex.gf rfl rfl (by assumption) (by rfl) (by first | rfl | assumption) ?_))
  refine Ex.cs3 rfl rfl rfl rfl rfl rfl ?_
  refine r_inP (lo := 1) (hi := 100000) (by decide +kernel) (by decide +kernel) (fun Pc2 dc2 ic2 => ?_)
  (repeat (first | refine Ex.go rfl rfl ?_ | refine Ex.gf rfl rfl (by assumption) (by rfl) (by first | rfl | assumption) ?_))
  first | (refine Ex.brz (fun c2 => ?_) (fun c2 => ?_); rotate_left) | (refine Ex.brn (fun c2 => ?_) (fun c2 => ?_); rotate_left)
  · rw [if_pos (fun q => c2 (ic2.mpr (q.2.1)))] at k
    (repeat (first | refine Ex.go rfl rfl ?_ | refine Ex.gf rfl rfl (by assumption) (by rfl) (by first | rfl | assumption) ?_))
    refine Ex.ret rfl rfl rfl ?_
    exact k
  have c2 := ic2.mp c2
  (repeat (first | refine Ex.go rfl rfl ?_ | refine Ex.gf rfl rfl (by assumption) (by rfl) (by first | rfl | assumption) ?_))
  refine Ex.ialN rfl (j := 3) rfl (by assumption) (by omega) (by omega) ?_
  (repeat (first | refine Ex.go rfl rfl ?_ | refine Ex.gf rfl rfl (by assumption) (by rfl) (by first | rfl | assumption) ?_))
  refine Ex.cs3 rfl rfl rfl rfl rfl rfl ?_
  refine r_inP (lo := 1) (hi := 100000) (by decide +kernel) (by decide +kernel) (fun Pc3 dc3 ic3 => ?_)
  (repeat (first | refine Ex.go rfl rfl ?_ | refine Ex.gf rfl rfl (by assumption) (by rfl) (by first | rfl | assumption) ?_))
  first | (refine Ex.brz (fun c3 => ?_) (fun c3 => ?_); rotate_left) | (refine Ex.brn (fun c3 => ?_) (fun c3 => ?_); rotate_left)
  · rw [if_pos (fun q => c3 (ic3.mpr (q.2.2.1)))] at k
    (repeat (first | refine Ex.go rfl rfl ?_ | refine Ex.gf rfl rfl (by assumption) (by rfl) (by first | rfl | assumption) ?_))
    refine Ex.ret rfl rfl rfl ?_
    exact k
  have c3 := ic3.mp c3
  (repeat (first | refine Ex.go rfl rfl ?_ | refine Ex.gf rfl rfl (by assumption) (by rfl) (by first | rfl | assumption) ?_))
  refine Ex.ialN rfl (j := 4) rfl (by assumption) (by omega) (by omega) ?_
  (repeat (first | refine Ex.go rfl rfl ?_ | refine Ex.gf rfl rfl (by assumption) (by rfl) (by first | rfl | assumption) ?_))
  refine Ex.cs3 rfl rfl rfl rfl rfl rfl ?_
  refine r_inP (lo := 1) (hi := 10000) (by decide +kernel) (by decide +kernel) (fun Pc4 dc4 ic4 => ?_)
  (repeat (first | refine Ex.go rfl rfl ?_ | refine Ex.gf rfl rfl (by assumption) (by rfl) (by first | rfl | assumption) ?_))
  first | (refine Ex.brz (fun c4 => ?_) (fun c4 => ?_); rotate_left) | (refine Ex.brn (fun c4 => ?_) (fun c4 => ?_); rotate_left)
  · rw [if_pos (fun q => c4 (ic4.mpr (q.2.2.2.1)))] at k
    (repeat (first | refine Ex.go rfl rfl ?_ | refine Ex.gf rfl rfl (by assumption) (by rfl) (by first | rfl | assumption) ?_))
    refine Ex.ret rfl rfl rfl ?_
    exact k
  have c4 := ic4.mp c4
  (repeat (first | refine Ex.go rfl rfl ?_ | refine Ex.gf rfl rfl (by assumption) (by rfl) (by first | rfl | assumption) ?_))
  refine Ex.ialN rfl (j := 5) rfl (by assumption) (by omega) (by omega) ?_
  (repeat (first | refine Ex.go rfl rfl ?_ | refine Ex.gf rfl rfl (by assumption) (by rfl) (by first | rfl | assumption) ?_))
  refine Ex.cs3 rfl rfl rfl rfl rfl rfl ?_
  refine r_inP (lo := 1) (hi := 1000) (by decide +kernel) (by decide +kernel) (fun Pc5 dc5 ic5 => ?_)
  (repeat (first | refine Ex.go rfl rfl ?_ | refine Ex.gf rfl rfl (by assumption) (by rfl) (by first | rfl | assumption) ?_))
  first | (refine Ex.brz (fun c5 => ?_) (fun c5 => ?_); rotate_left) | (refine Ex.brn (fun c5 => ?_) (fun c5 => ?_); rotate_left)
  · rw [if_pos (fun q => c5 (ic5.mpr (q.2.2.2.2)))] at k
    (repeat (first | refine Ex.go rfl rfl ?_ | refine Ex.gf rfl rfl (by assumption) (by rfl) (by first | rfl | assumption) ?_))
    refine Ex.ret rfl rfl rfl ?_
    exact k
  have c5 := ic5.mp c5
  rw [if_neg (fun z => z ⟨c1, c2, c3, c4, c5⟩)] at k
  (repeat (first | refine Ex.go rfl rfl ?_ | refine Ex.gf rfl rfl (by assumption) (by rfl) (by first | rfl | assumption) ?_))
  refine Ex.ialN rfl (j := v) rfl (by assumption) (by omega) (by omega) ?_
  rw [p1]
  (repeat (first | refine Ex.go rfl rfl ?_ | refine Ex.gf rfl rfl (by assumption) (by rfl) (by first | rfl | assumption) ?_))
  refine Ex.br (fun h1 => ?_) (fun h1 => ?_)
  · rw [if_neg (show ¬ (psl lg E v).length = 24 from fun z => h1 (by rw [z]; rfl))] at k
    (repeat (first | refine Ex.go rfl rfl ?_ | refine Ex.gf rfl rfl (by assumption) (by rfl) (by first | rfl | assumption) ?_))
    refine Ex.cv0 rfl rfl rfl (by assumption) (by rfl) (by decide) rfl ?_
    refine r_full h hA ?_
    (repeat (first | refine Ex.go rfl rfl ?_ | refine Ex.gf rfl rfl (by assumption) (by rfl) (by first | rfl | assumption) ?_))
    refine Ex.ret rfl rfl rfl ?_
    exact k
  · rw [if_pos (show (psl lg E v).length = 24 from (nI_eq (b := 24) (by omega) (by omega)).mp (Decidable.not_not.mp h1))] at k
    (repeat (first | refine Ex.go rfl rfl ?_ | refine Ex.gf rfl rfl (by assumption) (by rfl) (by first | rfl | assumption) ?_))
    refine Ex.ret rfl rfl rfl ?_
    exact k
theorem r_ofVessel8 {v : Nat} (h : RD G (rF E fx (tdy lg E) A P VS RU st sh shs w mn im tp rs) lg E (tdy lg E) VS pt vl pp va pa wa nn) (hI : RI lg E VS pt vl pp va pa wa) (hA : A = (acl lg E).length) (hv : v < VS) (e0 : nn 0 = nI v) (k : Q (some (.int (rf8 lg E v nn))) G) : Cx (d + 3) mX11_ofVessel [.ref 364, .int 8] G Q := by
  have g0 := h.1.1
  obtain ⟨-, ⟨b0, b1, b2, b3, b4, b5, b6, b7⟩, hE, hV⟩ := id h
  obtain ⟨p1, p2⟩ := hI.hw v hv
  unfold rf8 at k
  refine Cx.body rfl rfl ?_
  (repeat (first | refine Ex.go rfl rfl ?_ | refine Ex.gf rfl rfl (by assumption) (by rfl) (by first | rfl | assumption) ?_))
  refine Ex.ialN rfl (j := 0) rfl (by assumption) (by omega) (by omega) ?_
  rw [e0]
  (repeat (first | refine Ex.go rfl rfl ?_ | refine Ex.gf rfl rfl (by assumption) (by rfl) (by first | rfl | assumption) ?_))
  refine Ex.ialN rfl (j := 1) rfl (by assumption) (by omega) (by omega) ?_
  (repeat (first | refine Ex.go rfl rfl ?_ | refine Ex.gf rfl rfl (by assumption) (by rfl) (by first | rfl | assumption) ?_))
  refine Ex.cs3 rfl rfl rfl rfl rfl rfl ?_
  refine r_inP (lo := 1) (hi := 10000) (by decide +kernel) (by decide +kernel) (fun Pc1 dc1 ic1 => ?_)
  (repeat (first | refine Ex.go rfl rfl ?_ | refine Ex.gf rfl rfl (by assumption) (by rfl) (by first | rfl | assumption) ?_))
  first | (refine Ex.brz (fun c1 => ?_) (fun c1 => ?_); rotate_left) | (refine Ex.brn (fun c1 => ?_) (fun c1 => ?_); rotate_left)
  · rw [if_pos (fun q => c1 (ic1.mpr (q.1)))] at k
    (repeat (first | refine Ex.go rfl rfl ?_ | refine Ex.gf rfl rfl (by assumption) (by rfl) (by first | rfl | assumption) ?_))
    refine Ex.ret rfl rfl rfl ?_
    exact k
  have c1 := ic1.mp c1
  (repeat (first | refine Ex.go rfl rfl ?_ | refine Ex.gf rfl rfl (by assumption) (by rfl) (by first | rfl | assumption) ?_))
  refine Ex.ialN rfl (j := 2) rfl (by assumption) (by omega) (by omega) ?_
  (repeat (first | refine Ex.go rfl rfl ?_ | refine Ex.gf rfl rfl (by assumption) (by rfl) (by first | rfl | assumption) ?_))
  refine Ex.cs3 rfl rfl rfl rfl rfl rfl ?_
  refine r_inP (lo := 1) (hi := 100000) (by decide +kernel) (by decide +kernel) (fun Pc2 dc2 ic2 => ?_)
  (repeat (first | refine Ex.go rfl rfl ?_ | refine Ex.gf rfl rfl (by assumption) (by rfl) (by first | rfl | assumption) ?_))
  first | (refine Ex.brz (fun c2 => ?_) (fun c2 => ?_); rotate_left) | (refine Ex.brn (fun c2 => ?_) (fun c2 => ?_); rotate_left)
  · rw [if_pos (fun q => c2 (ic2.mpr (q.2.1)))] at k
    (repeat (first | refine Ex.go rfl rfl ?_ | refine Ex.gf rfl rfl (by assumption) (by rfl) (by first | rfl | assumption) ?_))
    refine Ex.ret rfl rfl rfl ?_
    exact k
  have c2 := ic2.mp c2
  (repeat (first | refine Ex.go rfl rfl ?_ | refine Ex.gf rfl rfl (by assumption) (by rfl) (by first | rfl | assumption) ?_))
  refine Ex.ialN rfl (j := 3) rfl (by assumption) (by omega) (by omega) ?_
  (repeat (first | refine Ex.go rfl rfl ?_ | refine Ex.gf rfl rfl (by assumption) (by rfl) (by first | rfl | assumption) ?_))
  refine Ex.cv2 rfl rfl rfl (by assumption) (by rfl) (by decide) rfl ?_
  refine r_isDay h hI hv ?_
  (repeat (first | refine Ex.go rfl rfl ?_ | refine Ex.gf rfl rfl (by assumption) (by rfl) (by first | rfl | assumption) ?_))
  first | (refine Ex.brz (fun c3 => ?_) (fun c3 => ?_); rotate_left) | (refine Ex.brn (fun c3 => ?_) (fun c3 => ?_); rotate_left)
  · rw [if_pos (fun q => c3 (q.2.2))] at k
    (repeat (first | refine Ex.go rfl rfl ?_ | refine Ex.gf rfl rfl (by assumption) (by rfl) (by first | rfl | assumption) ?_))
    refine Ex.ret rfl rfl rfl ?_
    exact k
  rw [if_neg (fun z => z ⟨c1, c2, c3⟩)] at k
  (repeat (first | refine Ex.go rfl rfl ?_ | refine Ex.gf rfl rfl (by assumption) (by rfl) (by first | rfl | assumption) ?_))
  refine Ex.ialN rfl (j := v) rfl (by assumption) (by omega) (by omega) ?_
  rw [p1]
  (repeat (first | refine Ex.go rfl rfl ?_ | refine Ex.gf rfl rfl (by assumption) (by rfl) (by first | rfl | assumption) ?_))
  refine Ex.br (fun h1 => ?_) (fun h1 => ?_)
  · rw [if_neg (show ¬ (wsl lg E v).length = 6 from fun z => h1 (by rw [z]; rfl))] at k
    (repeat (first | refine Ex.go rfl rfl ?_ | refine Ex.gf rfl rfl (by assumption) (by rfl) (by first | rfl | assumption) ?_))
    refine Ex.cv0 rfl rfl rfl (by assumption) (by rfl) (by decide) rfl ?_
    refine r_full h hA ?_
    (repeat (first | refine Ex.go rfl rfl ?_ | refine Ex.gf rfl rfl (by assumption) (by rfl) (by first | rfl | assumption) ?_))
    refine Ex.ret rfl rfl rfl ?_
    exact k
  · rw [if_pos (show (wsl lg E v).length = 6 from (nI_eq (b := 6) (by omega) (by omega)).mp (Decidable.not_not.mp h1))] at k
    (repeat (first | refine Ex.go rfl rfl ?_ | refine Ex.gf rfl rfl (by assumption) (by rfl) (by first | rfl | assumption) ?_))
    refine Ex.ret rfl rfl rfl ?_
    exact k
theorem r_ofVessel10 {v : Nat} (h : RD G (rF E fx (tdy lg E) A P VS RU st sh shs w mn im tp rs) lg E (tdy lg E) VS pt vl pp va pa wa nn) (hI : RI lg E VS pt vl pp va pa wa) (hA : A = (acl lg E).length) (hv : v < VS) (e0 : nn 0 = nI v) (k : Q (some (.int (rf10 lg E v nn))) G) : Cx (d + 3) mX11_ofVessel [.ref 364, .int 10] G Q := by
  have g0 := h.1.1
  obtain ⟨-, ⟨b0, b1, b2, b3, b4, b5, b6, b7⟩, hE, hV⟩ := id h
  unfold rf10 at k
  refine Cx.body rfl rfl ?_
  (repeat (first | refine Ex.go rfl rfl ?_ | refine Ex.gf rfl rfl (by assumption) (by rfl) (by first | rfl | assumption) ?_))
  refine Ex.ialN rfl (j := 0) rfl (by assumption) (by omega) (by omega) ?_
  rw [e0]
  (repeat (first | refine Ex.go rfl rfl ?_ | refine Ex.gf rfl rfl (by assumption) (by rfl) (by first | rfl | assumption) ?_))
  refine Ex.ialN rfl (j := 1) rfl (by assumption) (by omega) (by omega) ?_
  (repeat (first | refine Ex.go rfl rfl ?_ | refine Ex.gf rfl rfl (by assumption) (by rfl) (by first | rfl | assumption) ?_))
  refine Ex.cs3 rfl rfl rfl rfl rfl rfl ?_
  refine r_inP (lo := 0) (hi := 5) (by decide +kernel) (by decide +kernel) (fun Pc1 dc1 ic1 => ?_)
  (repeat (first | refine Ex.go rfl rfl ?_ | refine Ex.gf rfl rfl (by assumption) (by rfl) (by first | rfl | assumption) ?_))
  first | (refine Ex.brz (fun c1 => ?_) (fun c1 => ?_); rotate_left) | (refine Ex.brn (fun c1 => ?_) (fun c1 => ?_); rotate_left)
  · rw [if_pos (fun q => c1 (ic1.mpr (q.1)))] at k
    (repeat (first | refine Ex.go rfl rfl ?_ | refine Ex.gf rfl rfl (by assumption) (by rfl) (by first | rfl | assumption) ?_))
    refine Ex.ret rfl rfl rfl ?_
    exact k
  have c1 := ic1.mp c1
  (repeat (first | refine Ex.go rfl rfl ?_ | refine Ex.gf rfl rfl (by assumption) (by rfl) (by first | rfl | assumption) ?_))
  refine Ex.ialN rfl (j := 2) rfl (by assumption) (by omega) (by omega) ?_
  (repeat (first | refine Ex.go rfl rfl ?_ | refine Ex.gf rfl rfl (by assumption) (by rfl) (by first | rfl | assumption) ?_))
  refine Ex.cs3 rfl rfl rfl rfl rfl rfl ?_
  refine r_inP (lo := 0) (hi := 999) (by decide +kernel) (by decide +kernel) (fun Pc2 dc2 ic2 => ?_)
  (repeat (first | refine Ex.go rfl rfl ?_ | refine Ex.gf rfl rfl (by assumption) (by rfl) (by first | rfl | assumption) ?_))
  first | (refine Ex.brz (fun c2 => ?_) (fun c2 => ?_); rotate_left) | (refine Ex.brn (fun c2 => ?_) (fun c2 => ?_); rotate_left)
  · rw [if_pos (fun q => c2 (ic2.mpr (q.2.1)))] at k
    (repeat (first | refine Ex.go rfl rfl ?_ | refine Ex.gf rfl rfl (by assumption) (by rfl) (by first | rfl | assumption) ?_))
    refine Ex.ret rfl rfl rfl ?_
    exact k
  have c2 := ic2.mp c2
  (repeat (first | refine Ex.go rfl rfl ?_ | refine Ex.gf rfl rfl (by assumption) (by rfl) (by first | rfl | assumption) ?_))
  refine Ex.ialN rfl (j := 3) rfl (by assumption) (by omega) (by omega) ?_
  (repeat (first | refine Ex.go rfl rfl ?_ | refine Ex.gf rfl rfl (by assumption) (by rfl) (by first | rfl | assumption) ?_))
  refine Ex.cs3 rfl rfl rfl rfl rfl rfl ?_
  refine r_inP (lo := 0) (hi := 9999) (by decide +kernel) (by decide +kernel) (fun Pc3 dc3 ic3 => ?_)
  (repeat (first | refine Ex.go rfl rfl ?_ | refine Ex.gf rfl rfl (by assumption) (by rfl) (by first | rfl | assumption) ?_))
  first | (refine Ex.brz (fun c3 => ?_) (fun c3 => ?_); rotate_left) | (refine Ex.brn (fun c3 => ?_) (fun c3 => ?_); rotate_left)
  · rw [if_pos (fun q => c3 (ic3.mpr (q.2.2.1)))] at k
    (repeat (first | refine Ex.go rfl rfl ?_ | refine Ex.gf rfl rfl (by assumption) (by rfl) (by first | rfl | assumption) ?_))
    refine Ex.ret rfl rfl rfl ?_
    exact k
  have c3 := ic3.mp c3
  (repeat (first | refine Ex.go rfl rfl ?_ | refine Ex.gf rfl rfl (by assumption) (by rfl) (by first | rfl | assumption) ?_))
  refine Ex.ialN rfl (j := 4) rfl (by assumption) (by omega) (by omega) ?_
  (repeat (first | refine Ex.go rfl rfl ?_ | refine Ex.gf rfl rfl (by assumption) (by rfl) (by first | rfl | assumption) ?_))
  refine Ex.cv2 rfl rfl rfl (by assumption) (by rfl) (by decide) rfl ?_
  refine r_isDay h hI hv ?_
  (repeat (first | refine Ex.go rfl rfl ?_ | refine Ex.gf rfl rfl (by assumption) (by rfl) (by first | rfl | assumption) ?_))
  first | (refine Ex.brz (fun c4 => ?_) (fun c4 => ?_); rotate_left) | (refine Ex.brn (fun c4 => ?_) (fun c4 => ?_); rotate_left)
  · rw [if_pos (fun q => c4 (q.2.2.2))] at k
    (repeat (first | refine Ex.go rfl rfl ?_ | refine Ex.gf rfl rfl (by assumption) (by rfl) (by first | rfl | assumption) ?_))
    refine Ex.ret rfl rfl rfl ?_
    exact k
  rw [if_neg (fun z => z ⟨c1, c2, c3, c4⟩)] at k
  (repeat (first | refine Ex.go rfl rfl ?_ | refine Ex.gf rfl rfl (by assumption) (by rfl) (by first | rfl | assumption) ?_))
  refine Ex.cv0 rfl rfl rfl (by assumption) (by rfl) (by decide) rfl ?_
  refine r_full h hA ?_
  (repeat (first | refine Ex.go rfl rfl ?_ | refine Ex.gf rfl rfl (by assumption) (by rfl) (by first | rfl | assumption) ?_))
  refine Ex.ret rfl rfl rfl ?_
  exact k
theorem r_ofVessel9 {v : Nat} (h : RD G (rF E fx (tdy lg E) A P VS RU st sh shs w mn im tp rs) lg E (tdy lg E) VS pt vl pp va pa wa nn) (hI : RI lg E VS pt vl pp va pa wa) (hA : A = (acl lg E).length) (hv : v < VS) (e0 : nn 0 = nI v) (k : Q (some (.int (rf9 lg E v nn))) G) : Cx (d + 3) mX11_ofVessel [.ref 364, .int 9] G Q := by
  have g0 := h.1.1
  obtain ⟨-, ⟨b0, b1, b2, b3, b4, b5, b6, b7⟩, hE, hV⟩ := id h
  obtain ⟨p1, p2⟩ := hI.hw v hv
  unfold rf9 at k
  refine Cx.body rfl rfl ?_
  (repeat (first | refine Ex.go rfl rfl ?_ | refine Ex.gf rfl rfl (by assumption) (by rfl) (by first | rfl | assumption) ?_))
  refine Ex.ialN rfl (j := 0) rfl (by assumption) (by omega) (by omega) ?_
  rw [e0]
  (repeat (first | refine Ex.go rfl rfl ?_ | refine Ex.gf rfl rfl (by assumption) (by rfl) (by first | rfl | assumption) ?_))
  refine Ex.ialN rfl (j := 1) rfl (by assumption) (by omega) (by omega) ?_
  (repeat (first | refine Ex.go rfl rfl ?_ | refine Ex.gf rfl rfl (by assumption) (by rfl) (by first | rfl | assumption) ?_))
  refine Ex.ialN rfl (j := v) rfl (by assumption) (by omega) (by omega) ?_
  rw [p1]
  (repeat (first | refine Ex.go rfl rfl ?_ | refine Ex.gf rfl rfl (by assumption) (by rfl) (by first | rfl | assumption) ?_))
  refine Ex.cs3 rfl rfl rfl rfl rfl rfl ?_
  refine r_inI (lo := 0) (hi := ((wsl lg E v).length : Int) - 1) (by decide +kernel) (l_of (z_sub (nI_toInt (by omega)) rfl (by omega))) ?_
  (repeat (first | refine Ex.go rfl rfl ?_ | refine Ex.gf rfl rfl (by assumption) (by rfl) (by first | rfl | assumption) ?_))
  first | (refine Ex.brz (fun h5 => ?_) (fun h5 => ?_); rotate_left) | (refine Ex.brn (fun h5 => ?_) (fun h5 => ?_); rotate_left)
  · rw [if_pos (show ¬ (0 ≤ (nn 1).toInt ∧ (nn 1).toInt < (wsl lg E v).length) from fun z => h5 (by have := z.2; omega))] at k
    (repeat (first | refine Ex.go rfl rfl ?_ | refine Ex.gf rfl rfl (by assumption) (by rfl) (by first | rfl | assumption) ?_))
    refine Ex.ret rfl rfl rfl ?_
    exact k
  have h6 : 0 ≤ (nn 1).toInt ∧ (nn 1).toInt < (wsl lg E v).length := by have := h5.2; omega
  rw [if_neg (fun z => z h6)] at k
  obtain ⟨e1, e2, e3⟩ := nI_iof h6.1
  have hw : (nn 1).toNatClampNeg < (wsl lg E v).length := by omega
  have hwl := wat_lt hw
  have hwa := hI.hwa v _ hv hw
  generalize (nn 1).toNatClampNeg = u at e1 e2 e3 hw hwl hwa k
  (repeat (first | refine Ex.go rfl rfl ?_ | refine Ex.gf rfl rfl (by assumption) (by rfl) (by first | rfl | assumption) ?_))
  refine Ex.ialN rfl (j := 2) rfl (by assumption) (by omega) (by omega) ?_
  (repeat (first | refine Ex.go rfl rfl ?_ | refine Ex.gf rfl rfl (by assumption) (by rfl) (by first | rfl | assumption) ?_))
  refine Ex.cs3 rfl rfl rfl rfl rfl rfl ?_
  refine r_inP (lo := 1) (hi := 10000) (by decide +kernel) (by decide +kernel) (fun Pc1 dc1 ic1 => ?_)
  (repeat (first | refine Ex.go rfl rfl ?_ | refine Ex.gf rfl rfl (by assumption) (by rfl) (by first | rfl | assumption) ?_))
  first | (refine Ex.brz (fun c1 => ?_) (fun c1 => ?_); rotate_left) | (refine Ex.brn (fun c1 => ?_) (fun c1 => ?_); rotate_left)
  · rw [if_pos (fun q => c1 (ic1.mpr (q.1)))] at k
    (repeat (first | refine Ex.go rfl rfl ?_ | refine Ex.gf rfl rfl (by assumption) (by rfl) (by first | rfl | assumption) ?_))
    refine Ex.ret rfl rfl rfl ?_
    exact k
  have c1 := ic1.mp c1
  (repeat (first | refine Ex.go rfl rfl ?_ | refine Ex.gf rfl rfl (by assumption) (by rfl) (by first | rfl | assumption) ?_))
  refine Ex.ialN rfl (j := 3) rfl (by assumption) (by omega) (by omega) ?_
  (repeat (first | refine Ex.go rfl rfl ?_ | refine Ex.gf rfl rfl (by assumption) (by rfl) (by first | rfl | assumption) ?_))
  refine Ex.cv2 rfl rfl rfl (by assumption) (by rfl) (by decide) rfl ?_
  refine r_isDay h hI hv ?_
  (repeat (first | refine Ex.go rfl rfl ?_ | refine Ex.gf rfl rfl (by assumption) (by rfl) (by first | rfl | assumption) ?_))
  first | (refine Ex.brz (fun c2 => ?_) (fun c2 => ?_); rotate_left) | (refine Ex.brn (fun c2 => ?_) (fun c2 => ?_); rotate_left)
  · rw [if_pos (fun q => c2 (q.2.1))] at k
    (repeat (first | refine Ex.go rfl rfl ?_ | refine Ex.gf rfl rfl (by assumption) (by rfl) (by first | rfl | assumption) ?_))
    refine Ex.ret rfl rfl rfl ?_
    exact k
  (repeat (first | refine Ex.go rfl rfl ?_ | refine Ex.gf rfl rfl (by assumption) (by rfl) (by first | rfl | assumption) ?_))
  refine Ex.ialN rfl (j := 3) rfl (by assumption) (by omega) (by omega) ?_
  (repeat (first | refine Ex.go rfl rfl ?_ | refine Ex.gf rfl rfl (by assumption) (by rfl) (by first | rfl | assumption) ?_))
  refine Ex.ialN rfl (j := 1) rfl (by assumption) (by omega) (by omega) ?_
  rw [e1]
  (repeat (first | refine Ex.go rfl rfl ?_ | refine Ex.gf rfl rfl (by assumption) (by rfl) (by first | rfl | assumption) ?_))
  refine Ex.ialN rfl (show nI 6 * nI v + nI u = nI (6 * v + u) by rw [pk_mul, nI_add]) (by assumption) (by omega) (by omega) ?_
  rw [hwa]
  (repeat (first | refine Ex.go rfl rfl ?_ | refine Ex.gf rfl rfl (by assumption) (by rfl) (by first | rfl | assumption) ?_))
  refine Ex.cv1 rfl rfl rfl (by assumption) (by rfl) (by decide) rfl ?_
  refine r_day h (by omega) ?_
  (repeat (first | refine Ex.go rfl rfl ?_ | refine Ex.gf rfl rfl (by assumption) (by rfl) (by first | rfl | assumption) ?_))
  refine Ex.br (fun c3 => ?_) (fun c3 => ?_)
  · rw [if_neg (fun z => z ⟨c1, c2, c3⟩)] at k
    (repeat (first | refine Ex.go rfl rfl ?_ | refine Ex.gf rfl rfl (by assumption) (by rfl) (by first | rfl | assumption) ?_))
    refine Ex.cv0 rfl rfl rfl (by assumption) (by rfl) (by decide) rfl ?_
    refine r_full h hA ?_
    (repeat (first | refine Ex.go rfl rfl ?_ | refine Ex.gf rfl rfl (by assumption) (by rfl) (by first | rfl | assumption) ?_))
    refine Ex.ret rfl rfl rfl ?_
    exact k
  · rw [if_pos (fun q => c3 q.2.2)] at k
    (repeat (first | refine Ex.go rfl rfl ?_ | refine Ex.gf rfl rfl (by assumption) (by rfl) (by first | rfl | assumption) ?_))
    refine Ex.ret rfl rfl rfl ?_
    exact k
theorem r_ofVesselP {v c : Nat} (h : RD G (rF E fx (tdy lg E) A P VS RU st sh shs w mn im tp rs) lg E (tdy lg E) VS pt vl pp va pa wa nn) (hI : RI lg E VS pt vl pp va pa wa) (hA : A = (acl lg E).length) (hv : v < VS) (e0 : nn 0 = nI v) (h3 : 3 ≤ c) (h7 : c ≤ 7) (k : Q (some (.int (if ¬ (0 ≤ (nn 1).toInt ∧ (nn 1).toInt < (psl lg E v).length) then -1 else rfP lg E v (nn 1).toNatClampNeg c nn))) G) : Cx (d + 5) mX11_ofVessel [.ref 364, .int (nI c)] G Q := by
  have g0 := h.1.1
  obtain ⟨-, ⟨b0, b1, b2, b3, b4, b5, b6, b7⟩, hE, hV⟩ := id h
  have tail : Ex (d + 5) mX11_ofVessel (411, [(0, .ref 364), (1, .int (nI c)), (2, .int (nI v))], [], G) Q := by
    (repeat (first | refine Ex.go rfl rfl ?_ | refine Ex.gf rfl rfl (by assumption) (by rfl) (by first | rfl | assumption) ?_))
    refine Ex.ialN rfl (j := 1) rfl (by assumption) (by omega) (by omega) ?_
    (repeat (first | refine Ex.go rfl rfl ?_ | refine Ex.gf rfl rfl (by assumption) (by rfl) (by first | rfl | assumption) ?_))
    refine Ex.cv2 rfl rfl rfl (by assumption) (by rfl) (by decide) rfl ?_
    refine r_isPart h hI ?_
    have ev : (nI v).toNatClampNeg = v := nI_clamp (by omega)
    have ev2 : (nI v).toInt = v := nI_toInt (by omega)
    rw [ev, ev2]
    (repeat (first | refine Ex.go rfl rfl ?_ | refine Ex.gf rfl rfl (by assumption) (by rfl) (by first | rfl | assumption) ?_))
    first | (refine Ex.brz (fun h5 => ?_) (fun h5 => ?_); rotate_left) | (refine Ex.brn (fun h5 => ?_) (fun h5 => ?_); rotate_left)
    · rw [if_pos (show ¬ (0 ≤ (nn 1).toInt ∧ (nn 1).toInt < (psl lg E v).length) from fun z => h5 ⟨by omega, z⟩)] at k
      (repeat (first | refine Ex.go rfl rfl ?_ | refine Ex.gf rfl rfl (by assumption) (by rfl) (by first | rfl | assumption) ?_))
      refine Ex.ret rfl rfl rfl ?_
      exact k
    have h6 := h5.2
    rw [if_neg (fun z => z h6)] at k
    obtain ⟨e1, e2, e3⟩ := nI_iof h6.1
    (repeat (first | refine Ex.go rfl rfl ?_ | refine Ex.gf rfl rfl (by assumption) (by rfl) (by first | rfl | assumption) ?_))
    refine Ex.cv1 rfl rfl rfl (by assumption) (by rfl) (by decide) rfl ?_
    refine r_ofPart h hI hA hv (by omega) e0 e1 h3 h7 ?_
    (repeat (first | refine Ex.go rfl rfl ?_ | refine Ex.gf rfl rfl (by assumption) (by rfl) (by first | rfl | assumption) ?_))
    refine Ex.ret rfl rfl rfl ?_
    exact k
  refine Cx.body rfl rfl ?_
  (repeat (first | refine Ex.go rfl rfl ?_ | refine Ex.gf rfl rfl (by assumption) (by rfl) (by first | rfl | assumption) ?_))
  refine Ex.ialN rfl (j := 0) rfl (by assumption) (by omega) (by omega) ?_
  rw [e0]
  clear k
  match c, h3, h7 with
  | 3, _, _ => (repeat (first | exact tail | refine Ex.go rfl rfl ?_ | refine Ex.gf rfl rfl (by assumption) (by rfl) (by first | rfl | assumption) ?_))
  | 4, _, _ => (repeat (first | exact tail | refine Ex.go rfl rfl ?_ | refine Ex.gf rfl rfl (by assumption) (by rfl) (by first | rfl | assumption) ?_))
  | 5, _, _ => (repeat (first | exact tail | refine Ex.go rfl rfl ?_ | refine Ex.gf rfl rfl (by assumption) (by rfl) (by first | rfl | assumption) ?_))
  | 6, _, _ => (repeat (first | exact tail | refine Ex.go rfl rfl ?_ | refine Ex.gf rfl rfl (by assumption) (by rfl) (by first | rfl | assumption) ?_))
  | 7, _, _ => (repeat (first | exact tail | refine Ex.go rfl rfl ?_ | refine Ex.gf rfl rfl (by assumption) (by rfl) (by first | rfl | assumption) ?_))
  | c + 8, _, h => exact absurd h (by omega)
theorem r_ofVessel {v c : Nat} (h : RD G (rF E fx (tdy lg E) A P VS RU st sh shs w mn im tp rs) lg E (tdy lg E) VS pt vl pp va pa wa nn) (hI : RI lg E VS pt vl pp va pa wa) (hA : A = (acl lg E).length) (hv : v < VS) (e0 : nn 0 = nI v) (h2 : 2 ≤ c) (h10 : c ≤ 10) (k : Q (some (.int (rfV lg E v c nn))) G) : Cx (d + 5) mX11_ofVessel [.ref 364, .int (nI c)] G Q := by
  match c, h2, h10 with
  | 2, _, _ => exact r_ofVessel2 h hI hA hv e0 k
  | 3, _, _ => exact r_ofVesselP h hI hA hv e0 (by omega) (by omega) k
  | 4, _, _ => exact r_ofVesselP h hI hA hv e0 (by omega) (by omega) k
  | 5, _, _ => exact r_ofVesselP h hI hA hv e0 (by omega) (by omega) k
  | 6, _, _ => exact r_ofVesselP h hI hA hv e0 (by omega) (by omega) k
  | 7, _, _ => exact r_ofVesselP h hI hA hv e0 (by omega) (by omega) k
  | 8, _, _ => exact r_ofVessel8 h hI hA hv e0 k
  | 9, _, _ => exact r_ofVessel9 h hI hA hv e0 k
  | 10, _, _ => exact r_ofVessel10 h hI hA hv e0 k
  | c + 11, _, h => exact absurd h (by omega)
theorem r_refusal0 (h : RD G (rF E fx (tdy lg E) A P VS RU st sh shs w mn im tp rs) lg E (tdy lg E) VS pt vl pp va pa wa nn) (hP : P = (osl lg E).length) (k : Q (some (.int (rf0 lg E nn))) G) : Cx (d + 1) mX11_refusal [.ref 364, .int 0] G Q := by
  have g0 := h.1.1
  obtain ⟨-, ⟨b0, b1, b2, b3, b4, b5, b6, b7⟩, hE, hV⟩ := id h
  have hP2 : P ≤ E := by rw [hP]; exact sel_len _ _
  unfold rf0 at k
  rw [← hP] at k
  refine Cx.body rfl rfl ?_
  (repeat (first | refine Ex.go rfl rfl ?_ | refine Ex.gf rfl rfl (by assumption) (by rfl) (by first | rfl | assumption) ?_))
  refine Ex.ialN rfl (j := 0) rfl (by assumption) (by omega) (by omega) ?_
  (repeat (first | refine Ex.go rfl rfl ?_ | refine Ex.gf rfl rfl (by assumption) (by rfl) (by first | rfl | assumption) ?_))
  refine Ex.cs3 rfl rfl rfl rfl rfl rfl ?_
  refine r_inP (l_of rfl) l40000 (fun Pc dc ic => ?_)
  (repeat (first | refine Ex.go rfl rfl ?_ | refine Ex.gf rfl rfl (by assumption) (by rfl) (by first | rfl | assumption) ?_))
  first | (refine Ex.brz (fun c1 => ?_) (fun c1 => ?_); rotate_left) | (refine Ex.brn (fun c1 => ?_) (fun c1 => ?_); rotate_left)
  · rw [if_pos (fun q => c1 (ic.mpr q))] at k
    (repeat (first | refine Ex.go rfl rfl ?_ | refine Ex.gf rfl rfl (by assumption) (by rfl) (by first | rfl | assumption) ?_))
    refine Ex.ret rfl rfl rfl ?_
    exact k
  rw [if_neg (fun z => z (ic.mp c1))] at k
  (repeat (first | refine Ex.go rfl rfl ?_ | refine Ex.gf rfl rfl (by assumption) (by rfl) (by first | rfl | assumption) ?_))
  refine Ex.br (fun h1 => ?_) (fun h1 => ?_)
  · rw [if_neg (show ¬ P = 4000 from fun z => h1 (by rw [z]; rfl))] at k
    (repeat (first | refine Ex.go rfl rfl ?_ | refine Ex.gf rfl rfl (by assumption) (by rfl) (by first | rfl | assumption) ?_))
    refine Ex.ret rfl rfl rfl ?_
    exact k
  · rw [if_pos (show P = 4000 from (nI_eq (b := 4000) (by omega) (by omega)).mp (Decidable.not_not.mp h1))] at k
    (repeat (first | refine Ex.go rfl rfl ?_ | refine Ex.gf rfl rfl (by assumption) (by rfl) (by first | rfl | assumption) ?_))
    refine Ex.ret rfl rfl rfl ?_
    exact k
theorem r_refusal1 (h : RD G (rF E fx (tdy lg E) A P VS RU st sh shs w mn im tp rs) lg E (tdy lg E) VS pt vl pp va pa wa nn) (hI : RI lg E VS pt vl pp va pa wa) (hA : A = (acl lg E).length) (k : Q (some (.int (rf1 lg E nn))) G) : Cx (d + 1) mX11_refusal [.ref 364, .int 1] G Q := by
  have g0 := h.1.1
  obtain ⟨-, ⟨b0, b1, b2, b3, b4, b5, b6, b7⟩, hE, hV⟩ := id h
  unfold rf1 at k
  rw [← hI.hv] at k
  refine Cx.body rfl rfl ?_
  (repeat (first | refine Ex.go rfl rfl ?_ | refine Ex.gf rfl rfl (by assumption) (by rfl) (by first | rfl | assumption) ?_))
  refine Ex.ialN rfl (j := 0) rfl (by assumption) (by omega) (by omega) ?_
  (repeat (first | refine Ex.go rfl rfl ?_ | refine Ex.gf rfl rfl (by assumption) (by rfl) (by first | rfl | assumption) ?_))
  refine Ex.cs3 rfl rfl rfl rfl rfl rfl ?_
  refine r_inP (lo := 0) (hi := 999) (by decide +kernel) (by decide +kernel) (fun Pc1 dc1 ic1 => ?_)
  (repeat (first | refine Ex.go rfl rfl ?_ | refine Ex.gf rfl rfl (by assumption) (by rfl) (by first | rfl | assumption) ?_))
  first | (refine Ex.brz (fun c1 => ?_) (fun c1 => ?_); rotate_left) | (refine Ex.brn (fun c1 => ?_) (fun c1 => ?_); rotate_left)
  · rw [if_pos (fun q => c1 (ic1.mpr (q.1)))] at k
    (repeat (first | refine Ex.go rfl rfl ?_ | refine Ex.gf rfl rfl (by assumption) (by rfl) (by first | rfl | assumption) ?_))
    refine Ex.ret rfl rfl rfl ?_
    exact k
  have c1 := ic1.mp c1
  (repeat (first | refine Ex.go rfl rfl ?_ | refine Ex.gf rfl rfl (by assumption) (by rfl) (by first | rfl | assumption) ?_))
  refine Ex.ialN rfl (j := 1) rfl (by assumption) (by omega) (by omega) ?_
  (repeat (first | refine Ex.go rfl rfl ?_ | refine Ex.gf rfl rfl (by assumption) (by rfl) (by first | rfl | assumption) ?_))
  refine Ex.cs3 rfl rfl rfl rfl rfl rfl ?_
  refine r_inP (lo := 1) (hi := 20) (by decide +kernel) (by decide +kernel) (fun Pc2 dc2 ic2 => ?_)
  (repeat (first | refine Ex.go rfl rfl ?_ | refine Ex.gf rfl rfl (by assumption) (by rfl) (by first | rfl | assumption) ?_))
  first | (refine Ex.brz (fun c2 => ?_) (fun c2 => ?_); rotate_left) | (refine Ex.brn (fun c2 => ?_) (fun c2 => ?_); rotate_left)
  · rw [if_pos (fun q => c2 (ic2.mpr (q.2.1)))] at k
    (repeat (first | refine Ex.go rfl rfl ?_ | refine Ex.gf rfl rfl (by assumption) (by rfl) (by first | rfl | assumption) ?_))
    refine Ex.ret rfl rfl rfl ?_
    exact k
  have c2 := ic2.mp c2
  (repeat (first | refine Ex.go rfl rfl ?_ | refine Ex.gf rfl rfl (by assumption) (by rfl) (by first | rfl | assumption) ?_))
  refine Ex.ialN rfl (j := 2) rfl (by assumption) (by omega) (by omega) ?_
  (repeat (first | refine Ex.go rfl rfl ?_ | refine Ex.gf rfl rfl (by assumption) (by rfl) (by first | rfl | assumption) ?_))
  refine Ex.cs3 rfl rfl rfl rfl rfl rfl ?_
  refine r_inP (lo := 0) (hi := 100000) (by decide +kernel) (by decide +kernel) (fun Pc3 dc3 ic3 => ?_)
  (repeat (first | refine Ex.go rfl rfl ?_ | refine Ex.gf rfl rfl (by assumption) (by rfl) (by first | rfl | assumption) ?_))
  first | (refine Ex.brz (fun c3 => ?_) (fun c3 => ?_); rotate_left) | (refine Ex.brn (fun c3 => ?_) (fun c3 => ?_); rotate_left)
  · rw [if_pos (fun q => c3 (ic3.mpr (q.2.2.1)))] at k
    (repeat (first | refine Ex.go rfl rfl ?_ | refine Ex.gf rfl rfl (by assumption) (by rfl) (by first | rfl | assumption) ?_))
    refine Ex.ret rfl rfl rfl ?_
    exact k
  have c3 := ic3.mp c3
  (repeat (first | refine Ex.go rfl rfl ?_ | refine Ex.gf rfl rfl (by assumption) (by rfl) (by first | rfl | assumption) ?_))
  refine Ex.ialN rfl (j := 3) rfl (by assumption) (by omega) (by omega) ?_
  (repeat (first | refine Ex.go rfl rfl ?_ | refine Ex.gf rfl rfl (by assumption) (by rfl) (by first | rfl | assumption) ?_))
  refine Ex.cs3 rfl rfl rfl rfl rfl rfl ?_
  refine r_inP (lo := 0) (by decide +kernel) (l_of rfl) (fun Pc dc ic => ?_)
  (repeat (first | refine Ex.go rfl rfl ?_ | refine Ex.gf rfl rfl (by assumption) (by rfl) (by first | rfl | assumption) ?_))
  first | (refine Ex.brz (fun c4 => ?_) (fun c4 => ?_); rotate_left) | (refine Ex.brn (fun c4 => ?_) (fun c4 => ?_); rotate_left)
  · rw [if_pos (fun q => c4 (ic.mpr q.2.2.2))] at k
    (repeat (first | refine Ex.go rfl rfl ?_ | refine Ex.gf rfl rfl (by assumption) (by rfl) (by first | rfl | assumption) ?_))
    refine Ex.ret rfl rfl rfl ?_
    exact k
  rw [if_neg (fun z => z ⟨c1, c2, c3, ic.mp c4⟩)] at k
  (repeat (first | refine Ex.go rfl rfl ?_ | refine Ex.gf rfl rfl (by assumption) (by rfl) (by first | rfl | assumption) ?_))
  refine Ex.br (fun h1 => ?_) (fun h1 => ?_)
  · rw [if_neg (show ¬ VS = 30 from fun z => h1 (by rw [z]; rfl))] at k
    (repeat (first | refine Ex.go rfl rfl ?_ | refine Ex.gf rfl rfl (by assumption) (by rfl) (by first | rfl | assumption) ?_))
    refine Ex.cv0 rfl rfl rfl (by assumption) (by rfl) (by decide) rfl ?_
    refine r_full h hA ?_
    (repeat (first | refine Ex.go rfl rfl ?_ | refine Ex.gf rfl rfl (by assumption) (by rfl) (by first | rfl | assumption) ?_))
    refine Ex.ret rfl rfl rfl ?_
    exact k
  · rw [if_pos (show VS = 30 from (nI_eq (b := 30) (by omega) (by omega)).mp (Decidable.not_not.mp h1))] at k
    (repeat (first | refine Ex.go rfl rfl ?_ | refine Ex.gf rfl rfl (by assumption) (by rfl) (by first | rfl | assumption) ?_))
    refine Ex.ret rfl rfl rfl ?_
    exact k
theorem r_refusal11 (h : RD G (rF E fx (tdy lg E) A P VS RU st sh shs w mn im tp rs) lg E (tdy lg E) VS pt vl pp va pa wa nn) (hA : A = (acl lg E).length) (k : Q (some (.int (rf11 lg E nn))) G) : Cx (d + 1) mX11_refusal [.ref 364, .int 11] G Q := by
  have g0 := h.1.1
  obtain ⟨-, ⟨b0, b1, b2, b3, b4, b5, b6, b7⟩, hE, hV⟩ := id h
  unfold rf11 at k
  refine Cx.body rfl rfl ?_
  (repeat (first | refine Ex.go rfl rfl ?_ | refine Ex.gf rfl rfl (by assumption) (by rfl) (by first | rfl | assumption) ?_))
  refine Ex.ialN rfl (j := 0) rfl (by assumption) (by omega) (by omega) ?_
  (repeat (first | refine Ex.go rfl rfl ?_ | refine Ex.gf rfl rfl (by assumption) (by rfl) (by first | rfl | assumption) ?_))
  refine Ex.cs3 rfl rfl rfl rfl rfl rfl ?_
  refine r_inP (lo := 0) (hi := 2) (by decide +kernel) (by decide +kernel) (fun Pc1 dc1 ic1 => ?_)
  (repeat (first | refine Ex.go rfl rfl ?_ | refine Ex.gf rfl rfl (by assumption) (by rfl) (by first | rfl | assumption) ?_))
  first | (refine Ex.brz (fun c1 => ?_) (fun c1 => ?_); rotate_left) | (refine Ex.brn (fun c1 => ?_) (fun c1 => ?_); rotate_left)
  · rw [if_pos (fun q => c1 (ic1.mpr (q.1)))] at k
    (repeat (first | refine Ex.go rfl rfl ?_ | refine Ex.gf rfl rfl (by assumption) (by rfl) (by first | rfl | assumption) ?_))
    refine Ex.ret rfl rfl rfl ?_
    exact k
  have c1 := ic1.mp c1
  (repeat (first | refine Ex.go rfl rfl ?_ | refine Ex.gf rfl rfl (by assumption) (by rfl) (by first | rfl | assumption) ?_))
  refine Ex.ialN rfl (j := 1) rfl (by assumption) (by omega) (by omega) ?_
  (repeat (first | refine Ex.go rfl rfl ?_ | refine Ex.gf rfl rfl (by assumption) (by rfl) (by first | rfl | assumption) ?_))
  refine Ex.cs3 rfl rfl rfl rfl rfl rfl ?_
  refine r_inP (lo := 1) (hi := 4000) (by decide +kernel) (by decide +kernel) (fun Pc2 dc2 ic2 => ?_)
  (repeat (first | refine Ex.go rfl rfl ?_ | refine Ex.gf rfl rfl (by assumption) (by rfl) (by first | rfl | assumption) ?_))
  first | (refine Ex.brz (fun c2 => ?_) (fun c2 => ?_); rotate_left) | (refine Ex.brn (fun c2 => ?_) (fun c2 => ?_); rotate_left)
  · rw [if_pos (fun q => c2 (ic2.mpr (q.2.1)))] at k
    (repeat (first | refine Ex.go rfl rfl ?_ | refine Ex.gf rfl rfl (by assumption) (by rfl) (by first | rfl | assumption) ?_))
    refine Ex.ret rfl rfl rfl ?_
    exact k
  have c2 := ic2.mp c2
  (repeat (first | refine Ex.go rfl rfl ?_ | refine Ex.gf rfl rfl (by assumption) (by rfl) (by first | rfl | assumption) ?_))
  refine Ex.ialN rfl (j := 2) rfl (by assumption) (by omega) (by omega) ?_
  (repeat (first | refine Ex.go rfl rfl ?_ | refine Ex.gf rfl rfl (by assumption) (by rfl) (by first | rfl | assumption) ?_))
  refine Ex.cs3 rfl rfl rfl rfl rfl rfl ?_
  refine r_inP (lo := 1) (hi := 4000) (by decide +kernel) (by decide +kernel) (fun Pc3 dc3 ic3 => ?_)
  (repeat (first | refine Ex.go rfl rfl ?_ | refine Ex.gf rfl rfl (by assumption) (by rfl) (by first | rfl | assumption) ?_))
  first | (refine Ex.brz (fun c3 => ?_) (fun c3 => ?_); rotate_left) | (refine Ex.brn (fun c3 => ?_) (fun c3 => ?_); rotate_left)
  · rw [if_pos (fun q => c3 (ic3.mpr (q.2.2)))] at k
    (repeat (first | refine Ex.go rfl rfl ?_ | refine Ex.gf rfl rfl (by assumption) (by rfl) (by first | rfl | assumption) ?_))
    refine Ex.ret rfl rfl rfl ?_
    exact k
  have c3 := ic3.mp c3
  rw [if_neg (fun z => z ⟨c1, c2, c3⟩)] at k
  (repeat (first | refine Ex.go rfl rfl ?_ | refine Ex.gf rfl rfl (by assumption) (by rfl) (by first | rfl | assumption) ?_))
  refine Ex.cv0 rfl rfl rfl (by assumption) (by rfl) (by decide) rfl ?_
  refine r_full h hA ?_
  (repeat (first | refine Ex.go rfl rfl ?_ | refine Ex.gf rfl rfl (by assumption) (by rfl) (by first | rfl | assumption) ?_))
  refine Ex.ret rfl rfl rfl ?_
  exact k
theorem r_refusalV {c : Nat} (h : RD G (rF E fx (tdy lg E) A P VS RU st sh shs w mn im tp rs) lg E (tdy lg E) VS pt vl pp va pa wa nn) (hI : RI lg E VS pt vl pp va pa wa) (hA : A = (acl lg E).length) (h2 : 2 ≤ c) (h10 : c ≤ 10) (k : Q (some (.int (if ¬ (0 ≤ (nn 0).toInt ∧ (nn 0).toInt < (vsl lg E).length) then -1 else rfV lg E (nn 0).toNatClampNeg c nn))) G) : Cx (d + 6) mX11_refusal [.ref 364, .int (nI c)] G Q := by
  have g0 := h.1.1
  obtain ⟨-, ⟨b0, b1, b2, b3, b4, b5, b6, b7⟩, hE, hV⟩ := id h
  rw [← hI.hv] at k
  have tail : Ex (d + 6) mX11_refusal (232, [(0, .ref 364), (1, .int (nI c))], [], G) Q := by
    (repeat (first | refine Ex.go rfl rfl ?_ | refine Ex.gf rfl rfl (by assumption) (by rfl) (by first | rfl | assumption) ?_))
    refine Ex.ialN rfl (j := 0) rfl (by assumption) (by omega) (by omega) ?_
    (repeat (first | refine Ex.go rfl rfl ?_ | refine Ex.gf rfl rfl (by assumption) (by rfl) (by first | rfl | assumption) ?_))
    refine Ex.cv1 rfl rfl rfl (by assumption) (by rfl) (by decide) rfl ?_
    refine r_isVessel h ?_
    (repeat (first | refine Ex.go rfl rfl ?_ | refine Ex.gf rfl rfl (by assumption) (by rfl) (by first | rfl | assumption) ?_))
    first | (refine Ex.brz (fun h5 => ?_) (fun h5 => ?_); rotate_left) | (refine Ex.brn (fun h5 => ?_) (fun h5 => ?_); rotate_left)
    · rw [if_pos h5] at k
      (repeat (first | refine Ex.go rfl rfl ?_ | refine Ex.gf rfl rfl (by assumption) (by rfl) (by first | rfl | assumption) ?_))
      refine Ex.ret rfl rfl rfl ?_
      exact k
    rw [if_neg (fun z => z h5)] at k
    obtain ⟨e1, e2, e3⟩ := nI_iof h5.1
    (repeat (first | refine Ex.go rfl rfl ?_ | refine Ex.gf rfl rfl (by assumption) (by rfl) (by first | rfl | assumption) ?_))
    refine Ex.cv1 rfl rfl rfl (by assumption) (by rfl) (by decide) rfl ?_
    refine r_ofVessel h hI hA (by omega) e1 h2 h10 ?_
    (repeat (first | refine Ex.go rfl rfl ?_ | refine Ex.gf rfl rfl (by assumption) (by rfl) (by first | rfl | assumption) ?_))
    refine Ex.ret rfl rfl rfl ?_
    exact k
  refine Cx.body rfl rfl ?_
  clear k
  match c, h2, h10 with
  | 2, _, _ => (repeat (first | exact tail | refine Ex.go rfl rfl ?_ | refine Ex.gf rfl rfl (by assumption) (by rfl) (by first | rfl | assumption) ?_))
  | 3, _, _ => (repeat (first | exact tail | refine Ex.go rfl rfl ?_ | refine Ex.gf rfl rfl (by assumption) (by rfl) (by first | rfl | assumption) ?_))
  | 4, _, _ => (repeat (first | exact tail | refine Ex.go rfl rfl ?_ | refine Ex.gf rfl rfl (by assumption) (by rfl) (by first | rfl | assumption) ?_))
  | 5, _, _ => (repeat (first | exact tail | refine Ex.go rfl rfl ?_ | refine Ex.gf rfl rfl (by assumption) (by rfl) (by first | rfl | assumption) ?_))
  | 6, _, _ => (repeat (first | exact tail | refine Ex.go rfl rfl ?_ | refine Ex.gf rfl rfl (by assumption) (by rfl) (by first | rfl | assumption) ?_))
  | 7, _, _ => (repeat (first | exact tail | refine Ex.go rfl rfl ?_ | refine Ex.gf rfl rfl (by assumption) (by rfl) (by first | rfl | assumption) ?_))
  | 8, _, _ => (repeat (first | exact tail | refine Ex.go rfl rfl ?_ | refine Ex.gf rfl rfl (by assumption) (by rfl) (by first | rfl | assumption) ?_))
  | 9, _, _ => (repeat (first | exact tail | refine Ex.go rfl rfl ?_ | refine Ex.gf rfl rfl (by assumption) (by rfl) (by first | rfl | assumption) ?_))
  | 10, _, _ => (repeat (first | exact tail | refine Ex.go rfl rfl ?_ | refine Ex.gf rfl rfl (by assumption) (by rfl) (by first | rfl | assumption) ?_))
  | c + 11, _, h => exact absurd h (by omega)
theorem r_refusal {c : Nat} (h : RD G (rF E fx (tdy lg E) A P VS RU st sh shs w mn im tp rs) lg E (tdy lg E) VS pt vl pp va pa wa nn) (hI : RI lg E VS pt vl pp va pa wa) (hA : A = (acl lg E).length) (hP : P = (osl lg E).length) (hc : c < 12) (k : Q (some (.int (rfs lg E c nn))) G) : Cx (d + 6) mX11_refusal [.ref 364, .int (nI c)] G Q := by
  match c, hc with
  | 0, _ => exact r_refusal0 h hP k
  | 1, _ => exact r_refusal1 h hI hA k
  | 2, _ => exact r_refusalV h hI hA (by omega) (by omega) k
  | 3, _ => exact r_refusalV h hI hA (by omega) (by omega) k
  | 4, _ => exact r_refusalV h hI hA (by omega) (by omega) k
  | 5, _ => exact r_refusalV h hI hA (by omega) (by omega) k
  | 6, _ => exact r_refusalV h hI hA (by omega) (by omega) k
  | 7, _ => exact r_refusalV h hI hA (by omega) (by omega) k
  | 8, _ => exact r_refusalV h hI hA (by omega) (by omega) k
  | 9, _ => exact r_refusalV h hI hA (by omega) (by omega) k
  | 10, _ => exact r_refusalV h hI hA (by omega) (by omega) k
  | 11, _ => exact r_refusal11 h hA k
  | c + 12, h => exact absurd h (by omega)
end RR
