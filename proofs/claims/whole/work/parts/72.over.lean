/-! The class: a tape gone over; counts. -/
section CG
variable {d a m r lim cap : Nat} {G G' : bo_G} {Q : Option Value → bo_G → Prop} {us : List Nat} {lg lg' : Nat → Int32} {E c i : Nat} {ke : Int32} {nn : Nat → Int32} {ts : List Int32}
theorem LEN_num : ∀ c, c < 12 → bo_LEN c = nI (numc c + 1) := by decide
theorem CR_0 (C : CR G a us lg 0 ke) : CR G a us lg' 0 ke := ⟨C.1, NT_0 C.2⟩
theorem CR.ke' (C : CR G a us lg E ke) (ke2 : Int32) : CR (G.set a (rC a (nI (vsl lg E).length, nI (rsl lg E).length, nI (osl lg E).length, tdy lg E, ke2))) a us lg E ke2 ∨ ¬ a + 4 < 378 := by
  by_cases h : a + 4 < 378
  · obtain ⟨R1, F1⟩ := C.1.setO (nI (vsl lg E).length, nI (rsl lg E).length, nI (osl lg E).length, tdy lg E, ke2)
    exact Or.inl ⟨R1, C.2.FO h F1⟩
  · exact Or.inr h
/-- a cell that is none of a roll's -/
theorem FD.keep {us' : List Nat} (F : FD a us G us' G') (hra : 12 ≤ r ∧ r < 378) (ha : a = 2 ∨ a = 7) (h378 : ∀ u ∈ us, ∃ m, u = 378 + 6 * m) {x : bo_C} (h : G[r]? = some x) : G'[r]? = some x := by
  rw [F.2 r (List.getElem?_eq_some_iff.mp h).1 (by omega) fun u hu => by obtain ⟨m, e⟩ := h378 u hu; omega]
  exact h
theorem c_goOver {lg0 : Nat → Int32} {E0 : Nat} (ha : a = 2 ∨ a = 7) (C : CR G a us lg0 E0 ke) (hW0 : WF lg0 E0) (hm : G.length = 378 + 6 * m) (hr0 : G[r]? = some (cR lim cap ts)) (hra : 12 ≤ r ∧ r < 378) (h4 : ts.length ≤ 40000) (kg : (rst ts (ts.length + 1) 0 lg 0).1 = true → ∀ G' us', CR G' a us' (rst ts (ts.length + 1) 0 lg 0).2.2.1 (rst ts (ts.length + 1) 0 lg 0).2.2.2 (nI (acl (rst ts (ts.length + 1) 0 lg 0).2.2.1 (rst ts (ts.length + 1) 0 lg 0).2.2.2).length) → FD a us G us' G' → WF (rst ts (ts.length + 1) 0 lg 0).2.2.1 (rst ts (ts.length + 1) 0 lg 0).2.2.2 → Q (some (.int (nI (acl (rst ts (ts.length + 1) 0 lg 0).2.2.1 (rst ts (ts.length + 1) 0 lg 0).2.2.2).length))) G') (kb : (rst ts (ts.length + 1) 0 lg 0).1 = false → ∀ G' us' ke', CR G' a us' (rst ts (ts.length + 1) 0 lg 0).2.2.1 (rst ts (ts.length + 1) 0 lg 0).2.2.2 ke' → FD a us G us' G' → WF (rst ts (ts.length + 1) 0 lg 0).2.2.1 (rst ts (ts.length + 1) 0 lg 0).2.2.2 → Q (some (.int (-10 - nI (rst ts (ts.length + 1) 0 lg 0).2.1))) G') : Cx (d + 8) mX3_goOver [.ref a, .ref r] G Q := by
  have h0 := C.1.1
  have h378 := C.2.2.2.2.1
  have loop : ∀ (f p : Nat) (b : Int32) (lg1 : Nat → Int32) (E1 : Nat) (us1 : List Nat) (ke1 : Int32) (G3 : bo_G), b = nI p → ts.length < p + f → p ≤ 40020 → rst ts (ts.length + 1) 0 lg 0 = rst ts f p lg1 E1 → WF lg1 E1 → CR G3 a us1 lg1 E1 ke1 → FD a us G us1 G3 → Ex (d + 8) mX3_goOver (6, [(0, .ref a), (1, .ref r), (2, .int b)], [], G3) Q := by
    intro f
    induction f with
    | zero =>
      intro p b lg1 E1 us1 ke1 G3 hb hlt hp hres hW1 C3 F3
      subst hb
      have hres' : rst ts (ts.length + 1) 0 lg 0 = (true, p, lg1, E1) := hres
      rw [hres'] at kg
      have kg := kg rfl
      have h03 := C3.1.1
      have hr3 := F3.keep hra ha h378 hr0
      obtain ⟨c2, h2⟩ := C3.1.2.2.1
      have hlt3 := C3.1.lt
      (repeat (first | refine Ex.go rfl rfl ?_ | refine Ex.gf rfl rfl (by assumption) (by rfl) (by first | rfl | assumption) ?_))
      refine Ex.cv0 rfl rfl rfl hr3 (by rfl) (by decide) rfl ?_
      refine s_size hr3 ?_
      (repeat (first | refine Ex.go rfl rfl ?_ | refine Ex.gf rfl rfl (by assumption) (by rfl) (by first | rfl | assumption) ?_))
      refine Ex.br (fun h1 => ?_) (fun h1 => ?_); rotate_left
      · exact absurd (show nI ts.length ≤ nI p from nI_le (by omega) (by omega)) h1
      (repeat (first | refine Ex.go rfl rfl ?_ | refine Ex.gf rfl rfl (by assumption) (by rfl) (by first | rfl | assumption) ?_))
      refine Ex.cv0 rfl rfl rfl h2 (by rfl) (by decide) rfl ?_
      refine s_size h2 ?_
      rw [List.length_map]
      refine Ex.lay [(a, rC a (nI (vsl lg1 E1).length, nI (rsl lg1 E1).length, nI (osl lg1 E1).length, tdy lg1 E1, ke1))] (lay1 h03) ?_
      have hA := ap1 h03
      (repeat (first | refine Ex.go rfl rfl ?_ | refine Ex.gf rfl rfl (ov_get hA 0 rfl) (by rfl) (by rfl) ?_ | refine Ex.gf rfl rfl (ov_get hA 1 rfl) (by rfl) (by rfl) ?_ | refine Ex.gf rfl rfl (ov_get hA 2 rfl) (by rfl) (by rfl) ?_ | refine Ex.gf rfl rfl (ov_get hA 3 rfl) (by rfl) (by rfl) ?_ | refine Ex.gf rfl rfl (ov_get hA 4 rfl) (by rfl) (by rfl) ?_ | refine Ex.gf rfl rfl (ov_get hA 5 rfl) (by rfl) (by rfl) ?_ | refine Ex.gf rfl rfl (ov_get hA 6 rfl) (by rfl) (by rfl) ?_ | (refine Ex.pfo hA 0 rfl rfl rfl (by rfl) (by rfl) (by rfl) ?_; dsimp only [List.set]) | (refine Ex.pfo hA 1 rfl rfl rfl (by rfl) (by rfl) (by rfl) ?_; dsimp only [List.set]) | (refine Ex.pfo hA 2 rfl rfl rfl (by rfl) (by rfl) (by rfl) ?_; dsimp only [List.set]) | (refine Ex.pfo hA 3 rfl rfl rfl (by rfl) (by rfl) (by rfl) ?_; dsimp only [List.set]) | (refine Ex.pfo hA 4 rfl rfl rfl (by rfl) (by rfl) (by rfl) ?_; dsimp only [List.set]) | (refine Ex.pfo hA 5 rfl rfl rfl (by rfl) (by rfl) (by rfl) ?_; dsimp only [List.set]) | (refine Ex.pfo hA 6 rfl rfl rfl (by rfl) (by rfl) (by rfl) ?_; dsimp only [List.set])))
      refine Ex.ret rfl rfl rfl ?_
      obtain ⟨R4, F4⟩ := C3.1.setO (nI (vsl lg1 E1).length, nI (rsl lg1 E1).length, nI (osl lg1 E1).length, tdy lg1 E1, nI (acl lg1 E1).length)
      exact kg _ us1 ⟨R4, C3.2.FO (by omega) F4⟩ (F3.trans F4.fd) hW1
    | succ f ih =>
      intro p b lg1 E1 us1 ke1 G3 hb hlt hp hres hW1 C3 F3
      subst hb
      have h03 := C3.1.1
      have hr3 := F3.keep hra ha h378 hr0
      obtain ⟨c2, h2⟩ := C3.1.2.2.1
      have hlt3 := C3.1.lt
      obtain ⟨m3, hm3⟩ := F3.len hm
      by_cases hal : p < ts.length
      · have es : rst ts (f + 1) p lg1 E1 = if tkP ts p lg1 E1 then rst ts f (p + 1 + numc (tpC ts p).toNatClampNeg) (lgN lg1 E1 (tpC ts p).toNatClampNeg (tpN ts p)) (E1 + 1) else (false, p, lg1, E1) := if_pos hal
        have bad : ¬ tkP ts p lg1 E1 → ∀ (G4 : bo_G), G4 = G3 → Q (some (.int (Int32.ofInt (-10) - nI p))) G4 := by
          intro hno G4 e
          rw [if_neg hno] at es
          rw [hres.trans es] at kb
          rw [e]
          exact kb rfl G3 us1 ke1 C3 F3 hW1
        (repeat (first | refine Ex.go rfl rfl ?_ | refine Ex.gf rfl rfl (by assumption) (by rfl) (by first | rfl | assumption) ?_))
        refine Ex.cv0 rfl rfl rfl hr3 (by rfl) (by decide) rfl ?_
        refine s_size hr3 ?_
        (repeat (first | refine Ex.go rfl rfl ?_ | refine Ex.gf rfl rfl (by assumption) (by rfl) (by first | rfl | assumption) ?_))
        refine Ex.br (fun h1 => ?_) (fun h1 => ?_)
        · have h1' : nI ts.length ≤ nI p := h1
          rw [nI_leI (by omega) (by omega)] at h1'
          omega
        (repeat (first | refine Ex.go rfl rfl ?_ | refine Ex.gf rfl rfl (by assumption) (by rfl) (by first | rfl | assumption) ?_))
        refine Ex.cv1 rfl rfl rfl hr3 (by rfl) (by decide) rfl ?_
        refine Cx.ratE hr3 (tp_c (by omega)) ?_
        refine Ex.cs1 rfl rfl rfl rfl rfl rfl ?_
        refine Cx.rlen ?_
        by_cases hcode : 0 ≤ (tpC ts p).toInt ∧ (tpC ts p).toInt ≤ 11
        · obtain ⟨e1, e2, e3⟩ := nI_iof hcode.1
          have hc12 : (tpC ts p).toNatClampNeg < 12 := by omega
          rw [if_pos ⟨Int32.le_iff_toInt_le.mpr hcode.1, Int32.lt_iff_toInt_lt.mpr (by show _ < (12 : Int); omega)⟩, LEN_num _ hc12]
          unfold tkP at bad es
          generalize (tpC ts p).toNatClampNeg = c at e1 e2 e3 hc12 bad es ⊢
          have hn15 := numc_le c
          have bad := fun z => bad z G3 rfl
          (repeat (first | refine Ex.go rfl rfl ?_ | refine Ex.gf rfl rfl (by assumption) (by rfl) (by first | rfl | assumption) ?_))
          refine Ex.br (fun b1 => ?_) (fun b1 => ?_)
          · have b2 : nI (numc c + 1) < nI 1 := b1
            rw [nI_ltI (by omega) (by omega)] at b2
            omega
          (repeat (first | refine Ex.go rfl rfl ?_ | refine Ex.gf rfl rfl (by assumption) (by rfl) (by first | rfl | assumption) ?_))
          refine Ex.cv0 rfl rfl rfl hr3 (by rfl) (by decide) rfl ?_
          refine s_size hr3 ?_
          (repeat (first | refine Ex.go rfl rfl ?_ | refine Ex.gf rfl rfl (by assumption) (by rfl) (by first | rfl | assumption) ?_))
          refine Ex.br (fun b3 => ?_) (fun b3 => ?_)
          · have b4 : nI ts.length - nI p < nI (numc c + 1) := b3
            rw [pk_sub (by omega), nI_ltI (by omega) (by omega)] at b4
            have bad := bad fun z => by have := z.2.1; omega
            (repeat (first | refine Ex.go rfl rfl ?_ | refine Ex.gf rfl rfl (by assumption) (by rfl) (by first | rfl | assumption) ?_))
            refine Ex.ret rfl rfl rfl ?_
            exact bad
          have b4 : p + numc c < ts.length := by
            have : ¬ nI ts.length - nI p < nI (numc c + 1) := b3
            rw [pk_sub (by omega), nI_ltI (by omega) (by omega)] at this
            omega
          (repeat (first | refine Ex.go rfl rfl ?_ | refine Ex.gf rfl rfl (by assumption) (by rfl) (by first | rfl | assumption) ?_))
          refine Ex.cv2 rfl rfl rfl h03 (by rfl) (by decide) rfl ?_
          refine c_enterFrom (m := m3) ha C3 hW1 hm3 hr3 hra (by omega) hc12 e1 (fun z => ?_) (fun z G5 us5 ke5 C5 F5 => ?_)
          · have bad := bad fun y => by rw [y.2.2] at z; exact absurd z (by decide)
            generalize rfs lg1 E1 c (tpN ts p) = no at z
            (repeat (first | refine Ex.go rfl rfl ?_ | refine Ex.gf rfl rfl (by assumption) (by rfl) (by first | rfl | assumption) ?_))
            refine Ex.br (fun b5 => ?_) (fun b5 => ?_)
            · exact absurd z (Int32.not_lt.mpr b5)
            (repeat (first | refine Ex.go rfl rfl ?_ | refine Ex.gf rfl rfl (by assumption) (by rfl) (by first | rfl | assumption) ?_))
            refine Ex.ret rfl rfl rfl ?_
            exact bad
          · have hge := ans_ge hW1 hc12 z
            rw [if_pos ⟨hcode, b4, z⟩] at es
            have hWN := (WF_N hW1 hc12 z).2.2
            have ea : nI p + nI (numc c + 1) = nI (p + 1 + numc c) := by rw [nI_add]; congr 1; omega
            have nxt := ih _ _ _ _ us5 ke5 G5 ea (by omega) (by omega) (hres.trans es) hWN C5 (F3.trans F5)
            generalize ansI lg1 E1 c (tpN ts p) = an at hge
            (repeat (first | refine Ex.go rfl rfl ?_ | refine Ex.gf rfl rfl (by assumption) (by rfl) (by first | rfl | assumption) ?_))
            refine Ex.br (fun b5 => ?_) (fun b5 => ?_); rotate_left
            · exact absurd (Int32.le_iff_toInt_le.mpr (show (0 : Int32).toInt ≤ an.toInt from hge)) b5
            (repeat (first | exact nxt | refine Ex.go rfl rfl ?_ | refine Ex.gf rfl rfl (by assumption) (by rfl) (by first | rfl | assumption) ?_))
        · have hno : ¬ (0 ≤ tpC ts p ∧ tpC ts p < 12) := fun z => hcode ⟨Int32.le_iff_toInt_le.mp z.1, by
            have := Int32.lt_iff_toInt_lt.mp z.2
            rw [show (12 : Int32).toInt = 12 from rfl] at this
            omega⟩
          rw [if_neg hno]
          have bad := bad (fun z => hcode z.1) G3 rfl
          (repeat (first | refine Ex.go rfl rfl ?_ | refine Ex.gf rfl rfl (by assumption) (by rfl) (by first | rfl | assumption) ?_))
          refine Ex.ret rfl rfl rfl ?_
          exact bad
      · have es : rst ts (f + 1) p lg1 E1 = (true, p, lg1, E1) := if_neg hal
        rw [hres.trans es] at kg
        have kg := kg rfl
        (repeat (first | refine Ex.go rfl rfl ?_ | refine Ex.gf rfl rfl (by assumption) (by rfl) (by first | rfl | assumption) ?_))
        refine Ex.cv0 rfl rfl rfl hr3 (by rfl) (by decide) rfl ?_
        refine s_size hr3 ?_
        (repeat (first | refine Ex.go rfl rfl ?_ | refine Ex.gf rfl rfl (by assumption) (by rfl) (by first | rfl | assumption) ?_))
        refine Ex.br (fun h1 => ?_) (fun h1 => ?_); rotate_left
        · exact absurd (show nI ts.length ≤ nI p from nI_le (by omega) (by omega)) h1
        (repeat (first | refine Ex.go rfl rfl ?_ | refine Ex.gf rfl rfl (by assumption) (by rfl) (by first | rfl | assumption) ?_))
        refine Ex.cv0 rfl rfl rfl h2 (by rfl) (by decide) rfl ?_
        refine s_size h2 ?_
        rw [List.length_map]
        refine Ex.lay [(a, rC a (nI (vsl lg1 E1).length, nI (rsl lg1 E1).length, nI (osl lg1 E1).length, tdy lg1 E1, ke1))] (lay1 h03) ?_
        have hA := ap1 h03
        (repeat (first | refine Ex.go rfl rfl ?_ | refine Ex.gf rfl rfl (ov_get hA 0 rfl) (by rfl) (by rfl) ?_ | refine Ex.gf rfl rfl (ov_get hA 1 rfl) (by rfl) (by rfl) ?_ | refine Ex.gf rfl rfl (ov_get hA 2 rfl) (by rfl) (by rfl) ?_ | refine Ex.gf rfl rfl (ov_get hA 3 rfl) (by rfl) (by rfl) ?_ | refine Ex.gf rfl rfl (ov_get hA 4 rfl) (by rfl) (by rfl) ?_ | refine Ex.gf rfl rfl (ov_get hA 5 rfl) (by rfl) (by rfl) ?_ | refine Ex.gf rfl rfl (ov_get hA 6 rfl) (by rfl) (by rfl) ?_ | (refine Ex.pfo hA 0 rfl rfl rfl (by rfl) (by rfl) (by rfl) ?_; dsimp only [List.set]) | (refine Ex.pfo hA 1 rfl rfl rfl (by rfl) (by rfl) (by rfl) ?_; dsimp only [List.set]) | (refine Ex.pfo hA 2 rfl rfl rfl (by rfl) (by rfl) (by rfl) ?_; dsimp only [List.set]) | (refine Ex.pfo hA 3 rfl rfl rfl (by rfl) (by rfl) (by rfl) ?_; dsimp only [List.set]) | (refine Ex.pfo hA 4 rfl rfl rfl (by rfl) (by rfl) (by rfl) ?_; dsimp only [List.set]) | (refine Ex.pfo hA 5 rfl rfl rfl (by rfl) (by rfl) (by rfl) ?_; dsimp only [List.set]) | (refine Ex.pfo hA 6 rfl rfl rfl (by rfl) (by rfl) (by rfl) ?_; dsimp only [List.set])))
        refine Ex.ret rfl rfl rfl ?_
        obtain ⟨R4, F4⟩ := C3.1.setO (nI (vsl lg1 E1).length, nI (rsl lg1 E1).length, nI (osl lg1 E1).length, tdy lg1 E1, nI (acl lg1 E1).length)
        exact kg _ us1 ⟨R4, C3.2.FO (by omega) F4⟩ (F3.trans F4.fd) hW1
  refine Cx.body rfl rfl ?_
  (repeat (first | refine Ex.go rfl rfl ?_ | refine Ex.gf rfl rfl (by assumption) (by rfl) (by first | rfl | assumption) ?_))
  refine Ex.cv0 rfl rfl rfl h0 (by rfl) (by decide) rfl ?_
  refine c_clear ha C hW0 (fun G1 C1 F1 => ?_)
  have hWz : WF lg 0 := ⟨fun i hi => absurd hi (Nat.not_lt_zero _), Nat.zero_le _, Nat.zero_le _, Nat.zero_le _⟩
  have l0 := loop (ts.length + 1) 0 _ lg 0 us 0 G1 rfl (by omega) (by omega) rfl hWz (CR_0 C1) F1.fd
  (repeat (first | exact l0 | refine Ex.go rfl rfl ?_ | refine Ex.gf rfl rfl (by assumption) (by rfl) (by first | rfl | assumption) ?_))
/-- how many spots a part has; none -/
def spoI (lg : Nat → Int32) (E : Nat) (v p : Int32) : Int32 := if isPt lg E v p then sho lg E v p 40000 2 1 else -1
theorem c_spotsOf {v p : Int32} (C : CR G a us lg E ke) (hW : WF lg E) (k : Q (some (.int (spoI lg E v p))) G) : Cx (d + 2) mX3_spotsOf [.ref a, .int v, .int p] G Q := by
  have h0 := C.1.1
  unfold spoI at k
  refine Cx.body rfl rfl ?_
  (repeat (first | refine Ex.go rfl rfl ?_ | refine Ex.gf rfl rfl (by assumption) (by rfl) (by first | rfl | assumption) ?_))
  refine Ex.cv1 rfl rfl rfl h0 (by rfl) (by decide) rfl ?_
  refine c_vesselAt C hW.2.1 (fun hno => ?_) (fun v' u ev evn hv hu => ?_)
  · rw [if_neg (fun z => hno z.1)] at k
    (repeat (first | refine Ex.go rfl rfl ?_ | refine Ex.gf rfl rfl (by assumption) (by rfl) (by first | rfl | assumption) ?_))
    refine Ex.ret rfl rfl rfl ?_
    exact k
  have hvl := sel_len E fun i => cod lg i == 1
  have hE6 : E ≤ 6000 := by have := acl_osl (lg := lg) (E := E); have := hW.2.2.1; have := hW.2.2.2; omega
  have hv31 : v' < 2 ^ 31 := by unfold vsl at hv; omega
  have hvi : 0 ≤ v.toInt ∧ v.toInt < (vsl lg E).length := by rw [ev, nI_toInt hv31]; omega
  obtain ⟨x, K, V, L, nv⟩ := C.2.2.2.2.2 v' u hu
  obtain ⟨rfl, n1, n2, n3, n4, n5⟩ := nv hv
  have hV0 := V.1
  have eK : K.1.length = (psl lg E v').length := by rw [n1, List.length_map]
  have hp24 := psl_le hW.1 hE6 hv31
  (repeat (first | refine Ex.go rfl rfl ?_ | refine Ex.gf rfl rfl (by assumption) (by rfl) (by first | rfl | assumption) ?_))
  refine Ex.cv1 rfl rfl rfl hV0 (by rfl) (by decide) rfl ?_
  refine c_hasPart V L ?_
  rw [eK]
  (repeat (first | refine Ex.go rfl rfl ?_ | refine Ex.gf rfl rfl (by assumption) (by rfl) (by first | rfl | assumption) ?_))
  first | (refine Ex.brz (fun hpp => ?_) (fun hpp => ?_); rotate_left) | (refine Ex.brn (fun hpp => ?_) (fun hpp => ?_); rotate_left)
  · rw [if_neg (fun z => hpp (by have := z.2; rw [evn] at this; exact this))] at k
    (repeat (first | refine Ex.go rfl rfl ?_ | refine Ex.gf rfl rfl (by assumption) (by rfl) (by first | rfl | assumption) ?_))
    refine Ex.ret rfl rfl rfl ?_
    exact k
  rw [if_pos ⟨hvi, by rw [evn]; exact hpp⟩] at k
  obtain ⟨ep1, ep2, ep3⟩ := nI_iof hpp.1
  have hpl' : p.toNatClampNeg < (psl lg E v').length := by omega
  obtain ⟨cs, hk2⟩ := V.2.2.1
  have esp : bo_at K.2.1 p = sho lg E v p 40000 2 1 := by
    have h1 := lst_at (xs := K.2.1) (p := p.toNatClampNeg) (v := sho lg E (nI v') (nI p.toNatClampNeg) 40000 2 1) (by rw [n2]; simp; omega) ep3 (by rw [n2, List.getElem?_map, List.getElem?_range hpl']; rfl)
    rw [← ep1] at h1
    rw [ev]
    exact h1
  (repeat (first | refine Ex.go rfl rfl ?_ | refine Ex.gf rfl rfl (by assumption) (by rfl) (by first | rfl | assumption) ?_))
  refine Ex.cv1 rfl rfl rfl hk2 (by rfl) (by decide) rfl ?_
  refine Cx.ratE hk2 esp ?_
  (repeat (first | refine Ex.go rfl rfl ?_ | refine Ex.gf rfl rfl (by assumption) (by rfl) (by first | rfl | assumption) ?_))
  refine Ex.ret rfl rfl rfl ?_
  exact k
end CG
