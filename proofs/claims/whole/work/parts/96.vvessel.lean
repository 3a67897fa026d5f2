/-! The class's view: an act of a vessel, a rule, a part is read. -/
section VV
variable {d r cap a v i E : Nat} {G G1 : bo_G} {Q : Option Value → bo_G → Prop} {lg : Nat → Int32} {x y sf mk st bu ow : Int32}
theorem pvI_no (hc : ¬ cod lg i = 3 ∧ ¬ cod lg i = 5 ∧ ¬ cod lg i = 6 ∧ ¬ cod lg i = 7) : ∀ p, p < (psl lg i v).length → pvI lg (i + 1) v p x y = pvI lg i v p x y := fun p hp => pvI_same hp (fun z => hc.1 z.1) (fun z => hc.2.1 z.1.1) (fun z => hc.2.2.1 z.1.1) (fun z => hc.2.2.2 z.1.1)
/-- an entry behind it that is none of a part, valves and papers as they are then -/
theorem V1_mk {ss ds ps gs ys os : List Int32} {o so sd td : Int32} (h : VX G1 (psl lg i v).length a v y sf mk st (fun p => pvI lg i v p x y) ss ds ps bu o so sd td (-1) (-1) gs ys os) (hs : stdP lg (i + 1) v x st) (h2 : ¬ cod lg i = 2) (hc : ¬ cod lg i = 3 ∧ ¬ cod lg i = 5 ∧ ¬ cod lg i = 6 ∧ ¬ cod lg i = 7) (a1 : ssL lg (i + 1) v x y = ss) (a2 : dsL lg (i + 1) v x y = ds) (a3 : psL lg (i + 1) v x = ps) (b1 : owC lg ow v x y (i + 1) = o) (b2 : soC lg v x y (i + 1) = so) (b3 : stD lg v x y (i + 1) = sd) (b4 : tdC lg v x y (i + 1) = td) (b5 : [dgC lg bu v x y (i + 1) 0, dgC lg bu v x y (i + 1) 1, dgC lg bu v x y (i + 1) 2] = gs) (c1 : [ruC lg y (i + 1) 1 0, ruC lg y (i + 1) 1 1, ruC lg y (i + 1) 1 2] = ys) (c2 : [ruC lg y (i + 1) 2 0, ruC lg y (i + 1) 2 1, ruC lg y (i + 1) 2 2] = os) : V1 G1 lg (i + 1) v a x y sf mk bu ow := by
  have ep : psl lg (i + 1) v = psl lg i v := by rw [psl_s, if_neg (fun z => h2 z.1), List.append_nil]
  refine ⟨st, ?_, hs⟩
  rw [ep, a1, a2, a3, b1, b2, b3, b4, b5, c1, c2]
  exact h.congr (pvI_no hc)
theorem ru3 {m : Nat} (h : ¬ cod lg i = 11) : [ruC lg y (i + 1) m 0, ruC lg y (i + 1) m 1, ruC lg y (i + 1) m 2] = [ruC lg y i m 0, ruC lg y i m 1, ruC lg y i m 2] := by
  rw [ru_no fun z => h z.1, ru_no fun z => h z.1, ru_no fun z => h z.1]
theorem dg3 (h : ¬ paP lg v x y i) : [dgC lg bu v x y (i + 1) 0, dgC lg bu v x y (i + 1) 1, dgC lg bu v x y (i + 1) 2] = [dgC lg bu v x y i 0, dgC lg bu v x y i 1, dgC lg bu v x y i 2] := by
  have e := (pap_same (ow := 0) (bu := bu) h).2.2.2.2
  rw [e, e, e]
theorem v_av8 (h : V1 G lg i v a x y sf mk bu ow) (hW : ∀ k, k < E → wfE lg k) (hi : i < E) (hE : E ≤ 6000) (h4 : (img lg E).length ≤ 40000) (hr : G[r]? = some (cR 40000 cap (img lg E))) (hrl : r < 12) (hv31 : v < 2 ^ 31) (h0 : num lg i 0 = nI v) (hc : cod lg i = 8) (k : ∀ G', V1 G' lg (i + 1) v a x y sf mk bu ow → FW G G' → Q none G') : Cx (d + 4) mX9_readActOfVessel [.ref 12, .ref r, .int (nI (posn lg i)), .int x] G Q := by
  obtain ⟨st, hX, hS⟩ := h
  obtain ⟨v', hv', ev', w⟩ := wf_c8 (hW i hi) hc
  have e := v_nat (by omega) hv' hv31 ev' h0
  subst e
  have hnum : nums (cod lg i) = 4 := by rw [hc]; decide
  have hd0 := (wf_day hW hi).1
  have hdy : dyy lg i = num lg i 3 := w.2.2.2.2.1
  have hw6 : (wsl lg i v').length < 6 := w.2.2.2.2.2
  have np : ¬ paP lg v' x y i := fun z => absurd (z.1.1.symm.trans hc) (by decide)
  obtain ⟨q1, q2, q3, q4, q5⟩ := pap_same (ow := ow) (bu := bu) np
  obtain ⟨n1, n2, n3⟩ := vL_new (x := x) (y := y) hc h0
  have g0 := hX.1
  have g14 := hX.2.2.2.1.1
  refine Cx.body rfl rfl ?_
  (repeat (first | refine Ex.go rfl rfl ?_ | refine Ex.gf rfl rfl (by assumption) (by rfl) (by first | rfl | assumption) ?_))
  refine Ex.cv1 rfl rfl rfl hr (by rfl) (by decide) rfl ?_
  refine Cx.ratE hr (im_n hi h4 (j := 1) (by omega)) ?_
  (repeat (first | refine Ex.go rfl rfl ?_ | refine Ex.gf rfl rfl (by assumption) (by rfl) (by first | rfl | assumption) ?_))
  refine Ex.cv1 rfl rfl rfl hr (by rfl) (by decide) rfl ?_
  refine Cx.ratE hr (im_n hi h4 (j := 2) (by omega)) ?_
  (repeat (first | refine Ex.go rfl rfl ?_ | refine Ex.gf rfl rfl (by assumption) (by rfl) (by first | rfl | assumption) ?_))
  refine Ex.cv1 rfl rfl rfl hr (by rfl) (by decide) rfl ?_
  refine Cx.ratE hr (im_n hi h4 (j := 3) (by omega)) ?_
  (repeat (first | refine Ex.go rfl rfl ?_ | refine Ex.gf rfl rfl (by assumption) (by rfl) (by first | rfl | assumption) ?_))
  refine Ex.cv1 rfl rfl rfl hr (by rfl) (by decide) rfl ?_
  refine Cx.ratE hr (im_c hi h4) ?_
  rw [hc]
  refine Ex.tsw 60 rfl rfl (by decide) ?_
  (repeat (first | refine Ex.go rfl rfl ?_ | refine Ex.gf rfl rfl (by assumption) (by rfl) (by first | rfl | assumption) ?_))
  refine Ex.cv2 rfl rfl rfl g0 (by rfl) (by decide) rfl ?_
  refine v_begins g0 (fun hb => ?_) (fun hb => ?_)
  · have hx : dyy lg i ≤ x := by rw [hdy]; exact hb
    rw [if_pos hx] at n1 n2 n3
    rw [hdy] at n2
    (repeat (first | refine Ex.go rfl rfl ?_ | refine Ex.gf rfl rfl (by assumption) (by rfl) (by first | rfl | assumption) ?_))
    try (first | refine Ex.le0 ?_ | refine Ex.ln0 ?_)
    (repeat (first | refine Ex.go rfl rfl ?_ | refine Ex.gf rfl rfl (by assumption) (by rfl) (by first | rfl | assumption) ?_))
    refine Ex.cv3 rfl rfl rfl g14 (by rfl) (by decide) rfl ?_
    refine vw_add3 hX.2.2.2.1 (by rw [ssL_len]; exact hw6) (by rw [dsL_len]; exact hw6) (by rw [psL_len]; exact hw6) (fun G' hV F => ?_)
    have k := k G' (V1_mk (hX.valves F hV) (stdP_in hS hx) (by rw [hc]; decide) (by rw [hc]; decide) n1 n2 n3 q1 q2 q3 q4 (dg3 np) (ru3 (by rw [hc]; decide)) (ru3 (by rw [hc]; decide))) F.fw1
    (repeat (first | refine Ex.go rfl rfl ?_ | refine Ex.gf rfl rfl (by assumption) (by rfl) (by first | rfl | assumption) ?_))
    refine Ex.ret rfl rfl rfl ?_
    exact k
  · have hx : ¬ dyy lg i ≤ x := by rw [hdy]; exact hb
    rw [if_neg hx] at n1 n2 n3
    obtain ⟨hX3, F3⟩ := hX.set12 (st' := mnI st (num lg i 3 - 1))
    generalize G.set 12 (vwC (nI (psl lg i v').length) (some a) (nI v') y 1 sf mk (mnI st (num lg i 3 - 1))) = G3 at *
    have g0 := hX3.1
    have g14 := hX3.2.2.2.1.1
    (repeat (first | refine Ex.go rfl rfl ?_ | refine Ex.gf rfl rfl (by assumption) (by rfl) (by first | rfl | assumption) ?_))
    try (first | refine Ex.le0 ?_ | refine Ex.ln0 ?_)
    (repeat (first | refine Ex.go rfl rfl ?_ | refine Ex.gf rfl rfl (by assumption) (by rfl) (by first | rfl | assumption) ?_))
    refine Ex.cv0 rfl rfl rfl g14 (by rfl) (by decide) rfl ?_
    refine vw_later hX3.2.2.2.1 (by rw [ssL_len]; exact hw6) (by rw [dsL_len]; exact hw6) (by rw [psL_len]; exact hw6) (fun G' hV F => ?_)
    have k := k G' (V1_mk (hX3.valves F hV) (stdP_out hS hdy (by rw [← hdy]; exact hd0)) (by rw [hc]; decide) (by rw [hc]; decide) n1 n2 n3 q1 q2 q3 q4 (dg3 np) (ru3 (by rw [hc]; decide)) (ru3 (by rw [hc]; decide))) (F3.trans F.fw1)
    (repeat (first | refine Ex.go rfl rfl ?_ | refine Ex.gf rfl rfl (by assumption) (by rfl) (by first | rfl | assumption) ?_))
    refine Ex.ret rfl rfl rfl ?_
    exact k
theorem v_av9 (h : V1 G lg i v a x y sf mk bu ow) (hW : ∀ k, k < E → wfE lg k) (hi : i < E) (hE : E ≤ 6000) (h4 : (img lg E).length ≤ 40000) (hr : G[r]? = some (cR 40000 cap (img lg E))) (hrl : r < 12) (hv31 : v < 2 ^ 31) (he : ent lg i ≤ y) (h0 : num lg i 0 = nI v) (hc : cod lg i = 9) (k : ∀ G', V1 G' lg (i + 1) v a x y sf mk bu ow → FW G G' → Q none G') : Cx (d + 4) mX9_readActOfVessel [.ref 12, .ref r, .int (nI (posn lg i)), .int x] G Q := by
  obtain ⟨st, hX, hS⟩ := h
  obtain ⟨v', hv', ev', w⟩ := wf_c9 (hW i hi) hc
  have e := v_nat (by omega) hv' hv31 ev' h0
  subst e
  obtain ⟨-, ww, hww, eww, -, -, hdw, hdy⟩ := w
  have hnum : nums (cod lg i) = 4 := by rw [hc]; decide
  have hd0 := (wf_day hW hi).1
  have hw6 := wsl_le2 hW hE (Nat.le_of_lt hi) hv31
  have np : ¬ paP lg v' x y i := fun z => absurd (z.1.1.symm.trans hc) (by decide)
  obtain ⟨q1, q2, q3, q4, q5⟩ := pap_same (ow := ow) (bu := bu) np
  have g0 := hX.1
  have g14 := hX.2.2.2.1.1
  refine Cx.body rfl rfl ?_
  (repeat (first | refine Ex.go rfl rfl ?_ | refine Ex.gf rfl rfl (by assumption) (by rfl) (by first | rfl | assumption) ?_))
  refine Ex.cv1 rfl rfl rfl hr (by rfl) (by decide) rfl ?_
  refine Cx.ratE hr ((im_n hi h4 (j := 1) (by omega)).trans eww) ?_
  (repeat (first | refine Ex.go rfl rfl ?_ | refine Ex.gf rfl rfl (by assumption) (by rfl) (by first | rfl | assumption) ?_))
  refine Ex.cv1 rfl rfl rfl hr (by rfl) (by decide) rfl ?_
  refine Cx.ratE hr (im_n hi h4 (j := 2) (by omega)) ?_
  (repeat (first | refine Ex.go rfl rfl ?_ | refine Ex.gf rfl rfl (by assumption) (by rfl) (by first | rfl | assumption) ?_))
  refine Ex.cv1 rfl rfl rfl hr (by rfl) (by decide) rfl ?_
  refine Cx.ratE hr ((im_n hi h4 (j := 3) (by omega)).trans hdy.symm) ?_
  (repeat (first | refine Ex.go rfl rfl ?_ | refine Ex.gf rfl rfl (by assumption) (by rfl) (by first | rfl | assumption) ?_))
  refine Ex.cv1 rfl rfl rfl hr (by rfl) (by decide) rfl ?_
  refine Cx.ratE hr (im_c hi h4) ?_
  rw [hc]
  refine Ex.tsw 96 rfl rfl (by decide) ?_
  (repeat (first | refine Ex.go rfl rfl ?_ | refine Ex.gf rfl rfl (by assumption) (by rfl) (by first | rfl | assumption) ?_))
  refine Ex.cv2 rfl rfl rfl g0 (by rfl) (by decide) rfl ?_
  refine v_begins g0 (fun hx => ?_) (fun hx => ?_)
  · have hwx : dyy lg (wat lg i v' ww) ≤ x := Int32.le_trans (by rw [hdy]; exact hdw) hx
    obtain ⟨e1, n3, e2, e3⟩ := vL_set hw6 hww ⟨hc, h0, eww⟩ ⟨he, hx⟩ hwx
    (repeat (first | refine Ex.go rfl rfl ?_ | refine Ex.gf rfl rfl (by assumption) (by rfl) (by first | rfl | assumption) ?_))
    try (first | refine Ex.le0 ?_ | refine Ex.ln0 ?_)
    (repeat (first | refine Ex.go rfl rfl ?_ | refine Ex.gf rfl rfl (by assumption) (by rfl) (by first | rfl | assumption) ?_))
    refine Ex.cv3 rfl rfl rfl g14 (by rfl) (by decide) rfl ?_
    refine vw_set hX.2.2.2.1 (fun hlt => ?_) (fun hle G' hV F => ?_)
    · rw [e1] at hlt
      obtain ⟨n1, n2⟩ := e2 hlt
      have k := k G (V1_mk hX (stdP_in hS hx) (by rw [hc]; decide) (by rw [hc]; decide) n1 n2 n3 q1 q2 q3 q4 (dg3 np) (ru3 (by rw [hc]; decide)) (ru3 (by rw [hc]; decide))) (FW.rfl' G)
      (repeat (first | refine Ex.go rfl rfl ?_ | refine Ex.gf rfl rfl (by assumption) (by rfl) (by first | rfl | assumption) ?_))
      refine Ex.ret rfl rfl rfl ?_
      exact k
    · rw [e1] at hle
      obtain ⟨n1, n2⟩ := e3 hle
      have k := k G' (V1_mk (hX.valves F hV) (stdP_in hS hx) (by rw [hc]; decide) (by rw [hc]; decide) n1.symm n2.symm n3 q1 q2 q3 q4 (dg3 np) (ru3 (by rw [hc]; decide)) (ru3 (by rw [hc]; decide))) F.fw1
      (repeat (first | refine Ex.go rfl rfl ?_ | refine Ex.gf rfl rfl (by assumption) (by rfl) (by first | rfl | assumption) ?_))
      refine Ex.ret rfl rfl rfl ?_
      exact k
  · obtain ⟨n1, n2, n3⟩ := vL_same (x := x) (y := y) (show ¬ (cod lg i = 8 ∧ num lg i 0 = nI v') from fun z => absurd (z.1.symm.trans hc) (by decide)) (fun w' _ z => hx z.2.2)
    obtain ⟨hX3, F3⟩ := hX.set12 (st' := mnI st (dyy lg i - 1))
    have k := k _ (V1_mk hX3 (stdP_out hS rfl hd0) (by rw [hc]; decide) (by rw [hc]; decide) n1 n2 n3 q1 q2 q3 q4 (dg3 np) (ru3 (by rw [hc]; decide)) (ru3 (by rw [hc]; decide))) F3
    (repeat (first | refine Ex.go rfl rfl ?_ | refine Ex.gf rfl rfl (by assumption) (by rfl) (by first | rfl | assumption) ?_))
    try (first | refine Ex.le0 ?_ | refine Ex.ln0 ?_)
    (repeat (first | refine Ex.go rfl rfl ?_ | refine Ex.gf rfl rfl (by assumption) (by rfl) (by first | rfl | assumption) ?_))
    refine Ex.ret rfl rfl rfl ?_
    exact k
theorem i_ne {a b : Int32} (h : ¬ a.toInt = b.toInt) : ¬ a = b := fun z => h (by rw [z])
theorem v_av10 (h : V1 G lg i v a x y sf mk bu ow) (hW : ∀ k, k < E → wfE lg k) (hi : i < E) (hE : E ≤ 6000) (h4 : (img lg E).length ≤ 40000) (hr : G[r]? = some (cR 40000 cap (img lg E))) (hrl : r < 12) (hv31 : v < 2 ^ 31) (he : ent lg i ≤ y) (hbu : bu = dyy lg (vat lg E v)) (h0 : num lg i 0 = nI v) (hc : cod lg i = 10) (k : ∀ G', V1 G' lg (i + 1) v a x y sf mk bu ow → FW G G' → Q none G') : Cx (d + 4) mX9_readActOfVessel [.ref 12, .ref r, .int (nI (posn lg i)), .int x] G Q := by
  obtain ⟨st, hX, hS⟩ := h
  obtain ⟨v', hv', ev', w⟩ := wf_c10 (hW i hi) hc
  have e := v_nat (by omega) hv' hv31 ev' h0
  subst e
  obtain ⟨-, hkd, -, -, hdk, hdy⟩ := w
  have hnum : nums (cod lg i) = 5 := by rw [hc]; decide
  have hd0 := (wf_day hW hi).1
  have hb : bu ≤ dyy lg i := by
    rw [hbu, (vat_pre (lg := lg) (Nat.le_of_lt hi) hv').1, hdy]
    exact Int32.le_iff_toInt_le.mpr hdk.1
  obtain ⟨n1, n2, n3⟩ := vL_same (x := x) (y := y) (show ¬ (cod lg i = 8 ∧ num lg i 0 = nI v') from fun z => absurd (z.1.symm.trans hc) (by decide)) (fun w' _ z => absurd (z.1.1.symm.trans hc) (by decide))
  have r1 : ∀ m, [ruC lg y (i + 1) m 0, ruC lg y (i + 1) m 1, ruC lg y (i + 1) m 2] = [ruC lg y i m 0, ruC lg y i m 1, ruC lg y i m 2] := fun m => ru3 (by rw [hc]; decide)
  have g0 := hX.1
  have g18 := hX.2.2.2.2.1
  refine Cx.body rfl rfl ?_
  (repeat (first | refine Ex.go rfl rfl ?_ | refine Ex.gf rfl rfl (by assumption) (by rfl) (by first | rfl | assumption) ?_))
  refine Ex.cv1 rfl rfl rfl hr (by rfl) (by decide) rfl ?_
  refine Cx.ratE hr (im_n hi h4 (j := 1) (by omega)) ?_
  (repeat (first | refine Ex.go rfl rfl ?_ | refine Ex.gf rfl rfl (by assumption) (by rfl) (by first | rfl | assumption) ?_))
  refine Ex.cv1 rfl rfl rfl hr (by rfl) (by decide) rfl ?_
  refine Cx.ratE hr (im_n hi h4 (j := 2) (by omega)) ?_
  (repeat (first | refine Ex.go rfl rfl ?_ | refine Ex.gf rfl rfl (by assumption) (by rfl) (by first | rfl | assumption) ?_))
  refine Ex.cv1 rfl rfl rfl hr (by rfl) (by decide) rfl ?_
  refine Cx.ratE hr (im_n hi h4 (j := 3) (by omega)) ?_
  (repeat (first | refine Ex.go rfl rfl ?_ | refine Ex.gf rfl rfl (by assumption) (by rfl) (by first | rfl | assumption) ?_))
  refine Ex.cv1 rfl rfl rfl hr (by rfl) (by decide) rfl ?_
  refine Cx.ratE hr (im_c hi h4) ?_
  rw [hc]
  refine Ex.tsw 122 rfl rfl (by decide) ?_
  (repeat (first | refine Ex.go rfl rfl ?_ | refine Ex.gf rfl rfl (by assumption) (by rfl) (by first | rfl | assumption) ?_))
  refine Ex.cv1 rfl rfl rfl hr (by rfl) (by decide) rfl ?_
  refine Cx.ratE hr ((im_n hi h4 (j := 4) (by omega)).trans hdy.symm) ?_
  (repeat (first | refine Ex.go rfl rfl ?_ | refine Ex.gf rfl rfl (by assumption) (by rfl) (by first | rfl | assumption) ?_))
  refine Ex.cv2 rfl rfl rfl g0 (by rfl) (by decide) rfl ?_
  refine v_begins g0 (fun hx => ?_) (fun hx => ?_)
  · have hp : paP lg v' x y i := ⟨⟨hc, h0⟩, he, hx⟩
    have gop : ∀ kd, goP lg (nI v') kd i ∧ stP lg x y i ↔ num lg i 1 = kd ∧ num lg i 3 = 0 := fun kd => ⟨fun z => ⟨z.1.1.2.2, z.1.2⟩, fun z => ⟨⟨⟨hc, h0, z.1⟩, z.2⟩, he, hx⟩⟩
    have fin : ∀ {G2 : bo_G} {o so sd td : Int32} {gs : List Int32}, FN 18 4 G G2 → PW G2 18 bu o so sd td (-1) (-1) gs [ruC lg y i 1 0, ruC lg y i 1 1, ruC lg y i 1 2] [ruC lg y i 2 0, ruC lg y i 2 1, ruC lg y i 2 2] → owC lg ow v' x y (i + 1) = o → soC lg v' x y (i + 1) = so → stD lg v' x y (i + 1) = sd → tdC lg v' x y (i + 1) = td → [dgC lg bu v' x y (i + 1) 0, dgC lg bu v' x y (i + 1) 1, dgC lg bu v' x y (i + 1) 2] = gs → Q none G2 := fun F hP b1 b2 b3 b4 b5 => k _ (V1_mk (hX.papers F hP) (stdP_in hS hx) (by rw [hc]; decide) (by rw [hc]; decide) n1 n2 n3 b1 b2 b3 b4 b5 (r1 1) (r1 2)) F.fw2
    have std0 : stD lg v' x y (i + 1) = if baP lg i then mxI (stD lg v' x y i) (dyy lg i) else if num lg i 1 = 4 then (if stD lg v' x y i ≤ dyy lg i then -1 else stD lg v' x y i) else stD lg v' x y i := if_pos hp
    have hP0 := hX.2.2.2.2
    (repeat (first | refine Ex.go rfl rfl ?_ | refine Ex.gf rfl rfl (by assumption) (by rfl) (by first | rfl | assumption) ?_))
    try (first | refine Ex.le0 ?_ | refine Ex.ln0 ?_)
    (repeat (first | refine Ex.go rfl rfl ?_ | refine Ex.gf rfl rfl (by assumption) (by rfl) (by first | rfl | assumption) ?_))
    refine Ex.cv1 rfl rfl rfl hr (by rfl) (by decide) rfl ?_
    refine Cx.ratE hr ((im_n hi h4 (j := 4) (by omega)).trans hdy.symm) ?_
    (repeat (first | refine Ex.go rfl rfl ?_ | refine Ex.gf rfl rfl (by assumption) (by rfl) (by first | rfl | assumption) ?_))
    refine Ex.cv4 rfl rfl rfl g18 (by rfl) (by decide) rfl ?_
    refine pw_paper hP0 (fun hs G' hP F => ?_) (fun hs h2 G' hP F => ?_) (fun h2 h4' G' hP F => ?_) (fun h2 h5 G' hP F => ?_) (fun h3 h2 h4' h5 => ?_)
    · -- what stops
      have n5 : ¬ num lg i 1 = 5 := fun z => by rw [z] at hs; exact absurd hs (by rintro (q | q); exact absurd q (by decide); exact absurd q.1 (by decide))
      have ng : ∀ kd : Int32, kd = 0 ∨ kd = 1 ∨ kd = 2 → ¬ (goP lg (nI v') kd i ∧ stP lg x y i) := fun kd hk z => by
        obtain ⟨z1, z2⟩ := (gop kd).mp z
        rcases hs with q | q
        · rw [← z1, q] at hk
          exact absurd hk (by decide)
        · exact q.2 z2
      obtain ⟨o1, o2⟩ := own_no (lg := lg) (i := i) (v := v') (x := x) (y := y) (ow := ow) n5
      have k := fin F hP o1 o2 (std0.trans (if_pos hs)) (td_no (ng 2 (by decide))) (by rw [dg_no (ng 0 (by decide)), dg_no (ng 1 (by decide)), dg_no (ng 2 (by decide))])
      (repeat (first | refine Ex.go rfl rfl ?_ | refine Ex.gf rfl rfl (by assumption) (by rfl) (by first | rfl | assumption) ?_))
      refine Ex.ret rfl rfl rfl ?_
      exact k
    · -- a good one
      have n5 : ¬ num lg i 1 = 5 := fun z => by rw [z] at h2; exact absurd h2 (by decide)
      have n4 : ¬ num lg i 1 = 4 := fun z => by rw [z] at h2; exact absurd h2 (by decide)
      have hf : num lg i 3 = 0 := Decidable.byContradiction fun z => hs (Or.inr ⟨h2, z⟩)
      have e3 : stD lg v' x y (i + 1) = stD lg v' x y i := std0.trans ((if_neg hs).trans (if_neg n4))
      obtain ⟨o1, o2⟩ := own_no (lg := lg) (i := i) (v := v') (x := x) (y := y) (ow := ow) n5
      have ng : ∀ kd : Int32, ¬ num lg i 1 = kd → ¬ (goP lg (nI v') kd i ∧ stP lg x y i) := fun kd hk z => hk ((gop kd).mp z).1
      have yg : num lg i 1 = num lg i 1 → (goP lg (nI v') (num lg i 1) i ∧ stP lg x y i) := fun _ => (gop _).mpr ⟨rfl, hf⟩
      have h2' : (num lg i 1).toInt ≤ 2 := Int32.le_iff_toInt_le.mp h2
      have hk1 := hkd.1
      have k : Q none G' := by
        rcases (show (num lg i 1).toInt = 0 ∨ (num lg i 1).toInt = 1 ∨ (num lg i 1).toInt = 2 by omega) with q | q | q
        · have ek : num lg i 1 = 0 := Int32.toInt_inj.mp q
          have yg0 := (gop 0).mpr ⟨ek, hf⟩
          rw [ek] at hP
          refine fin F hP o1 o2 e3 (td_no (ng 2 (by rw [ek]; decide))) ?_
          rw [dg_s yg0 hb, dg_no (ng 1 (by rw [ek]; decide)), dg_no (ng 2 (by rw [ek]; decide))]
          rfl
        · have ek : num lg i 1 = 1 := Int32.toInt_inj.mp q
          have yg0 := (gop 1).mpr ⟨ek, hf⟩
          rw [ek] at hP
          refine fin F hP o1 o2 e3 (td_no (ng 2 (by rw [ek]; decide))) ?_
          rw [dg_s yg0 hb, dg_no (ng 0 (by rw [ek]; decide)), dg_no (ng 2 (by rw [ek]; decide))]
          rfl
        · have ek : num lg i 1 = 2 := Int32.toInt_inj.mp q
          have yg0 := (gop 2).mpr ⟨ek, hf⟩
          rw [ek] at hP
          refine fin F hP o1 o2 e3 (td_s yg0) ?_
          rw [dg_s yg0 hb, dg_no (ng 0 (by rw [ek]; decide)), dg_no (ng 1 (by rw [ek]; decide))]
          rfl
      (repeat (first | refine Ex.go rfl rfl ?_ | refine Ex.gf rfl rfl (by assumption) (by rfl) (by first | rfl | assumption) ?_))
      refine Ex.ret rfl rfl rfl ?_
      exact k
    · -- freed
      have n5 : ¬ num lg i 1 = 5 := fun z => by rw [z] at h4'; exact absurd h4' (by decide)
      have nb : ¬ baP lg i := fun z => z.elim (fun q => by rw [q] at h4'; exact absurd h4' (by decide)) fun q => h2 q.1
      have ng : ∀ kd : Int32, ¬ num lg i 1 = kd → ¬ (goP lg (nI v') kd i ∧ stP lg x y i) := fun kd hk z => hk ((gop kd).mp z).1
      obtain ⟨o1, o2⟩ := own_no (lg := lg) (i := i) (v := v') (x := x) (y := y) (ow := ow) n5
      have k := fin F hP o1 o2 (std0.trans ((if_neg nb).trans (if_pos h4'))) (td_no (ng 2 (by rw [h4']; decide))) (by rw [dg_no (ng 0 (by rw [h4']; decide)), dg_no (ng 1 (by rw [h4']; decide)), dg_no (ng 2 (by rw [h4']; decide))])
      (repeat (first | refine Ex.go rfl rfl ?_ | refine Ex.gf rfl rfl (by assumption) (by rfl) (by first | rfl | assumption) ?_))
      refine Ex.ret rfl rfl rfl ?_
      exact k
    · -- sold
      have n4 : ¬ num lg i 1 = 4 := fun z => by rw [z] at h5; exact absurd h5.1 (by decide)
      have nb : ¬ baP lg i := fun z => z.elim (fun q => by rw [q] at h5; exact absurd h5.1 (by decide)) fun q => h2 q.1
      have ng : ∀ kd : Int32, ¬ num lg i 1 = kd → ¬ (goP lg (nI v') kd i ∧ stP lg x y i) := fun kd hk z => hk ((gop kd).mp z).1
      obtain ⟨o1, o2⟩ := (own_s (ow := ow) hp h5.1 hd0).1 h5.2
      have k := fin F hP o1 o2 (std0.trans ((if_neg nb).trans (if_neg n4))) (td_no (ng 2 (by rw [h5.1]; decide))) (by rw [dg_no (ng 0 (by rw [h5.1]; decide)), dg_no (ng 1 (by rw [h5.1]; decide)), dg_no (ng 2 (by rw [h5.1]; decide))])
      (repeat (first | refine Ex.go rfl rfl ?_ | refine Ex.gf rfl rfl (by assumption) (by rfl) (by first | rfl | assumption) ?_))
      refine Ex.ret rfl rfl rfl ?_
      exact k
    · -- sold, but not later
      have hk5 : num lg i 1 = 5 := Int32.toInt_inj.mp (by
        have a1 : ¬ (num lg i 1).toInt = (3 : Int32).toInt := fun z => h3 (Int32.toInt_inj.mp z)
        have a2 : ¬ (num lg i 1).toInt ≤ (2 : Int32).toInt := fun z => h2 (Int32.le_iff_toInt_le.mpr z)
        have a3 : ¬ (num lg i 1).toInt = (4 : Int32).toInt := fun z => h4' (Int32.toInt_inj.mp z)
        have c3 : (3 : Int32).toInt = 3 := rfl
        have c2 : (2 : Int32).toInt = 2 := rfl
        have c4 : (4 : Int32).toInt = 4 := rfl
        have c5 : (5 : Int32).toInt = 5 := rfl
        have := hkd.2
        omega)
      have nb : ¬ baP lg i := fun z => z.elim h3 fun q => h2 q.1
      have ng : ∀ kd : Int32, ¬ num lg i 1 = kd → ¬ (goP lg (nI v') kd i ∧ stP lg x y i) := fun kd hk z => hk ((gop kd).mp z).1
      obtain ⟨o1, o2⟩ := (own_s (ow := ow) hp hk5 hd0).2 fun z => h5 ⟨hk5, z⟩
      have k := fin (FN.rfl' 18 4 G) hP0 o1 o2 (std0.trans ((if_neg nb).trans (if_neg h4'))) (td_no (ng 2 (by rw [hk5]; decide))) (by rw [dg_no (ng 0 (by rw [hk5]; decide)), dg_no (ng 1 (by rw [hk5]; decide)), dg_no (ng 2 (by rw [hk5]; decide))])
      (repeat (first | refine Ex.go rfl rfl ?_ | refine Ex.gf rfl rfl (by assumption) (by rfl) (by first | rfl | assumption) ?_))
      refine Ex.ret rfl rfl rfl ?_
      exact k
  · have np : ¬ paP lg v' x y i := fun z => hx z.2.2
    obtain ⟨q1, q2, q3, q4, q5⟩ := pap_same (ow := ow) (bu := bu) np
    obtain ⟨hX3, F3⟩ := hX.set12 (st' := mnI st (dyy lg i - 1))
    have k := k _ (V1_mk hX3 (stdP_out hS rfl hd0) (by rw [hc]; decide) (by rw [hc]; decide) n1 n2 n3 q1 q2 q3 q4 (dg3 np) (r1 1) (r1 2)) F3
    (repeat (first | refine Ex.go rfl rfl ?_ | refine Ex.gf rfl rfl (by assumption) (by rfl) (by first | rfl | assumption) ?_))
    try (first | refine Ex.le0 ?_ | refine Ex.ln0 ?_)
    (repeat (first | refine Ex.go rfl rfl ?_ | refine Ex.gf rfl rfl (by assumption) (by rfl) (by first | rfl | assumption) ?_))
    refine Ex.ret rfl rfl rfl ?_
    exact k
/-- a rule -/
theorem V1_11 (hX : VX G (psl lg i v).length a v y sf mk st (fun p => pvI lg i v p x y) (ssL lg i v x y) (dsL lg i v x y) (psL lg i v x) bu (owC lg ow v x y i) (soC lg v x y i) (stD lg v x y i) (tdC lg v x y i) (-1) (-1) [dgC lg bu v x y i 0, dgC lg bu v x y i 1, dgC lg bu v x y i 2] [ruC lg y i 1 0, ruC lg y i 1 1, ruC lg y i 1 2] [ruC lg y i 2 0, ruC lg y i 2 1, ruC lg y i 2 2]) (hS : stdP lg i v x st) (hw : wfE lg i) (he : ent lg i ≤ y) (hc : cod lg i = 11) (F : FN 18 4 G G1) (hP2 : PW G1 18 bu (owC lg ow v x y i) (soC lg v x y i) (stD lg v x y i) (tdC lg v x y i) (-1) (-1) [dgC lg bu v x y i 0, dgC lg bu v x y i 1, dgC lg bu v x y i 2] (bo_put [ruC lg y i 1 0, ruC lg y i 1 1, ruC lg y i 1 2] (num lg i 0) (num lg i 1)) (bo_put [ruC lg y i 2 0, ruC lg y i 2 1, ruC lg y i 2 2] (num lg i 0) (num lg i 2))) : V1 G1 lg (i + 1) v a x y sf mk bu ow := by
  have w := wf_c11 hw hc
  obtain ⟨-, hk, -⟩ := w
  have np : ¬ paP lg v x y i := fun z => absurd (z.1.1.symm.trans hc) (by decide)
  obtain ⟨q1, q2, q3, q4, q5⟩ := pap_same (ow := ow) (bu := bu) np
  obtain ⟨n1, n2, n3⟩ := vL_same (x := x) (y := y) (show ¬ (cod lg i = 8 ∧ num lg i 0 = nI v) from fun z => absurd (z.1.symm.trans hc) (by decide)) (fun w' _ z => absurd (z.1.1.symm.trans hc) (by decide))
  have hS2 := stdP_no hS fun z => by have := z.1.2; rw [hc] at this; exact absurd this (by decide)
  have rn : ∀ {m kd}, ¬ num lg i 0 = kd → ruC lg y (i + 1) m kd = ruC lg y i m kd := fun h => ru_no fun z => h z.2.1
  have rs : ∀ {m kd}, num lg i 0 = kd → ruC lg y (i + 1) m kd = num lg i m := fun h => ru_s ⟨hc, h, he⟩
  rcases (show (num lg i 0).toInt = 0 ∨ (num lg i 0).toInt = 1 ∨ (num lg i 0).toInt = 2 by have := hk.1; have := hk.2; omega) with q | q | q
  · have ek : num lg i 0 = 0 := Int32.toInt_inj.mp q
    rw [ek] at hP2
    refine V1_mk (hX.papers F hP2) hS2 (by rw [hc]; decide) (by rw [hc]; decide) n1 n2 n3 q1 q2 q3 q4 (dg3 np) ?_ ?_ <;> (rw [rs ek, rn (by rw [ek]; decide), rn (by rw [ek]; decide)]; rfl)
  · have ek : num lg i 0 = 1 := Int32.toInt_inj.mp q
    rw [ek] at hP2
    refine V1_mk (hX.papers F hP2) hS2 (by rw [hc]; decide) (by rw [hc]; decide) n1 n2 n3 q1 q2 q3 q4 (dg3 np) ?_ ?_ <;> (rw [rs ek, rn (by rw [ek]; decide), rn (by rw [ek]; decide)]; rfl)
  · have ek : num lg i 0 = 2 := Int32.toInt_inj.mp q
    rw [ek] at hP2
    refine V1_mk (hX.papers F hP2) hS2 (by rw [hc]; decide) (by rw [hc]; decide) n1 n2 n3 q1 q2 q3 q4 (dg3 np) ?_ ?_ <;> (rw [rs ek, rn (by rw [ek]; decide), rn (by rw [ek]; decide)]; rfl)
/-- an entry that tells nothing of the vessel -/
theorem V1_skip (h : V1 G lg i v a x y sf mk bu ow) (h11 : ¬ cod lg i = 11) (hn : ¬ ((2 ≤ (cod lg i).toInt ∧ (cod lg i).toInt ≤ 10) ∧ num lg i 0 = nI v)) : V1 G lg (i + 1) v a x y sf mk bu ow := by
  obtain ⟨st, hX, hS⟩ := h
  have nc : ∀ {c : Int32}, 2 ≤ c.toInt ∧ c.toInt ≤ 10 → ¬ (cod lg i = c ∧ num lg i 0 = nI v) := fun hc z => hn ⟨by rw [z.1]; exact hc, z.2⟩
  have np : ¬ paP lg v x y i := fun z => nc (by decide) z.1
  obtain ⟨q1, q2, q3, q4, q5⟩ := pap_same (ow := ow) (bu := bu) np
  obtain ⟨n1, n2, n3⟩ := vL_same (lg := lg) (i := i) (v := v) (x := x) (y := y) (nc (by decide)) (fun w' _ z => nc (by decide) ⟨z.1.1, z.1.2.1⟩)
  have ep : psl lg (i + 1) v = psl lg i v := by rw [psl_s, if_neg (nc (by decide)), List.append_nil]
  refine ⟨st, ?_, stdP_no hS fun z => hn ⟨⟨by have := z.1.1; omega, z.1.2⟩, z.2⟩⟩
  rw [ep, n1, n2, n3, q1, q2, q3, q4, dg3 np, ru3 h11, ru3 h11]
  exact hX.congr fun p hp => pvI_same hp (fun z => nc (by decide) ⟨z.1, z.2.1⟩) (fun z => nc (by decide) ⟨z.1.1, z.1.2.1⟩) (fun z => nc (by decide) ⟨z.1.1, z.1.2.1⟩) (fun z => nc (by decide) ⟨z.1.1, z.1.2.1⟩)
/-- a part -/
theorem v_ap2 (h : V1 G lg i v a x y sf mk bu ow) (hW : ∀ k, k < E → wfE lg k) (hi : i < E) (hE : E ≤ 6000) (h4 : (img lg E).length ≤ 40000) (hr : G[r]? = some (cR 40000 cap (img lg E))) (hrl : r < 12) (hv31 : v < 2 ^ 31) (hbu : bu = dyy lg (vat lg E v)) (h0 : num lg i 0 = nI v) (hc : cod lg i = 2) (k : ∀ G', V1 G' lg (i + 1) v a x y sf mk bu ow → FW G G' → Q none G') : Cx (d + 2) mX9_readPart [.ref 12, .ref r, .int (nI (posn lg i)), .int (nI (acl lg i).length), .int bu] G Q := by
  obtain ⟨st, hX, hS⟩ := h
  obtain ⟨v', hv', ev', w⟩ := wf_c2 (hW i hi) hc
  have e := v_nat (by omega) hv' hv31 ev' h0
  subst e
  have hnum : nums (cod lg i) = 6 := by rw [hc]; decide
  have hn24 : (psl lg i v').length < 24 := w.2.2.2.2.2.2.2
  have hdy : dyy lg i = bu := by rw [hbu, (vat_pre (lg := lg) (Nat.le_of_lt hi) hv').1]; exact w.2.2.2.2.2.2.1
  have en := pvI_new (x := x) (y := y) (fun j hj => hW j (by omega)) (by omega) hv31 rfl hc h0
  rw [hdy] at en
  have ep : psl lg (i + 1) v' = psl lg i v' ++ [i] := by rw [psl_s, if_pos ⟨hc, h0⟩]
  have el : (psl lg (i + 1) v').length = (psl lg i v').length + 1 := by rw [ep]; simp
  obtain ⟨⟨a1, a2, a3⟩, ⟨b1, b2, b3, b4, b5⟩, c1⟩ := V1_q (lg := lg) (i := i) (v := v') (x := x) (y := y) (bu := bu) (ow := ow) (by rw [hc]; decide) (by rw [hc]; decide) (by rw [hc]; decide) (by rw [hc]; decide)
  refine v_readPart hX hn24 hr hrl (im_n hi h4 (j := 1) (by omega)) (im_n hi h4 (j := 2) (by omega)) (im_n hi h4 (j := 3) (by omega)) (im_n hi h4 (j := 5) (by omega)) (im_n hi h4 (j := 4) (by omega)) (f' := fun p => pvI lg (i + 1) v' p x y) (pvI_no (by rw [hc]; decide)) en (fun G' hV F => ?_)
  refine k G' ⟨st, ?_, stdP_no hS fun z => by have := z.1.1; rw [hc] at this; exact absurd this (by decide)⟩ F
  rw [el, a1, a2, a3, b1, b2, b3, b4, b5, b5, b5, c1, c1, c1, c1, c1, c1]
  exact hV
end VV
