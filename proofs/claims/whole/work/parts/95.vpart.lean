/-! The class's view: an act of a part is read. -/
abbrev vaP (lg : Nat → Int32) (v k : Nat) : Prop := (4 ≤ (cod lg k).toInt ∧ (cod lg k).toInt ≤ 10) ∧ num lg k 0 = nI v
def stdP (lg : Nat → Int32) (i v : Nat) (x st : Int32) : Prop := ∀ k, k < i → vaP lg v k → dyy lg k ≤ x ∨ st < dyy lg k
def V1 (G : bo_G) (lg : Nat → Int32) (i v a : Nat) (x y sf mk bu ow : Int32) : Prop := ∃ st, VX G (psl lg i v).length a v y sf mk st (fun p => pvI lg i v p x y) (ssL lg i v x y) (dsL lg i v x y) (psL lg i v x) bu (owC lg ow v x y i) (soC lg v x y i) (stD lg v x y i) (tdC lg v x y i) (-1) (-1) [dgC lg bu v x y i 0, dgC lg bu v x y i 1, dgC lg bu v x y i 2] [ruC lg y i 1 0, ruC lg y i 1 1, ruC lg y i 1 2] [ruC lg y i 2 0, ruC lg y i 2 1, ruC lg y i 2 2] ∧ stdP lg i v x st
section VP
variable {d r cap a v i E : Nat} {G G1 : bo_G} {Q : Option Value → bo_G → Prop} {lg : Nat → Int32} {x y sf mk st bu ow : Int32}
theorem stdP_no (h : stdP lg i v x st) (hn : ¬ vaP lg v i) : stdP lg (i + 1) v x st := fun k hk z => by
  by_cases q : k = i
  · rw [q] at z; exact absurd z hn
  · exact h k (by omega) z
theorem stdP_in (h : stdP lg i v x st) (hn : dyy lg i ≤ x) : stdP lg (i + 1) v x st := fun k hk z => by
  by_cases q : k = i
  · rw [q]; exact Or.inl hn
  · exact h k (by omega) z
theorem mnI_le1 {a b : Int32} : (mnI a b).toInt ≤ a.toInt := by rw [mnI_toInt]; omega
theorem mnI_le2 {a b : Int32} : (mnI a b).toInt ≤ b.toInt := by rw [mnI_toInt]; omega
theorem stdP_out {dd : Int32} (h : stdP lg i v x st) (hd : dyy lg i = dd) (h0 : 0 ≤ dd.toInt) : stdP lg (i + 1) v x (mnI st (dd - 1)) := fun k hk z => by
  by_cases q : k = i
  · rw [q, hd]
    refine Or.inr (Int32.lt_iff_toInt_lt.mpr ?_)
    have e : (dd - 1).toInt = dd.toInt - 1 := z_sub rfl rfl (by have := Int32.toInt_lt dd; omega)
    have := mnI_le2 (a := st) (b := dd - 1)
    omega
  · rcases h k (by omega) z with h1 | h1
    · exact Or.inl h1
    · refine Or.inr (Int32.lt_iff_toInt_lt.mpr ?_)
      have := Int32.lt_iff_toInt_lt.mp h1
      have := mnI_le1 (a := st) (b := dd - 1)
      omega
theorem V1_q (h8 : ¬ cod lg i = 8) (h9 : ¬ cod lg i = 9) (h10 : ¬ cod lg i = 10) (h11 : ¬ cod lg i = 11) : (ssL lg (i + 1) v x y = ssL lg i v x y ∧ dsL lg (i + 1) v x y = dsL lg i v x y ∧ psL lg (i + 1) v x = psL lg i v x) ∧ (owC lg ow v x y (i + 1) = owC lg ow v x y i ∧ soC lg v x y (i + 1) = soC lg v x y i ∧ stD lg v x y (i + 1) = stD lg v x y i ∧ tdC lg v x y (i + 1) = tdC lg v x y i ∧ ∀ kd, dgC lg bu v x y (i + 1) kd = dgC lg bu v x y i kd) ∧ ∀ m kd, ruC lg y (i + 1) m kd = ruC lg y i m kd :=
  ⟨vL_same (fun z => h8 z.1) fun _ _ z => h9 z.1.1, pap_same fun z => h10 z.1.1, fun _ _ => ru_no fun z => h11 z.1⟩
/-- an act of a part behind it -/
theorem V1_p (h : VX G1 (psl lg i v).length a v y sf mk st (fun p => pvI lg (i + 1) v p x y) (ssL lg i v x y) (dsL lg i v x y) (psL lg i v x) bu (owC lg ow v x y i) (soC lg v x y i) (stD lg v x y i) (tdC lg v x y i) (-1) (-1) [dgC lg bu v x y i 0, dgC lg bu v x y i 1, dgC lg bu v x y i 2] [ruC lg y i 1 0, ruC lg y i 1 1, ruC lg y i 1 2] [ruC lg y i 2 0, ruC lg y i 2 1, ruC lg y i 2 2]) (hs : stdP lg (i + 1) v x st) (h2 : ¬ cod lg i = 2) (h8 : ¬ cod lg i = 8) (h9 : ¬ cod lg i = 9) (h10 : ¬ cod lg i = 10) (h11 : ¬ cod lg i = 11) : V1 G1 lg (i + 1) v a x y sf mk bu ow := by
  obtain ⟨⟨a1, a2, a3⟩, ⟨b1, b2, b3, b4, b5⟩, c1⟩ := V1_q (lg := lg) (i := i) (v := v) (x := x) (y := y) (bu := bu) (ow := ow) h8 h9 h10 h11
  have ep : psl lg (i + 1) v = psl lg i v := by rw [psl_s, if_neg (fun z => h2 z.1), List.append_nil]
  refine ⟨st, ?_, hs⟩
  rw [ep, a1, a2, a3, b1, b2, b3, b4, b5, b5, b5, c1, c1, c1, c1, c1, c1]
  exact h
theorem im_n (hi : i < E) (h4 : (img lg E).length ≤ 40000) {j : Nat} (hj : j < nums (cod lg i)) : bo_at (img lg E) (nI (posn lg i) + nI (j + 1)) = num lg i j := by
  have := img_bo (k := j + 1) hi h4 (by omega)
  rw [if_neg (by omega)] at this
  exact this
theorem im_c (hi : i < E) (h4 : (img lg E).length ≤ 40000) : bo_at (img lg E) (nI (posn lg i)) = cod lg i := by
  have := img_bo (k := 0) hi h4 (by omega)
  rw [if_pos rfl] at this
  rw [← this]
  congr 1
  exact (Int32.add_zero _).symm
theorem v_apA {lim np : Nat} {f : Nat → bo_C} {im ss ds ps gs ys os : List Int32} {so sd td md tm P act day c : Int32} {p : Nat} (h : VX G np a v y sf mk st f ss ds ps bu ow so sd td md tm gs ys os) (hn : np ≤ 24) (hp : p < np) (hr : G[r]? = some (cR lim cap im)) (e0 : bo_at im P = c) (e2 : bo_at im (P + 2) = nI p) (k : Ex (d + 1) mX9_readActOfPart (24, [(0, .ref 12), (1, .ref r), (2, .int P), (3, .int act), (4, .int day), (5, .ref (22 + 14 * p))], [.int c], G) Q) : Cx (d + 1) mX9_readActOfPart [.ref 12, .ref r, .int P, .int act, .int day] G Q := by
  have h0 := h.1
  refine Cx.body rfl rfl ?_
  (repeat (first | refine Ex.go rfl rfl ?_ | refine Ex.gf rfl rfl (by assumption) (by rfl) (by first | rfl | assumption) ?_))
  refine Ex.cv1 rfl rfl rfl hr (by rfl) (by decide) rfl ?_
  refine Cx.ratE hr e2 ?_
  (repeat (first | refine Ex.go rfl rfl ?_ | refine Ex.gf rfl rfl (by assumption) (by rfl) (by first | rfl | assumption) ?_))
  refine Ex.cv1 rfl rfl rfl h0 (by rfl) (by decide) rfl ?_
  refine v_partAt h0 h.2.1 rfl hn (fun z => absurd ⟨by rw [nI_toInt (by omega)]; omega, by rw [nI_toInt (by omega)]; omega⟩ z) (fun p' e1 _ hp' => ?_)
  have e3 : p = p' := (nI_eq (by omega) (by omega)).mp e1
  subst e3
  (repeat (first | refine Ex.go rfl rfl ?_ | refine Ex.gf rfl rfl (by assumption) (by rfl) (by first | rfl | assumption) ?_))
  refine Ex.cv1 rfl rfl rfl hr (by rfl) (by decide) rfl ?_
  refine Cx.ratE hr e0 ?_
  (repeat (first | exact k | refine Ex.go rfl rfl ?_ | refine Ex.gf rfl rfl (by assumption) (by rfl) (by first | rfl | assumption) ?_))
theorem psl_le2 (hW : ∀ j, j < E → wfE lg j) (hE : E ≤ 6000) (hi : i ≤ E) (hv : v < 2 ^ 31) : (psl lg i v).length ≤ 24 := psl_le (fun j hj => hW j (by omega)) (by omega) hv
theorem wsl_le2 (hW : ∀ j, j < E → wfE lg j) (hE : E ≤ 6000) (hi : i ≤ E) (hv : v < 2 ^ 31) : (wsl lg i v).length ≤ 6 := wsl_le (fun j hj => hW j (by omega)) (by omega) hv
theorem v_nat (hi : i ≤ 6000) {v' : Nat} (hv' : v' < (vsl lg i).length) (hv : v < 2 ^ 31) (e1 : num lg i 0 = nI v') (e2 : num lg i 0 = nI v) : v' = v := by
  have hl := sel_len i fun k => cod lg k == 1
  have hl : (vsl lg i).length ≤ i := hl
  exact (nI_eq (by omega) hv).mp (e1.symm.trans e2)
theorem p_nat (hi : i ≤ 6000) {p p' : Nat} (hp : p < (psl lg i v).length) (hp' : p' < (psl lg i v).length) (e : nI p = nI p') : p = p' := by
  have hl := sel_len i fun k => cod lg k == 2 && num lg k 0 == nI v
  have hl : (psl lg i v).length ≤ i := hl
  exact (nI_eq (by omega) (by omega)).mp e
/-- no act of another part -/
theorem pvI_oth (hi : i ≤ 6000) {p p' : Nat} (hp : p < (psl lg i v).length) (hp' : p' < (psl lg i v).length) (e : num lg i 1 = nI p) (hne : ¬ p' = p) : pvI lg (i + 1) v p' x y = pvI lg i v p' x y := by
  have no : ∀ c, ¬ isP lg c (nI v) (nI p') i := fun c z => hne (p_nat hi hp' hp (z.2.2.symm.trans e))
  exact pvI_same hp' (no 3) (fun z => no 5 z.1) (fun z => no 6 z.1) fun z => no 7 z.1
theorem v_ap3 (h : V1 G lg i v a x y sf mk bu ow) (hW : ∀ k, k < E → wfE lg k) (hi : i < E) (hE : E ≤ 6000) (h4 : (img lg E).length ≤ 40000) (hr : G[r]? = some (cR 40000 cap (img lg E))) (hrl : r < 12) (hv31 : v < 2 ^ 31) (he : ent lg i ≤ y) (h0 : num lg i 0 = nI v) (hc : cod lg i = 3) (k : ∀ G', V1 G' lg (i + 1) v a x y sf mk bu ow → FW G G' → Q none G') : Cx (d + 2) mX9_readActOfPart [.ref 12, .ref r, .int (nI (posn lg i)), .int (nI (acl lg i).length), .int x] G Q := by
  obtain ⟨st, hX, hS⟩ := h
  obtain ⟨v', hv', ev', p, hp, ep, w⟩ := wf_c3 (hW i hi) hc
  have e := v_nat (by omega) hv' hv31 ev' h0
  subst e
  have hnum : nums (cod lg i) = 5 := by rw [hc]; decide
  have hn24 := psl_le2 hW hE (Nat.le_of_lt hi) hv31
  obtain ⟨c, S, hic, hP, hcp⟩ := hX.2.2.1 p (by omega)
  rw [hcp hp] at hP
  have hP1 := hP.1
  unfold pvI at hP1
  have e5 := pvI_3 (x := x) hp ⟨hc, h0, ep⟩ he
  obtain ⟨hP2, F2⟩ := hP.setO (pvI lg (i + 1) v' p x y)
  have k := k _ (V1_p (hX.part (f' := fun p => pvI lg (i + 1) v' p x y) (by omega) F2 hP2 isPv_I (fun _ => rfl) fun p' h1 h2 => pvI_oth (by omega) hp h1 ep h2) (stdP_no hS fun z => by have := z.1.1; rw [hc] at this; exact absurd this (by decide)) (by rw [hc]; decide) (by rw [hc]; decide) (by rw [hc]; decide) (by rw [hc]; decide) (by rw [hc]; decide)) (F2.fw (by omega))
  rw [e5] at k
  refine v_apA hX hn24 hp hr (im_c hi h4) ((im_n hi h4 (j := 1) (by omega)).trans ep) ?_
  rw [hc]
  refine Ex.tsw 60 rfl rfl (by decide) ?_
  (repeat (first | refine Ex.go rfl rfl ?_ | refine Ex.gf rfl rfl (by assumption) (by rfl) (by first | rfl | assumption) ?_))
  refine Ex.cv2 rfl rfl rfl hP1 (by rfl) (by decide) rfl ?_
  refine pv_shape hP1 hr (by omega) (im_n hi h4 (j := 2) (by omega)) (im_n hi h4 (j := 3) (by omega)) (im_n hi h4 (j := 4) (by omega)) ?_
  (repeat (first | refine Ex.go rfl rfl ?_ | refine Ex.gf rfl rfl (by assumption) (by rfl) (by first | rfl | assumption) ?_))
  refine Ex.ret rfl rfl rfl ?_
  exact k
theorem v_ap4 (h : V1 G lg i v a x y sf mk bu ow) (hW : ∀ k, k < E → wfE lg k) (hi : i < E) (hE : E ≤ 6000) (h4 : (img lg E).length ≤ 40000) (hr : G[r]? = some (cR 40000 cap (img lg E))) (hrl : r < 12) (hv31 : v < 2 ^ 31) (he : ent lg i ≤ y) (h0 : num lg i 0 = nI v) (hc : cod lg i = 4) (k : ∀ G', V1 G' lg (i + 1) v a x y sf mk bu ow → FW G G' → Q none G') : Cx (d + 2) mX9_readActOfPart [.ref 12, .ref r, .int (nI (posn lg i)), .int (nI (acl lg i).length), .int x] G Q := by
  obtain ⟨st, hX, hS⟩ := h
  obtain ⟨v', hv', ev', p, hp, ep, w⟩ := wf_c4 (hW i hi) hc
  have e := v_nat (by omega) hv' hv31 ev' h0
  subst e
  have hnum : nums (cod lg i) = 15 := by rw [hc]; decide
  have hn24 := psl_le2 hW hE (Nat.le_of_lt hi) hv31
  have hd0 := (wf_day hW hi).1
  have hdy : dyy lg i = num lg i 2 := w.2.2.1
  have hX2 := hX.congr (f' := fun p => pvI lg (i + 1) v' p x y) fun p' h1 => pvI_same h1 (fun z => absurd (z.1.symm.trans hc) (by decide)) (fun z => absurd (z.1.1.symm.trans hc) (by decide)) (fun z => absurd (z.1.1.symm.trans hc) (by decide)) (fun z => absurd (z.1.1.symm.trans hc) (by decide))
  have mk2 : ∀ {G2 : bo_G} {st2 : Int32}, VX G2 (psl lg i v').length a v' y sf mk st2 (fun p => pvI lg (i + 1) v' p x y) (ssL lg i v' x y) (dsL lg i v' x y) (psL lg i v' x) bu (owC lg ow v' x y i) (soC lg v' x y i) (stD lg v' x y i) (tdC lg v' x y i) (-1) (-1) [dgC lg bu v' x y i 0, dgC lg bu v' x y i 1, dgC lg bu v' x y i 2] [ruC lg y i 1 0, ruC lg y i 1 1, ruC lg y i 1 2] [ruC lg y i 2 0, ruC lg y i 2 1, ruC lg y i 2 2] → stdP lg (i + 1) v' x st2 → V1 G2 lg (i + 1) v' a x y sf mk bu ow := fun hh hs => V1_p hh hs (by rw [hc]; decide) (by rw [hc]; decide) (by rw [hc]; decide) (by rw [hc]; decide) (by rw [hc]; decide)
  have g0 := hX.1
  refine v_apA hX hn24 hp hr (im_c hi h4) ((im_n hi h4 (j := 1) (by omega)).trans ep) ?_
  rw [hc]
  refine Ex.tsw 70 rfl rfl (by decide) ?_
  (repeat (first | refine Ex.go rfl rfl ?_ | refine Ex.gf rfl rfl (by assumption) (by rfl) (by first | rfl | assumption) ?_))
  refine Ex.cv1 rfl rfl rfl hr (by rfl) (by decide) rfl ?_
  refine Cx.ratE hr (im_n hi h4 (j := 2) (by omega)) ?_
  (repeat (first | refine Ex.go rfl rfl ?_ | refine Ex.gf rfl rfl (by assumption) (by rfl) (by first | rfl | assumption) ?_))
  refine Ex.cv2 rfl rfl rfl g0 (by rfl) (by decide) rfl ?_
  refine v_begins g0 (fun hb => ?_) (fun hb => ?_)
  · have k := k _ (mk2 hX2 (stdP_in hS (by rw [hdy]; exact hb))) (FW.rfl' G)
    (repeat (first | refine Ex.go rfl rfl ?_ | refine Ex.gf rfl rfl (by assumption) (by rfl) (by first | rfl | assumption) ?_))
    refine Ex.ret rfl rfl rfl ?_
    exact k
  · obtain ⟨hX3, F3⟩ := hX2.set12 (st' := mnI st (num lg i 2 - 1))
    have k := k _ (mk2 hX3 (stdP_out hS hdy (by rw [← hdy]; exact hd0))) F3
    (repeat (first | refine Ex.go rfl rfl ?_ | refine Ex.gf rfl rfl (by assumption) (by rfl) (by first | rfl | assumption) ?_))
    refine Ex.ret rfl rfl rfl ?_
    exact k
theorem v_ap5 (h : V1 G lg i v a x y sf mk bu ow) (hW : ∀ k, k < E → wfE lg k) (hi : i < E) (hE : E ≤ 6000) (h4 : (img lg E).length ≤ 40000) (hr : G[r]? = some (cR 40000 cap (img lg E))) (hrl : r < 12) (hv31 : v < 2 ^ 31) (he : ent lg i ≤ y) (h0 : num lg i 0 = nI v) (hc : cod lg i = 5) (k : ∀ G', V1 G' lg (i + 1) v a x y sf mk bu ow → FW G G' → Q none G') : Cx (d + 2) mX9_readActOfPart [.ref 12, .ref r, .int (nI (posn lg i)), .int (nI (acl lg i).length), .int x] G Q := by
  obtain ⟨st, hX, hS⟩ := h
  obtain ⟨v', hv', ev', p, hp, ep, w⟩ := wf_c5 (hW i hi) hc
  have e := v_nat (by omega) hv' hv31 ev' h0
  subst e
  have hnum : nums (cod lg i) = 6 := by rw [hc]; decide
  have hn24 := psl_le2 hW hE (Nat.le_of_lt hi) hv31
  have hd0 := (wf_day hW hi).1
  have hdy : dyy lg i = num lg i 5 := w.2.2.2.2.2
  have mk2 : ∀ {G2 : bo_G} {st2 : Int32}, VX G2 (psl lg i v').length a v' y sf mk st2 (fun p => pvI lg (i + 1) v' p x y) (ssL lg i v' x y) (dsL lg i v' x y) (psL lg i v' x) bu (owC lg ow v' x y i) (soC lg v' x y i) (stD lg v' x y i) (tdC lg v' x y i) (-1) (-1) [dgC lg bu v' x y i 0, dgC lg bu v' x y i 1, dgC lg bu v' x y i 2] [ruC lg y i 1 0, ruC lg y i 1 1, ruC lg y i 1 2] [ruC lg y i 2 0, ruC lg y i 2 1, ruC lg y i 2 2] → stdP lg (i + 1) v' x st2 → V1 G2 lg (i + 1) v' a x y sf mk bu ow := fun hh hs => V1_p hh hs (by rw [hc]; decide) (by rw [hc]; decide) (by rw [hc]; decide) (by rw [hc]; decide) (by rw [hc]; decide)
  have g0 := hX.1
  refine v_apA hX hn24 hp hr (im_c hi h4) ((im_n hi h4 (j := 1) (by omega)).trans ep) ?_
  rw [hc]
  refine Ex.tsw 87 rfl rfl (by decide) ?_
  (repeat (first | refine Ex.go rfl rfl ?_ | refine Ex.gf rfl rfl (by assumption) (by rfl) (by first | rfl | assumption) ?_))
  refine Ex.cv1 rfl rfl rfl hr (by rfl) (by decide) rfl ?_
  refine Cx.ratE hr (im_n hi h4 (j := 5) (by omega)) ?_
  (repeat (first | refine Ex.go rfl rfl ?_ | refine Ex.gf rfl rfl (by assumption) (by rfl) (by first | rfl | assumption) ?_))
  refine Ex.cv2 rfl rfl rfl g0 (by rfl) (by decide) rfl ?_
  refine v_begins g0 (fun hb => ?_) (fun hb => ?_)
  · have hx : dyy lg i ≤ x := by rw [hdy]; exact hb
    obtain ⟨c, S, hic, hP, hcp⟩ := hX.2.2.1 p (by omega)
    rw [hcp hp] at hP
    have hP1 := hP.1
    unfold pvI at hP1
    have e5 := pvI_5 (x := x) (y := y) hp ⟨hc, h0, ep⟩ ⟨he, hx⟩ hd0
    rw [hdy] at e5
    obtain ⟨hP2, F2⟩ := hP.setO (pvI lg (i + 1) v' p x y)
    have k := k _ (mk2 (hX.part (f' := fun p => pvI lg (i + 1) v' p x y) (by omega) F2 hP2 isPv_I (fun _ => rfl) fun p' h1 h2 => pvI_oth (by omega) hp h1 ep h2) (stdP_in hS hx)) (F2.fw (by omega))
    rw [e5] at k
    (repeat (first | refine Ex.go rfl rfl ?_ | refine Ex.gf rfl rfl (by assumption) (by rfl) (by first | rfl | assumption) ?_))
    try (first | refine Ex.le0 ?_ | refine Ex.ln0 ?_)
    (repeat (first | refine Ex.go rfl rfl ?_ | refine Ex.gf rfl rfl (by assumption) (by rfl) (by first | rfl | assumption) ?_))
    refine Ex.cv1 rfl rfl rfl hr (by rfl) (by decide) rfl ?_
    refine Cx.ratE hr (im_n hi h4 (j := 5) (by omega)) ?_
    (repeat (first | refine Ex.go rfl rfl ?_ | refine Ex.gf rfl rfl (by assumption) (by rfl) (by first | rfl | assumption) ?_))
    refine Ex.cv3 rfl rfl rfl hP1 (by rfl) (by decide) rfl ?_
    refine pv_patch hP1 hr (by omega) (im_n hi h4 (j := 2) (by omega)) (im_n hi h4 (j := 3) (by omega)) (im_n hi h4 (j := 4) (by omega)) ?_
    (repeat (first | refine Ex.go rfl rfl ?_ | refine Ex.gf rfl rfl (by assumption) (by rfl) (by first | rfl | assumption) ?_))
    refine Ex.ret rfl rfl rfl ?_
    exact k
  · have hX2 := hX.congr (f' := fun p => pvI lg (i + 1) v' p x y) fun p' h1 => pvI_same h1 (fun z => absurd (z.1.symm.trans hc) (by decide)) (fun z => hb (by rw [← hdy]; exact z.2.2)) (fun z => absurd (z.1.1.symm.trans hc) (by decide)) (fun z => absurd (z.1.1.symm.trans hc) (by decide))
    obtain ⟨hX3, F3⟩ := hX2.set12 (st' := mnI st (num lg i 5 - 1))
    have k := k _ (mk2 hX3 (stdP_out hS hdy (by rw [← hdy]; exact hd0))) F3
    (repeat (first | refine Ex.go rfl rfl ?_ | refine Ex.gf rfl rfl (by assumption) (by rfl) (by first | rfl | assumption) ?_))
    try (first | refine Ex.le0 ?_ | refine Ex.ln0 ?_)
    (repeat (first | refine Ex.go rfl rfl ?_ | refine Ex.gf rfl rfl (by assumption) (by rfl) (by first | rfl | assumption) ?_))
    refine Ex.ret rfl rfl rfl ?_
    exact k
theorem v_ap6 (h : V1 G lg i v a x y sf mk bu ow) (hW : ∀ k, k < E → wfE lg k) (hi : i < E) (hE : E ≤ 6000) (h4 : (img lg E).length ≤ 40000) (hr : G[r]? = some (cR 40000 cap (img lg E))) (hrl : r < 12) (hv31 : v < 2 ^ 31) (he : ent lg i ≤ y) (h0 : num lg i 0 = nI v) (hc : cod lg i = 6) (k : ∀ G', V1 G' lg (i + 1) v a x y sf mk bu ow → FW G G' → Q none G') : Cx (d + 2) mX9_readActOfPart [.ref 12, .ref r, .int (nI (posn lg i)), .int (nI (acl lg i).length), .int x] G Q := by
  obtain ⟨st, hX, hS⟩ := h
  obtain ⟨v', hv', ev', p, hp, ep, w⟩ := wf_c6 (hW i hi) hc
  have e := v_nat (by omega) hv' hv31 ev' h0
  subst e
  have hnum : nums (cod lg i) = 4 := by rw [hc]; decide
  have hn24 := psl_le2 hW hE (Nat.le_of_lt hi) hv31
  have hd0 := (wf_day hW hi).1
  have hdy : dyy lg i = num lg i 3 := w.2.2.2
  have mk2 : ∀ {G2 : bo_G} {st2 : Int32}, VX G2 (psl lg i v').length a v' y sf mk st2 (fun p => pvI lg (i + 1) v' p x y) (ssL lg i v' x y) (dsL lg i v' x y) (psL lg i v' x) bu (owC lg ow v' x y i) (soC lg v' x y i) (stD lg v' x y i) (tdC lg v' x y i) (-1) (-1) [dgC lg bu v' x y i 0, dgC lg bu v' x y i 1, dgC lg bu v' x y i 2] [ruC lg y i 1 0, ruC lg y i 1 1, ruC lg y i 1 2] [ruC lg y i 2 0, ruC lg y i 2 1, ruC lg y i 2 2] → stdP lg (i + 1) v' x st2 → V1 G2 lg (i + 1) v' a x y sf mk bu ow := fun hh hs => V1_p hh hs (by rw [hc]; decide) (by rw [hc]; decide) (by rw [hc]; decide) (by rw [hc]; decide) (by rw [hc]; decide)
  have g0 := hX.1
  refine v_apA hX hn24 hp hr (im_c hi h4) ((im_n hi h4 (j := 1) (by omega)).trans ep) ?_
  rw [hc]
  refine Ex.tsw 122 rfl rfl (by decide) ?_
  (repeat (first | refine Ex.go rfl rfl ?_ | refine Ex.gf rfl rfl (by assumption) (by rfl) (by first | rfl | assumption) ?_))
  refine Ex.cv1 rfl rfl rfl hr (by rfl) (by decide) rfl ?_
  refine Cx.ratE hr (im_n hi h4 (j := 3) (by omega)) ?_
  (repeat (first | refine Ex.go rfl rfl ?_ | refine Ex.gf rfl rfl (by assumption) (by rfl) (by first | rfl | assumption) ?_))
  refine Ex.cv2 rfl rfl rfl g0 (by rfl) (by decide) rfl ?_
  refine v_begins g0 (fun hb => ?_) (fun hb => ?_)
  · have hx : dyy lg i ≤ x := by rw [hdy]; exact hb
    obtain ⟨c, S, hic, hP, hcp⟩ := hX.2.2.1 p (by omega)
    rw [hcp hp] at hP
    have hP1 := hP.1
    unfold pvI at hP1
    have e5 := pvI_6 (x := x) (y := y) hp ⟨hc, h0, ep⟩ ⟨he, hx⟩ hd0
    rw [hdy] at e5
    obtain ⟨hP2, F2⟩ := hP.setO (pvI lg (i + 1) v' p x y)
    have k := k _ (mk2 (hX.part (f' := fun p => pvI lg (i + 1) v' p x y) (by omega) F2 hP2 isPv_I (fun _ => rfl) fun p' h1 h2 => pvI_oth (by omega) hp h1 ep h2) (stdP_in hS hx)) (F2.fw (by omega))
    rw [e5] at k
    (repeat (first | refine Ex.go rfl rfl ?_ | refine Ex.gf rfl rfl (by assumption) (by rfl) (by first | rfl | assumption) ?_))
    try (first | refine Ex.le0 ?_ | refine Ex.ln0 ?_)
    (repeat (first | refine Ex.go rfl rfl ?_ | refine Ex.gf rfl rfl (by assumption) (by rfl) (by first | rfl | assumption) ?_))
    refine Ex.cv1 rfl rfl rfl hr (by rfl) (by decide) rfl ?_
    refine Cx.ratE hr (im_n hi h4 (j := 2) (by omega)) ?_
    (repeat (first | refine Ex.go rfl rfl ?_ | refine Ex.gf rfl rfl (by assumption) (by rfl) (by first | rfl | assumption) ?_))
    refine Ex.cv1 rfl rfl rfl hr (by rfl) (by decide) rfl ?_
    refine Cx.ratE hr (im_n hi h4 (j := 3) (by omega)) ?_
    (repeat (first | refine Ex.go rfl rfl ?_ | refine Ex.gf rfl rfl (by assumption) (by rfl) (by first | rfl | assumption) ?_))
    refine Ex.cv3 rfl rfl rfl hP1 (by rfl) (by decide) rfl ?_
    refine pv_plate hP1 ?_
    (repeat (first | refine Ex.go rfl rfl ?_ | refine Ex.gf rfl rfl (by assumption) (by rfl) (by first | rfl | assumption) ?_))
    refine Ex.ret rfl rfl rfl ?_
    exact k
  · have hX2 := hX.congr (f' := fun p => pvI lg (i + 1) v' p x y) fun p' h1 => pvI_same h1 (fun z => absurd (z.1.symm.trans hc) (by decide)) (fun z => absurd (z.1.1.symm.trans hc) (by decide)) (fun z => hb (by rw [← hdy]; exact z.2.2)) (fun z => absurd (z.1.1.symm.trans hc) (by decide))
    obtain ⟨hX3, F3⟩ := hX2.set12 (st' := mnI st (num lg i 3 - 1))
    have k := k _ (mk2 hX3 (stdP_out hS hdy (by rw [← hdy]; exact hd0))) F3
    (repeat (first | refine Ex.go rfl rfl ?_ | refine Ex.gf rfl rfl (by assumption) (by rfl) (by first | rfl | assumption) ?_))
    try (first | refine Ex.le0 ?_ | refine Ex.ln0 ?_)
    (repeat (first | refine Ex.go rfl rfl ?_ | refine Ex.gf rfl rfl (by assumption) (by rfl) (by first | rfl | assumption) ?_))
    refine Ex.ret rfl rfl rfl ?_
    exact k
theorem v_ap7 (h : V1 G lg i v a x y sf mk bu ow) (hW : ∀ k, k < E → wfE lg k) (hi : i < E) (hE : E ≤ 6000) (h4 : (img lg E).length ≤ 40000) (hr : G[r]? = some (cR 40000 cap (img lg E))) (hrl : r < 12) (hv31 : v < 2 ^ 31) (he : ent lg i ≤ y) (h0 : num lg i 0 = nI v) (hc : cod lg i = 7) (k : ∀ G', V1 G' lg (i + 1) v a x y sf mk bu ow → FW G G' → Q none G') : Cx (d + 2) mX9_readActOfPart [.ref 12, .ref r, .int (nI (posn lg i)), .int (nI (acl lg i).length), .int x] G Q := by
  obtain ⟨st, hX, hS⟩ := h
  obtain ⟨v', hv', ev', p, hp, ep, w⟩ := wf_c7 (hW i hi) hc
  have e := v_nat (by omega) hv' hv31 ev' h0
  subst e
  have hnum : nums (cod lg i) = 4 := by rw [hc]; decide
  have hn24 := psl_le2 hW hE (Nat.le_of_lt hi) hv31
  have hd0 := (wf_day hW hi).1
  have hdy : dyy lg i = num lg i 3 := w.2.2.2.2
  have mk2 : ∀ {G2 : bo_G} {st2 : Int32}, VX G2 (psl lg i v').length a v' y sf mk st2 (fun p => pvI lg (i + 1) v' p x y) (ssL lg i v' x y) (dsL lg i v' x y) (psL lg i v' x) bu (owC lg ow v' x y i) (soC lg v' x y i) (stD lg v' x y i) (tdC lg v' x y i) (-1) (-1) [dgC lg bu v' x y i 0, dgC lg bu v' x y i 1, dgC lg bu v' x y i 2] [ruC lg y i 1 0, ruC lg y i 1 1, ruC lg y i 1 2] [ruC lg y i 2 0, ruC lg y i 2 1, ruC lg y i 2 2] → stdP lg (i + 1) v' x st2 → V1 G2 lg (i + 1) v' a x y sf mk bu ow := fun hh hs => V1_p hh hs (by rw [hc]; decide) (by rw [hc]; decide) (by rw [hc]; decide) (by rw [hc]; decide) (by rw [hc]; decide)
  have g0 := hX.1
  refine v_apA hX hn24 hp hr (im_c hi h4) ((im_n hi h4 (j := 1) (by omega)).trans ep) ?_
  rw [hc]
  refine Ex.tsw 161 rfl rfl (by decide) ?_
  (repeat (first | refine Ex.go rfl rfl ?_ | refine Ex.gf rfl rfl (by assumption) (by rfl) (by first | rfl | assumption) ?_))
  refine Ex.cv1 rfl rfl rfl hr (by rfl) (by decide) rfl ?_
  refine Cx.ratE hr (im_n hi h4 (j := 3) (by omega)) ?_
  (repeat (first | refine Ex.go rfl rfl ?_ | refine Ex.gf rfl rfl (by assumption) (by rfl) (by first | rfl | assumption) ?_))
  refine Ex.cv2 rfl rfl rfl g0 (by rfl) (by decide) rfl ?_
  refine v_begins g0 (fun hb => ?_) (fun hb => ?_)
  · have hx : dyy lg i ≤ x := by rw [hdy]; exact hb
    obtain ⟨c, S, hic, hP, hcp⟩ := hX.2.2.1 p (by omega)
    rw [hcp hp] at hP
    have hP1 := hP.1
    unfold pvI at hP1
    have e5 := pvI_7 (x := x) (y := y) hp ⟨hc, h0, ep⟩ ⟨he, hx⟩ hd0
    rw [hdy] at e5
    obtain ⟨hP2, F2⟩ := hP.setO (pvI lg (i + 1) v' p x y)
    have k := k _ (mk2 (hX.part (f' := fun p => pvI lg (i + 1) v' p x y) (by omega) F2 hP2 isPv_I (fun _ => rfl) fun p' h1 h2 => pvI_oth (by omega) hp h1 ep h2) (stdP_in hS hx)) (F2.fw (by omega))
    rw [e5] at k
    (repeat (first | refine Ex.go rfl rfl ?_ | refine Ex.gf rfl rfl (by assumption) (by rfl) (by first | rfl | assumption) ?_))
    try (first | refine Ex.le0 ?_ | refine Ex.ln0 ?_)
    (repeat (first | refine Ex.go rfl rfl ?_ | refine Ex.gf rfl rfl (by assumption) (by rfl) (by first | rfl | assumption) ?_))
    refine Ex.cv1 rfl rfl rfl hr (by rfl) (by decide) rfl ?_
    refine Cx.ratE hr (im_n hi h4 (j := 2) (by omega)) ?_
    (repeat (first | refine Ex.go rfl rfl ?_ | refine Ex.gf rfl rfl (by assumption) (by rfl) (by first | rfl | assumption) ?_))
    refine Ex.cv1 rfl rfl rfl hr (by rfl) (by decide) rfl ?_
    refine Cx.ratE hr (im_n hi h4 (j := 3) (by omega)) ?_
    (repeat (first | refine Ex.go rfl rfl ?_ | refine Ex.gf rfl rfl (by assumption) (by rfl) (by first | rfl | assumption) ?_))
    refine Ex.cv2 rfl rfl rfl hP1 (by rfl) (by decide) rfl ?_
    refine pv_plug hP1 ?_
    (repeat (first | refine Ex.go rfl rfl ?_ | refine Ex.gf rfl rfl (by assumption) (by rfl) (by first | rfl | assumption) ?_))
    refine Ex.ret rfl rfl rfl ?_
    exact k
  · have hX2 := hX.congr (f' := fun p => pvI lg (i + 1) v' p x y) fun p' h1 => pvI_same h1 (fun z => absurd (z.1.symm.trans hc) (by decide)) (fun z => absurd (z.1.1.symm.trans hc) (by decide)) (fun z => absurd (z.1.1.symm.trans hc) (by decide)) (fun z => hb (by rw [← hdy]; exact z.2.2))
    obtain ⟨hX3, F3⟩ := hX2.set12 (st' := mnI st (num lg i 3 - 1))
    have k := k _ (mk2 hX3 (stdP_out hS hdy (by rw [← hdy]; exact hd0))) F3
    (repeat (first | refine Ex.go rfl rfl ?_ | refine Ex.gf rfl rfl (by assumption) (by rfl) (by first | rfl | assumption) ?_))
    try (first | refine Ex.le0 ?_ | refine Ex.ln0 ?_)
    (repeat (first | refine Ex.go rfl rfl ?_ | refine Ex.gf rfl rfl (by assumption) (by rfl) (by first | rfl | assumption) ?_))
    refine Ex.ret rfl rfl rfl ?_
    exact k
theorem v_actPart (h : V1 G lg i v a x y sf mk bu ow) (hW : ∀ k, k < E → wfE lg k) (hi : i < E) (hE : E ≤ 6000) (h4 : (img lg E).length ≤ 40000) (hr : G[r]? = some (cR 40000 cap (img lg E))) (hrl : r < 12) (hv31 : v < 2 ^ 31) (he : ent lg i ≤ y) (h0 : num lg i 0 = nI v) (hc : cod lg i = 3 ∨ cod lg i = 4 ∨ cod lg i = 5 ∨ cod lg i = 6 ∨ cod lg i = 7) (k : ∀ G', V1 G' lg (i + 1) v a x y sf mk bu ow → FW G G' → Q none G') : Cx (d + 2) mX9_readActOfPart [.ref 12, .ref r, .int (nI (posn lg i)), .int (nI (acl lg i).length), .int x] G Q := by
  rcases hc with hc | hc | hc | hc | hc
  · exact v_ap3 h hW hi hE h4 hr hrl hv31 he h0 hc k
  · exact v_ap4 h hW hi hE h4 hr hrl hv31 he h0 hc k
  · exact v_ap5 h hW hi hE h4 hr hrl hv31 he h0 hc k
  · exact v_ap6 h hW hi hE h4 hr hrl hv31 he h0 hc k
  · exact v_ap7 h hW hi hE h4 hr hrl hv31 he h0 hc k
end VP
