/-! The class's view: rows begun, the acts read again. -/
def tmC (lg : Nat → Int32) (v x y td : Int32) : Nat → Int32
  | 0 => -1
  | i + 1 => if meP lg v i ∧ stP lg x y i then (if dyy lg i ≤ td then mxI (tmC lg v x y td i) (dyy lg i) else tmC lg v x y td i) else tmC lg v x y td i
def V2 (G : bo_G) (lg : Nat → Int32) (n i v a : Nat) (x y sf mk bu ow st : Int32) : Prop := VX G (psl lg n v).length a v y sf mk st (fun p => pvI lg n v p x y) (ssL lg n v x y) (dsL lg n v x y) (psL lg n v x) bu (owC lg ow v x y n) (soC lg v x y n) (stD lg v x y n) (tdC lg v x y n) (mnd lg (nI v) x y i) (tmC lg (nI v) x y (tdC lg v x y n) i) [dgC lg bu v x y n 0, dgC lg bu v x y n 1, dgC lg bu v x y n 2] [ruC lg y n 1 0, ruC lg y n 1 1, ruC lg y n 1 2] [ruC lg y n 2 0, ruC lg y n 2 1, ruC lg y n 2 2] ∧ ∀ p, p < (psl lg n v).length → PV G (22 + 14 * p) (pvI lg n v p x y) (fun s => spF lg (plt lg n v p x y) (nI v) (nI p) x y s i)
section VG
variable {d r cap a v i n E : Nat} {G G1 : bo_G} {Q : Option Value → bo_G → Prop} {us : List Nat} {lg : Nat → Int32} {ke x y sf mk st bu ow : Int32}
/-- all spots of the parts begun -/
theorem v_rowsL {lim : Nat} {act : Int32} {z2 z3 z4 z5 : Value} (hn24 : (psl lg n v).length ≤ 24) {td md tm : Int32} {gs ys os ss ds ps : List Int32} {o so sd : Int32} (k : ∀ G', VX G' (psl lg n v).length a v y sf mk st (fun p => pvI lg n v p x y) ss ds ps bu o so sd td md tm gs ys os → (∀ p, p < (psl lg n v).length → PV G' (22 + 14 * p) (pvI lg n v p x y) (fun s => spF lg (plt lg n v p x y) (nI v) (nI p) x y s 0)) → FW G G' → ∀ b, Ex (d + 2) mX9_readActs (206, [(0, .ref 12), (1, z2), (2, z3), (3, z4), (4, z5), (5, .int act), (6, .int b)], [], G') Q) : ∀ (e j : Nat) (b : Int32) (G1 : bo_G), j + e = (psl lg n v).length → b = nI j → VX G1 (psl lg n v).length a v y sf mk st (fun p => pvI lg n v p x y) ss ds ps bu o so sd td md tm gs ys os → (∀ p, p < j → PV G1 (22 + 14 * p) (pvI lg n v p x y) (fun s => spF lg (plt lg n v p x y) (nI v) (nI p) x y s 0)) → FW G G1 → Ex (d + 2) mX9_readActs (171, [(0, .ref 12), (1, z2), (2, z3), (3, z4), (4, z5), (5, .int act), (6, .int b)], [], G1) Q := by
  intro e
  induction e with
  | zero =>
    intro j b G1 hj hb hX hP F
    have hjn : j = (psl lg n v).length := by omega
    have k := k G1 hX (by rw [← hjn]; exact hP) F b
    have g0 := hX.1
    have hb2 : nI (psl lg n v).length ≤ b := by rw [hb, hjn]; exact Int32.le_refl _
    clear hb
    (repeat (first | refine Ex.go rfl rfl ?_ | refine Ex.gf rfl rfl (by assumption) (by rfl) (by first | rfl | assumption) ?_))
    refine Ex.br (fun c1 => ?_) (fun c1 => ?_); rotate_left
    · exact absurd hb2 c1
    (repeat (first | exact k | refine Ex.go rfl rfl ?_ | refine Ex.gf rfl rfl (by assumption) (by rfl) (by first | rfl | assumption) ?_))
  | succ e ih =>
    intro j b G1 hj hb hX hP F
    have g0 := hX.1
    have hq := hX.2.1
    obtain ⟨c, S, hic, hPj, hcj⟩ := hX.2.2.1 j (by omega)
    rw [hcj (by omega)] at hPj
    have hPj1 := hPj
    unfold pvI at hPj1
    have h0 := hPj1.1
    (repeat (first | refine Ex.go rfl rfl ?_ | refine Ex.gf rfl rfl (by assumption) (by rfl) (by first | rfl | assumption) ?_))
    refine Ex.br (fun c1 => ?_) (fun c1 => ?_)
    · rw [hb, nI_leI (by omega) (by omega)] at c1
      omega
    (repeat (first | refine Ex.go rfl rfl ?_ | refine Ex.gf rfl rfl (by assumption) (by rfl) (by first | rfl | assumption) ?_))
    refine Ex.alq rfl hq ?_
    (repeat (first | refine Ex.go rfl rfl ?_ | refine Ex.gf rfl rfl (by assumption) (by rfl) (by first | rfl | assumption) ?_))
    refine Ex.br (fun c2 => ?_) (fun c2 => ?_)
    · have c3 : nI 24 ≤ b := c2
      rw [hb, nI_leI (by omega) (by omega)] at c3
      omega
    (repeat (first | refine Ex.go rfl rfl ?_ | refine Ex.gf rfl rfl (by assumption) (by rfl) (by first | rfl | assumption) ?_))
    refine Ex.aavw rfl hb hq (by omega) ?_
    (repeat (first | refine Ex.go rfl rfl ?_ | refine Ex.gf rfl rfl (by assumption) (by rfl) (by first | rfl | assumption) ?_))
    refine Ex.cv0 rfl rfl rfl h0 (by rfl) (by decide) rfl ?_
    refine pv_rows hPj1 (fun G2 hP2 F2 => ?_)
    have hP3 : PV G2 (22 + 14 * j) (pvI lg n v j x y) (fun s => spF lg (plt lg n v j x y) (nI v) (nI j) x y s 0) := hP2
    have nx := ih (j + 1) (b + 1) G2 (by omega) (by rw [hb]; exact nI_1 j) (hX.part (f' := fun p => pvI lg n v p x y) (by omega) F2 hP3 isPv_I (fun _ => rfl) fun _ _ _ => rfl) (fun p hp => by
      by_cases q : p = j
      · rw [q]; exact hP3
      · exact (hP p (by omega)).of (fun j' h1 h2 => F2.2 j' (by omega)) fun _ _ => rfl) (F.trans (F2.fw (by omega)))
    (repeat (first | exact nx | refine Ex.go rfl rfl ?_ | refine Ex.gf rfl rfl (by assumption) (by rfl) (by first | rfl | assumption) ?_))
theorem acl_lt {j : Nat} (hi : i < 2 ^ 31) (hj : j < 2 ^ 31) (hc : ¬ cod lg i = 0) : nI (acl lg i).length < nI (acl lg j).length ↔ i < j := by
  have hal : ∀ i, (acl lg i).length ≤ i := fun i => sel_len i fun i => !(cod lg i == 0)
  have h1 := hal i
  have h2 := hal j
  have e : nI (acl lg i).length < nI (acl lg j).length ↔ (acl lg i).length < (acl lg j).length := by
    rw [← Int32.not_le, nI_leI (by omega) (by omega)]
    omega
  rw [e]
  have e3 : acl lg (i + 1) = acl lg i ++ [i] := by rw [acl_s, if_neg hc]
  constructor
  · intro h
    by_cases q : i < j
    · exact q
    · obtain ⟨r, hr⟩ := sel_pre (P := fun i => !(cod lg i == 0)) (show j ≤ i by omega)
      have hr : acl lg i = acl lg j ++ r := hr
      rw [hr, List.length_append] at h
      omega
  · intro h
    obtain ⟨r, hr⟩ := sel_pre (P := fun i => !(cod lg i == 0)) (show i + 1 ≤ j by omega)
    have hr : acl lg j = acl lg (i + 1) ++ r := hr
    rw [hr, e3]
    simp
/-- an entry that is no measure and no mend of the vessel -/
theorem V2_skip (h : V2 G lg n i v a x y sf mk bu ow st) (h4 : ¬ (cod lg i = 4 ∧ num lg i 0 = nI v)) (h5 : ¬ meP lg (nI v) i) : V2 G lg n (i + 1) v a x y sf mk bu ow st := by
  obtain ⟨hX, hP⟩ := h
  have e1 : mnd lg (nI v) x y (i + 1) = mnd lg (nI v) x y i := if_neg fun z => h5 z.1
  have e2 : tmC lg (nI v) x y (tdC lg v x y n) (i + 1) = tmC lg (nI v) x y (tdC lg v x y n) i := if_neg fun z => h5 z.1
  refine ⟨by rw [e1, e2]; exact hX, fun p hp => (hP p hp).eS fun s _ => if_neg fun z => h4 ⟨z.1.1.1, z.1.1.2.1⟩⟩
/-- a measure read again -/
theorem v_ra4 (h : V2 G lg n i v a x y sf mk bu ow st) (hW : ∀ k, k < E → wfE lg k) (hn : n ≤ E) (hi : i < n) (hE : E ≤ 6000) (h4 : (img lg E).length ≤ 40000) (hr : G[r]? = some (cR 40000 cap (img lg E))) (hrl : r < 12) (hv31 : v < 2 ^ 31) (he : ent lg i ≤ y) (h0 : num lg i 0 = nI v) (hc : cod lg i = 4) (k : ∀ G', V2 G' lg n (i + 1) v a x y sf mk bu ow st → FW G G' → Q none G') : Cx (d + 2) mX9_readAgain [.ref 12, .ref r, .int (nI (posn lg i)), .int (nI (acl lg i).length), .int x] G Q := by
  have hiE : i < E := by omega
  obtain ⟨v', hv', ev', p, hp, ep, w⟩ := wf_c4 (hW i hiE) hc
  have e := v_nat (by omega) hv' hv31 ev' h0
  subst e
  have hdy : dyy lg i = num lg i 2 := w.2.2.1
  have hnum : nums (cod lg i) = 15 := by rw [hc]; decide
  have hpn := (pat_pre (lg := lg) (show i ≤ n by omega) hp).2
  have hn24 := psl_le2 hW hE hn hv31
  have hal : (psl lg n v').length ≤ n := sel_len n fun k => cod lg k == 2 && num lg k 0 == nI v'
  have hm5 : ¬ meP lg (nI v') i := fun z => z.1.elim (fun q => absurd (q.symm.trans hc) (by decide)) fun q => absurd (q.symm.trans hc) (by decide)
  have e1 : mnd lg (nI v') x y (i + 1) = mnd lg (nI v') x y i := if_neg fun z => hm5 z.1
  have e2 : tmC lg (nI v') x y (tdC lg v' x y n) (i + 1) = tmC lg (nI v') x y (tdC lg v' x y n) i := if_neg fun z => hm5 z.1
  obtain ⟨hX, hP⟩ := h
  have g0 := hX.1
  have other : ∀ p', p' < (psl lg n v').length → ¬ p' = p → ∀ s, spF lg (plt lg n v' p' x y) (nI v') (nI p') x y s (i + 1) = spF lg (plt lg n v' p' x y) (nI v') (nI p') x y s i := fun p' hp' hne s => if_neg fun z => hne ((nI_eq (by omega) (by omega)).mp (z.1.1.2.2.symm.trans ep))
  have noT : ∀ {s}, ¬ qmP lg (plt lg n v' p x y) (nI v') (nI p) s x y i → spF lg (plt lg n v' p x y) (nI v') (nI p) x y s (i + 1) = spF lg (plt lg n v' p x y) (nI v') (nI p) x y s i := fun hq => if_neg hq
  have hPp := hP p hpn
  have hPp1 := hPp
  unfold pvI at hPp1
  have g1 := hPp1.1
  have same : (∀ s, s < 12 → ¬ qmP lg (plt lg n v' p x y) (nI v') (nI p) s x y i) → Q none G := fun hq => k G ⟨by rw [e1, e2]; exact hX, fun p' hp' => (hP p' hp').eS fun s hs => by
    by_cases q : p' = p
    · rw [q]; exact noT (hq s hs)
    · exact other p' hp' q s⟩ (FW.rfl' G)
  have hpl := plt_lt (x := x) (y := y) (pat_lt hpn)
  have hact := acl_lt (lg := lg) (i := i) (j := plt lg n v' p x y) (by omega) (by omega) (by rw [hc]; decide)
  have hT : ∀ s, s < 12 → bo_at (img lg E) (nI (posn lg i) + 4 + nI s) = num lg i (3 + s) := fun s hs => by
    have := im_n hiE h4 (j := 3 + s) (by omega)
    rw [← this]
    congr 1
    show nI (posn lg i) + nI 4 + nI s = _
    rw [Int32.add_assoc, nI_add]
    congr 2
    omega
  refine Cx.body rfl rfl ?_
  (repeat (first | refine Ex.go rfl rfl ?_ | refine Ex.gf rfl rfl (by assumption) (by rfl) (by first | rfl | assumption) ?_))
  refine Ex.cv1 rfl rfl rfl hr (by rfl) (by decide) rfl ?_
  refine Cx.ratE hr ((im_c hiE h4).trans hc) ?_
  (repeat (first | refine Ex.go rfl rfl ?_ | refine Ex.gf rfl rfl (by assumption) (by rfl) (by first | rfl | assumption) ?_))
  refine Ex.cv1 rfl rfl rfl hr (by rfl) (by decide) rfl ?_
  refine Cx.ratE hr ((im_n hiE h4 (j := 1) (by omega)).trans ep) ?_
  (repeat (first | refine Ex.go rfl rfl ?_ | refine Ex.gf rfl rfl (by assumption) (by rfl) (by first | rfl | assumption) ?_))
  refine Ex.cv1 rfl rfl rfl g0 (by rfl) (by decide) rfl ?_
  refine v_partAt g0 hX.2.1 rfl hn24 (fun z => absurd ⟨by rw [nI_toInt (by omega)]; omega, by rw [nI_toInt (by omega)]; omega⟩ z) (fun p' ee _ hp' => ?_)
  have e3 : p = p' := (nI_eq (by omega) (by omega)).mp ee
  subst e3
  (repeat (first | refine Ex.go rfl rfl ?_ | refine Ex.gf rfl rfl (by assumption) (by rfl) (by first | rfl | assumption) ?_))
  refine Ex.cv1 rfl rfl rfl hr (by rfl) (by decide) rfl ?_
  refine Cx.ratE hr ((im_n hiE h4 (j := 2) (by omega)).trans hdy.symm) ?_
  (repeat (first | refine Ex.go rfl rfl ?_ | refine Ex.gf rfl rfl (by assumption) (by rfl) (by first | rfl | assumption) ?_))
  refine Ex.br (fun b1 => ?_) (fun b1 => ?_)
  · have k := same fun s _ z => absurd z.1.2.2.2 (Int32.not_le.mpr b1)
    (repeat (first | refine Ex.go rfl rfl ?_ | refine Ex.gf rfl rfl (by assumption) (by rfl) (by first | rfl | assumption) ?_))
    refine Ex.ret rfl rfl rfl ?_
    exact k
  have hx : dyy lg i ≤ x := Int32.not_lt.mp b1
  (repeat (first | refine Ex.go rfl rfl ?_ | refine Ex.gf rfl rfl (by assumption) (by rfl) (by first | rfl | assumption) ?_))
  refine Ex.cv1 rfl rfl rfl hr (by rfl) (by decide) rfl ?_
  refine Cx.ratE hr ((im_n hiE h4 (j := 2) (by omega)).trans hdy.symm) ?_
  (repeat (first | refine Ex.go rfl rfl ?_ | refine Ex.gf rfl rfl (by assumption) (by rfl) (by first | rfl | assumption) ?_))
  refine Ex.cv4 rfl rfl rfl g1 (by rfl) (by decide) rfl ?_
  refine pv_measure (T := fun s => num lg i (3 + s)) hPp1 hr (by omega) hT (fun hno => ?_) (fun hyes G' hP2 F2 => ?_)
  · have k := same fun s _ z => z.2 (hno.elim Or.inl fun q => Or.inr ⟨q.1, hact.mp q.2⟩)
    (repeat (first | refine Ex.go rfl rfl ?_ | refine Ex.gf rfl rfl (by assumption) (by rfl) (by first | rfl | assumption) ?_))
    refine Ex.ret rfl rfl rfl ?_
    exact k
  · have hP3 : PV G' (22 + 14 * p) (pvI lg n v' p x y) (fun s => spF lg (plt lg n v' p x y) (nI v') (nI p) x y s (i + 1)) := by
      refine PV.eS hP2 fun s hs => ?_
      have hrn := w.2.2.2 s hs
      have eF : spF lg (plt lg n v' p x y) (nI v') (nI p) x y s (i + 1) = if qmP lg (plt lg n v' p x y) (nI v') (nI p) s x y i then spTake (spF lg (plt lg n v' p x y) (nI v') (nI p) x y s i) (dyy lg i) (num lg i (3 + s)) else spF lg (plt lg n v' p x y) (nI v') (nI p) x y s i := rfl
      rw [eF]
      by_cases q : num lg i (3 + s) = -1
      · rw [if_pos q, if_neg fun z => by have := z.1.2.1; rw [q] at this; exact absurd this (by decide)]
      · have q2 : 0 ≤ num lg i (3 + s) := by
          refine Int32.le_iff_toInt_le.mpr ?_
          have a1 : ¬ (num lg i (3 + s)).toInt = (-1 : Int32).toInt := fun z => q (Int32.toInt_inj.mp z)
          have a2 : (-1 : Int32).toInt = -1 := rfl
          have a3 := hrn.1
          show (0 : Int) ≤ _
          omega
        rw [if_neg q, if_pos ⟨⟨⟨hc, h0, ep⟩, q2, he, hx⟩, fun z => hyes (z.elim Or.inl fun u => Or.inr ⟨u.1, hact.mpr u.2⟩)⟩]
    have k := k G' ⟨by rw [e1, e2]; exact hX.part (f' := fun p => pvI lg n v' p x y) (by omega) F2 hP3 isPv_I (fun _ => rfl) fun _ _ _ => rfl, fun p' hp' => by
      by_cases q : p' = p
      · rw [q]; exact hP3
      · refine (hP p' hp').of (fun j' h1 h2 => F2.2 j' (by omega)) fun s _ => other p' hp' q s⟩ (F2.fw (by omega))
    (repeat (first | refine Ex.go rfl rfl ?_ | refine Ex.gf rfl rfl (by assumption) (by rfl) (by first | rfl | assumption) ?_))
    refine Ex.ret rfl rfl rfl ?_
    exact k
/-- a mend read again -/
theorem v_ra5 (h : V2 G lg n i v a x y sf mk bu ow st) (hW : ∀ k, k < E → wfE lg k) (hn : n ≤ E) (hi : i < n) (hE : E ≤ 6000) (h4 : (img lg E).length ≤ 40000) (hr : G[r]? = some (cR 40000 cap (img lg E))) (hrl : r < 12) (hv31 : v < 2 ^ 31) (he : ent lg i ≤ y) (h0 : num lg i 0 = nI v) (hc : cod lg i = 5 ∨ cod lg i = 6) (k : ∀ G', V2 G' lg n (i + 1) v a x y sf mk bu ow st → FW G G' → Q none G') : Cx (d + 2) mX9_readAgain [.ref 12, .ref r, .int (nI (posn lg i)), .int (nI (acl lg i).length), .int x] G Q := by
  have hiE : i < E := by omega
  obtain ⟨hX, hP⟩ := h
  have g0 := hX.1
  have g18 := hX.2.2.2.2.1
  have n4 : ¬ cod lg i = 4 := fun z => by rw [z] at hc; exact absurd hc (by decide)
  have hP1 : ∀ {G' : bo_G}, (∀ j, 22 ≤ j → j < 358 → G'[j]? = G[j]?) → ∀ p, p < (psl lg n v).length → p < 24 → PV G' (22 + 14 * p) (pvI lg n v p x y) (fun s => spF lg (plt lg n v p x y) (nI v) (nI p) x y s (i + 1)) := fun hf p hp h24 => (hP p hp).of (fun j h1 h2 => hf j (by omega) (by omega)) fun s _ => if_neg fun z => n4 z.1.1.1
  have key : ∀ dd, dyy lg i = dd → Ex (d + 2) mX9_readAgain (79, [(0, .ref 12), (1, .ref r), (2, .int (nI (posn lg i))), (3, .int (nI (acl lg i).length)), (4, .int x), (5, .int (cod lg i)), (6, .int dd)], [], G) Q := by
    intro dd hdd
    have h24 : ∀ p, p < (psl lg n v).length → p < 24 := fun p hp => by have := psl_le2 hW hE hn hv31; omega
    by_cases hx : dd ≤ x
    · have e1 : mnd lg (nI v) x y (i + 1) = mxI (mnd lg (nI v) x y i) dd := by rw [← hdd]; exact if_pos ⟨⟨hc, h0⟩, he, by rw [hdd]; exact hx⟩
      have e2 : tmC lg (nI v) x y (tdC lg v x y n) (i + 1) = if dd ≤ tdC lg v x y n then mxI (tmC lg (nI v) x y (tdC lg v x y n) i) dd else tmC lg (nI v) x y (tdC lg v x y n) i := by rw [← hdd]; exact if_pos ⟨⟨hc, h0⟩, he, by rw [hdd]; exact hx⟩
      (repeat (first | refine Ex.go rfl rfl ?_ | refine Ex.gf rfl rfl (by assumption) (by rfl) (by first | rfl | assumption) ?_))
      refine Ex.br (fun b1 => ?_) (fun b1 => ?_)
      · exact absurd hx (Int32.not_le.mpr b1)
      (repeat (first | refine Ex.go rfl rfl ?_ | refine Ex.gf rfl rfl (by assumption) (by rfl) (by first | rfl | assumption) ?_))
      refine Ex.cv1 rfl rfl rfl g18 (by rfl) (by decide) rfl ?_
      refine pw_mend hX.2.2.2.2 (fun G' hV F => ?_)
      have k := k G' ⟨by rw [e1, e2]; exact hX.papers F hV, fun p hp => hP1 (fun j _ _ => F.2 j (by omega)) p hp (h24 p hp)⟩ F.fw2
      (repeat (first | refine Ex.go rfl rfl ?_ | refine Ex.gf rfl rfl (by assumption) (by rfl) (by first | rfl | assumption) ?_))
      refine Ex.ret rfl rfl rfl ?_
      exact k
    · have e1 : mnd lg (nI v) x y (i + 1) = mnd lg (nI v) x y i := if_neg fun z => hx (by rw [← hdd]; exact z.2.2)
      have e2 : tmC lg (nI v) x y (tdC lg v x y n) (i + 1) = tmC lg (nI v) x y (tdC lg v x y n) i := if_neg fun z => hx (by rw [← hdd]; exact z.2.2)
      have k := k G ⟨by rw [e1, e2]; exact hX, fun p hp => hP1 (fun _ _ _ => rfl) p hp (h24 p hp)⟩ (FW.rfl' G)
      (repeat (first | refine Ex.go rfl rfl ?_ | refine Ex.gf rfl rfl (by assumption) (by rfl) (by first | rfl | assumption) ?_))
      refine Ex.br (fun b1 => ?_) (fun b1 => ?_); rotate_left
      · exact absurd (Int32.not_lt.mp b1) hx
      (repeat (first | refine Ex.go rfl rfl ?_ | refine Ex.gf rfl rfl (by assumption) (by rfl) (by first | rfl | assumption) ?_))
      refine Ex.ret rfl rfl rfl ?_
      exact k
  refine Cx.body rfl rfl ?_
  (repeat (first | refine Ex.go rfl rfl ?_ | refine Ex.gf rfl rfl (by assumption) (by rfl) (by first | rfl | assumption) ?_))
  refine Ex.cv1 rfl rfl rfl hr (by rfl) (by decide) rfl ?_
  refine Cx.ratE hr (im_c hiE h4) ?_
  (repeat (first | refine Ex.go rfl rfl ?_ | refine Ex.gf rfl rfl (by assumption) (by rfl) (by first | rfl | assumption) ?_))
  refine Ex.br (fun c1 => ?_) (fun c1 => ?_); rotate_left
  · exact absurd (Decidable.not_not.mp c1) n4
  rcases hc with hc | hc
  · obtain ⟨v', hv', ev', p, hp, ep, w⟩ := wf_c5 (hW i hiE) hc
    have hdy : dyy lg i = num lg i 5 := w.2.2.2.2.2
    have hnum : nums (cod lg i) = 6 := by rw [hc]; decide
    (repeat (first | refine Ex.go rfl rfl ?_ | refine Ex.gf rfl rfl (by assumption) (by rfl) (by first | rfl | assumption) ?_))
    refine Ex.br (fun c2 => ?_) (fun c2 => ?_)
    · exact absurd hc c2
    (repeat (first | refine Ex.go rfl rfl ?_ | refine Ex.gf rfl rfl (by assumption) (by rfl) (by first | rfl | assumption) ?_))
    refine Ex.cv1 rfl rfl rfl hr (by rfl) (by decide) rfl ?_
    refine Cx.ratE hr (im_n hiE h4 (j := 5) (by omega)) ?_
    (repeat (first | exact key _ hdy | refine Ex.go rfl rfl ?_ | refine Ex.gf rfl rfl (by assumption) (by rfl) (by first | rfl | assumption) ?_))
  · obtain ⟨v', hv', ev', p, hp, ep, w⟩ := wf_c6 (hW i hiE) hc
    have hdy : dyy lg i = num lg i 3 := w.2.2.2
    have hnum : nums (cod lg i) = 4 := by rw [hc]; decide
    (repeat (first | refine Ex.go rfl rfl ?_ | refine Ex.gf rfl rfl (by assumption) (by rfl) (by first | rfl | assumption) ?_))
    refine Ex.br (fun c2 => ?_) (fun c2 => ?_); rotate_left
    · exact absurd (Decidable.not_not.mp c2) (by rw [hc]; decide)
    (repeat (first | refine Ex.go rfl rfl ?_ | refine Ex.gf rfl rfl (by assumption) (by rfl) (by first | rfl | assumption) ?_))
    refine Ex.cv1 rfl rfl rfl hr (by rfl) (by decide) rfl ?_
    refine Cx.ratE hr (im_n hiE h4 (j := 3) (by omega)) ?_
    (repeat (first | exact key _ hdy | refine Ex.go rfl rfl ?_ | refine Ex.gf rfl rfl (by assumption) (by rfl) (by first | rfl | assumption) ?_))
/-- the acts read again, all -/
theorem v_acts2 (ha : a = 2 ∨ a = 7) (C : CR G a us lg E ke) (hW : WF lg E) (hn : n ≤ E) (he : ∀ i, i < n → ent lg i ≤ y) (hv31 : v < 2 ^ 31) (k : ∀ G', V2 G' lg n n v a x y sf mk bu ow st → FW G G' → Q none G') : ∀ (e i : Nat) (b : Int32) (G1 : bo_G), i + e = n → b = nI (acl lg i).length → V2 G1 lg n i v a x y sf mk bu ow st → FW G G1 → Ex (d + 3) mX9_readActs (209, [(0, .ref 12), (1, .ref a), (2, .int bu), (3, .int x), (4, .ref (a + 1)), (5, .int (nI (acl lg n).length)), (6, .int b)], [], G1) Q := by
  have hE6 : E ≤ 6000 := by have := acl_osl (lg := lg) (E := E); have := hW.2.2.1; have := hW.2.2.2; omega
  have h4 := WF_img hW
  have hal : ∀ i, (acl lg i).length ≤ i := fun i => sel_len i fun i => !(cod lg i == 0)
  intro e
  induction e with
  | zero =>
    intro i b G1 hi hb h1 F
    have hin : i = n := by omega
    rw [hin] at h1 hb
    have k := k G1 h1 F
    subst hb
    (repeat (first | refine Ex.go rfl rfl ?_ | refine Ex.gf rfl rfl (by assumption) (by rfl) (by first | rfl | assumption) ?_))
    refine Ex.br (fun c1 => ?_) (fun c1 => ?_); rotate_left
    · exact absurd (Int32.le_refl _) c1
    (repeat (first | refine Ex.go rfl rfl ?_ | refine Ex.gf rfl rfl (by assumption) (by rfl) (by first | rfl | assumption) ?_))
    refine Ex.ret rfl rfl rfl ?_
    exact k
  | succ e ih =>
    intro i b G1 hi hb h1 F
    by_cases hc0 : cod lg i = 0
    · have e3 : acl lg (i + 1) = acl lg i := by rw [acl_s, if_pos hc0, List.append_nil]
      exact ih (i + 1) b G1 (by omega) (by rw [e3]; exact hb) (V2_skip h1 (fun z => absurd (z.1.symm.trans hc0) (by decide)) fun z => z.1.elim (fun q => absurd (q.symm.trans hc0) (by decide)) fun q => absurd (q.symm.trans hc0) (by decide)) F
    · obtain ⟨hk, hlt, e3⟩ := acl_get hn (show i < n by omega) hc0
      have hiE : i < E := by omega
      have hei := he i (by omega)
      have C1 := C.fw ha F
      have hr0 := C1.1.1
      obtain ⟨cap, hr⟩ := C1.1.2.1
      have g0 := h1.1.1
      have := hal i
      have := hal n
      obtain ⟨c, hc12, hcc⟩ := cod_nat (hW.1 i hiE)
      have next : ∀ G2, V2 G2 lg n (i + 1) v a x y sf mk bu ow st → FW G1 G2 → Ex (d + 3) mX9_readActs (273, [(0, .ref 12), (1, .ref a), (2, .int bu), (3, .int x), (4, .ref (a + 1)), (5, .int (nI (acl lg n).length)), (6, .int (nI (acl lg i).length)), (7, .int (nI (posn lg i))), (8, .int (cod lg i))], [], G2) Q := by
        intro G2 h2 F2
        have nx := ih (i + 1) (nI (acl lg i).length + 1) G2 (by omega) (by rw [e3, List.length_append]; exact nI_1 _) h2 (F.trans F2)
        (repeat (first | exact nx | refine Ex.go rfl rfl ?_ | refine Ex.gf rfl rfl (by assumption) (by rfl) (by first | rfl | assumption) ?_))
      subst hb
      (repeat (first | refine Ex.go rfl rfl ?_ | refine Ex.gf rfl rfl (by assumption) (by rfl) (by first | rfl | assumption) ?_))
      refine Ex.br (fun c1 => ?_) (fun c1 => ?_)
      · have c2 := (n_ge (a := (acl lg i).length) (b := (acl lg n).length) (by omega) (by omega)).mp c1
        omega
      (repeat (first | refine Ex.go rfl rfl ?_ | refine Ex.gf rfl rfl (by assumption) (by rfl) (by first | rfl | assumption) ?_))
      refine Ex.cv1 rfl rfl rfl hr0 (by rfl) (by decide) rfl ?_
      refine c_placeOf C1 hE6 hk ?_
      (repeat (first | refine Ex.go rfl rfl ?_ | refine Ex.gf rfl rfl (by assumption) (by rfl) (by first | rfl | assumption) ?_))
      refine Ex.cv1 rfl rfl rfl hr (by rfl) (by decide) rfl ?_
      refine Cx.ratE hr (im_c hiE h4) ?_
      have skip : ¬ ((cod lg i = 4 ∨ cod lg i = 5 ∨ cod lg i = 6) ∧ num lg i 0 = nI v) → Ex (d + 3) mX9_readActs (273, [(0, .ref 12), (1, .ref a), (2, .int bu), (3, .int x), (4, .ref (a + 1)), (5, .int (nI (acl lg n).length)), (6, .int (nI (acl lg i).length)), (7, .int (nI (posn lg i))), (8, .int (cod lg i))], [], G1) Q := fun hno => next G1 (V2_skip h1 (fun z => hno ⟨Or.inl z.1, z.2⟩) fun z => hno ⟨Or.inr z.1, z.2⟩) (FW.rfl' G1)
      (repeat (first | refine Ex.go rfl rfl ?_ | refine Ex.gf rfl rfl (by assumption) (by rfl) (by first | rfl | assumption) ?_))
      refine Ex.br (fun c2 => ?_) (fun c2 => ?_)
      · have c3 : (cod lg i).toInt < (4 : Int) := Int32.lt_iff_toInt_lt.mp c2
        have k2 := skip fun z => by rcases z.1 with q | q | q <;> (rw [q] at c3; exact absurd c3 (by decide))
        (repeat (first | exact k2 | refine Ex.go rfl rfl ?_ | refine Ex.gf rfl rfl (by assumption) (by rfl) (by first | rfl | assumption) ?_))
      have c3 : (4 : Int) ≤ (cod lg i).toInt := Int32.le_iff_toInt_le.mp (Int32.not_lt.mp c2)
      (repeat (first | refine Ex.go rfl rfl ?_ | refine Ex.gf rfl rfl (by assumption) (by rfl) (by first | rfl | assumption) ?_))
      refine Ex.br (fun c4 => ?_) (fun c4 => ?_)
      · have c5 : (6 : Int) < (cod lg i).toInt := Int32.lt_iff_toInt_lt.mp c4
        have k2 := skip fun z => by rcases z.1 with q | q | q <;> (rw [q] at c5; exact absurd c5 (by decide))
        (repeat (first | exact k2 | refine Ex.go rfl rfl ?_ | refine Ex.gf rfl rfl (by assumption) (by rfl) (by first | rfl | assumption) ?_))
      have c5 : (cod lg i).toInt ≤ (6 : Int) := Int32.le_iff_toInt_le.mp (Int32.not_lt.mp c4)
      (repeat (first | refine Ex.go rfl rfl ?_ | refine Ex.gf rfl rfl (by assumption) (by rfl) (by first | rfl | assumption) ?_))
      refine Ex.cv1 rfl rfl rfl hr (by rfl) (by decide) rfl ?_
      refine Cx.ratE hr (im_n hiE h4 (j := 0) (nums_pos _)) ?_
      (repeat (first | refine Ex.go rfl rfl ?_ | refine Ex.gf rfl rfl (by assumption) (by rfl) (by first | rfl | assumption) ?_))
      refine Ex.br (fun c6 => ?_) (fun c6 => ?_)
      · have n2 : ¬ num lg i 0 = nI v := c6
        have k2 := skip fun z => n2 z.2
        (repeat (first | exact k2 | refine Ex.go rfl rfl ?_ | refine Ex.gf rfl rfl (by assumption) (by rfl) (by first | rfl | assumption) ?_))
      have h0 : num lg i 0 = nI v := Decidable.not_not.mp c6
      rw [hcc, nI_toInt (by omega)] at c3 c5
      (repeat (first | refine Ex.go rfl rfl ?_ | refine Ex.gf rfl rfl (by assumption) (by rfl) (by first | rfl | assumption) ?_))
      refine Ex.cv4 rfl rfl rfl g0 (by rfl) (by decide) rfl ?_
      rcases (show c = 4 ∨ c = 5 ∨ c = 6 by omega) with q | q | q
      · refine v_ra4 h1 hW.1 hn (by omega) hE6 h4 hr (by omega) hv31 hei h0 (by rw [hcc, q]; rfl) (fun G' hV F2 => ?_)
        have k2 := next G' hV F2
        (repeat (first | exact k2 | refine Ex.go rfl rfl ?_ | refine Ex.gf rfl rfl (by assumption) (by rfl) (by first | rfl | assumption) ?_))
      · refine v_ra5 h1 hW.1 hn (by omega) hE6 h4 hr (by omega) hv31 hei h0 (Or.inl (by rw [hcc, q]; rfl)) (fun G' hV F2 => ?_)
        have k2 := next G' hV F2
        (repeat (first | exact k2 | refine Ex.go rfl rfl ?_ | refine Ex.gf rfl rfl (by assumption) (by rfl) (by first | rfl | assumption) ?_))
      · refine v_ra5 h1 hW.1 hn (by omega) hE6 h4 hr (by omega) hv31 hei h0 (Or.inr (by rw [hcc, q]; rfl)) (fun G' hV F2 => ?_)
        have k2 := next G' hV F2
        (repeat (first | exact k2 | refine Ex.go rfl rfl ?_ | refine Ex.gf rfl rfl (by assumption) (by rfl) (by first | rfl | assumption) ?_))
end VG
