/-! The class's own queries: their answers. -/
section BR
variable {d b : Nat} {G G1 : bo_G} {Q : Option Value → bo_G → Prop} {us : List Nat} {lg : Nat → Int32} {E : Nat} {ke : Int32} {v p s w x y : Int32}
theorem dbtN_kn {v p : Nat} (hp : p < (psl lg (knC lg y E) v).length) : ∀ q, dbtN lg E v p x y q = dbtN lg (knC lg y E) v p x y q := by
  intro q
  induction q with
  | zero => rfl
  | succ q ih =>
    show dbtN lg E v p x y q + (if dbtB lg E v p q x y = true then 1 else 0) = dbtN lg (knC lg y E) v p x y q + (if dbtB lg (knC lg y E) v p q x y = true then 1 else 0)
    have e : dbtB lg E v p q x y = dbtB lg (knC lg y E) v p q x y := by
      unfold dbtB
      rw [rwA_kn hp]
      cases rwA lg (knC lg y E) v p q x y with
      | none => rfl
      | some o => dsimp only; rw [rwT_kn hp]
    rw [ih, e]
theorem vf_W' {v : Nat} (V : vfP lg E v x y) : ∀ j, j < knC lg y E → wfE lg j := fun j hj => V.1 j (by have := knC_le (lg := lg) (y := y) (E := E); omega)
theorem vf_vat' {v : Nat} (V : vfP lg E v x y) : dyy lg (vat lg (knC lg y E) v) ≤ x := by
  rw [(vo_vat V.1 V.2.2.2.1 V.2.2.2.2.1).1]
  exact V.2.2.2.2.2.1
theorem q_thick (h : BQ G b us lg E ke) (k : ∀ r G', r.toInt = thckZ lg E v p s x y → VI G' → FW G G' → Q (some (.int r)) G') : Cx (d + 8) mX10_thick [.ref 1, .int v, .int p, .int s, .int x, .int y] G Q := by
  obtain ⟨hb, ⟨st, rs, g1⟩, -⟩ := id h
  unfold thckZ at k
  refine Cx.body rfl rfl ?_
  (repeat (first | refine Ex.go rfl rfl ?_ | refine Ex.gf rfl rfl (by assumption) (by rfl) (by first | rfl | assumption) ?_))
  refine Ex.cv4 rfl rfl rfl g1 (by rfl) (by decide) rfl ?_
  refine q_partOn h (fun hno G' hI F => ?_) (fun hyes G' st' v' p' ev ep epn hO V hp F => ?_)
  · rw [if_neg fun z => hno z.1] at k
    have k := k (-1) G' rfl hI F
    (repeat (first | refine Ex.go rfl rfl ?_ | refine Ex.gf rfl rfl (by assumption) (by rfl) (by first | rfl | assumption) ?_))
    refine Ex.ret rfl rfl rfl ?_
    exact k
  · have hW' := vf_W' V
    have hkn := knC_le (lg := lg) (y := y) (E := E)
    have evn : v.toNatClampNeg = v' := by rw [ev]; exact nI_clamp V.2.2.1
    have hP := hO.1.2 p' hp
    have hP1 := hP
    unfold pvI at hP1
    have g0 := hP1.1
    have hsp := spots_rng (lg := lg) (E := knC lg y E) (y := y) hW' (v := nI v') (p := nI p')
    have hX := spK_spX (y := y) hW' (by have := V.2.1; omega) V.2.2.1 hp (vf_vat' V) V.2.2.2.2.2.2.1
    have es : sho lg E v p y 2 1 = sho lg (knC lg y E) (nI v') (nI p') y 2 1 := by rw [ev, ep, sho_cut]
    rw [es] at k
    (repeat (first | refine Ex.go rfl rfl ?_ | refine Ex.gf rfl rfl (by assumption) (by rfl) (by first | rfl | assumption) ?_))
    refine Ex.cv1 rfl rfl rfl g0 (by rfl) (by decide) rfl ?_
    refine pv_hasSpot g0 ?_
    (repeat (first | refine Ex.go rfl rfl ?_ | refine Ex.gf rfl rfl (by assumption) (by rfl) (by first | rfl | assumption) ?_))
    first | (refine Ex.brz (fun c1 => ?_) (fun c1 => ?_); rotate_left) | (refine Ex.brn (fun c1 => ?_) (fun c1 => ?_); rotate_left)
    · rw [if_neg fun z => c1 z.2] at k
      have k := k (-1) G' rfl (hO.vi V.1 V.2.1 V.2.2.1) F
      (repeat (first | refine Ex.go rfl rfl ?_ | refine Ex.gf rfl rfl (by assumption) (by rfl) (by first | rfl | assumption) ?_))
      refine Ex.ret rfl rfl rfl ?_
      exact k
    · rw [if_pos ⟨hyes, c1⟩] at k
      obtain ⟨e1, e2, e3⟩ := nI_iof c1.1
      have hs12 : s.toInt < 12 ∧ s.toNatClampNeg < 12 := by have := c1.2; have := hsp.2; omega
      (repeat (first | refine Ex.go rfl rfl ?_ | refine Ex.gf rfl rfl (by assumption) (by rfl) (by first | rfl | assumption) ?_))
      refine Ex.cv2 rfl rfl rfl g0 (by rfl) (by decide) rfl ?_
      refine pv_thick hP1 hX.1 (fun z => absurd ⟨c1.1, hs12.1⟩ z) (fun _ r hr => ?_)
      have hr2 : r.toInt = spZ (spK lg (knC lg y E) v' p' x y s.toNatClampNeg) (sho lg (knC lg y E) (nI v') (nI p') y 3 0) x := hr
      have k := k r G' (by rw [hr2, hX.2 _ hs12.2, evn, epn, thk_kn hp]) (hO.vi V.1 V.2.1 V.2.2.1) F
      (repeat (first | refine Ex.go rfl rfl ?_ | refine Ex.gf rfl rfl (by assumption) (by rfl) (by first | rfl | assumption) ?_))
      refine Ex.ret rfl rfl rfl ?_
      exact k
theorem q_doubts (h : BQ G b us lg E ke) (k : ∀ G', VI G' → FW G G' → Q (some (.int (dbtI lg E v p x y))) G') : Cx (d + 8) mX10_doubts [.ref 1, .int v, .int p, .int x, .int y] G Q := by
  obtain ⟨hb, ⟨st, rs, g1⟩, -⟩ := id h
  unfold dbtI at k
  refine Cx.body rfl rfl ?_
  (repeat (first | refine Ex.go rfl rfl ?_ | refine Ex.gf rfl rfl (by assumption) (by rfl) (by first | rfl | assumption) ?_))
  refine Ex.cv4 rfl rfl rfl g1 (by rfl) (by decide) rfl ?_
  refine q_partOn h (fun hno G' hI F => ?_) (fun hyes G' st' v' p' ev ep epn hO V hp F => ?_)
  · rw [if_neg hno] at k
    have k := k G' hI F
    (repeat (first | refine Ex.go rfl rfl ?_ | refine Ex.gf rfl rfl (by assumption) (by rfl) (by first | rfl | assumption) ?_))
    refine Ex.ret rfl rfl rfl ?_
    exact k
  · rw [if_pos hyes] at k
    have hW' := vf_W' V
    have evn : v.toNatClampNeg = v' := by rw [ev]; exact nI_clamp V.2.2.1
    have hP1 := hO.1.2 p' hp
    unfold pvI at hP1
    have g0 := hP1.1
    have hsp := spots_rng (lg := lg) (E := knC lg y E) (y := y) hW' (v := nI v') (p := nI p')
    have hsn : (sho lg (knC lg y E) (nI v') (nI p') y 2 1).toNatClampNeg ≤ 12 := by
      obtain ⟨-, a2, -⟩ := nI_iof (show 0 ≤ (sho lg (knC lg y E) (nI v') (nI p') y 2 1).toInt by have := hsp.1; omega)
      have := hsp.2
      omega
    have es : sho lg E v p y 2 1 = sho lg (knC lg y E) (nI v') (nI p') y 2 1 := by rw [ev, ep, sho_cut]
    rw [evn, epn, es, dbtN_kn hp, ← dbC_dbt hW' hp _ hsn] at k
    have k := k G' (hO.vi V.1 V.2.1 V.2.2.1) F
    (repeat (first | refine Ex.go rfl rfl ?_ | refine Ex.gf rfl rfl (by assumption) (by rfl) (by first | rfl | assumption) ?_))
    refine Ex.cv0 rfl rfl rfl g0 (by rfl) (by decide) rfl ?_
    refine pv_doubt hP1 hsp ?_
    (repeat (first | refine Ex.go rfl rfl ?_ | refine Ex.gf rfl rfl (by assumption) (by rfl) (by first | rfl | assumption) ?_))
    refine Ex.ret rfl rfl rfl ?_
    exact k
theorem q_bears (h : BQ G b us lg E ke) (k : ∀ r G', r.toInt = bersZ lg E v p x y → VI G' → FW G G' → Q (some (.int r)) G') : Cx (d + 8) mX10_bears [.ref 1, .int v, .int p, .int x, .int y] G Q := by
  obtain ⟨hb, ⟨st, rs, g1⟩, -⟩ := id h
  unfold bersZ at k
  refine Cx.body rfl rfl ?_
  (repeat (first | refine Ex.go rfl rfl ?_ | refine Ex.gf rfl rfl (by assumption) (by rfl) (by first | rfl | assumption) ?_))
  refine Ex.cv4 rfl rfl rfl g1 (by rfl) (by decide) rfl ?_
  refine q_partOn h (fun hno G' hI F => ?_) (fun hyes G' st' v' p' ev ep epn hO V hp F => ?_)
  · rw [if_neg hno] at k
    have k := k (-1) G' rfl hI F
    (repeat (first | refine Ex.go rfl rfl ?_ | refine Ex.gf rfl rfl (by assumption) (by rfl) (by first | rfl | assumption) ?_))
    refine Ex.ret rfl rfl rfl ?_
    exact k
  · rw [if_pos hyes] at k
    have evn : v.toNatClampNeg = v' := by rw [ev]; exact nI_clamp V.2.2.1
    have g1' : G'[1]? = some (mainC b st rs) := by rw [F.2 1 (by omega)]; exact g1
    have g12 := hO.1.1.1
    obtain ⟨fs, gp⟩ := vo_cell hO p' hp
    rw [evn, epn] at k
    (repeat (first | refine Ex.go rfl rfl ?_ | refine Ex.gf rfl rfl (by assumption) (by rfl) (by first | rfl | assumption) ?_))
    refine Ex.cv0 rfl rfl rfl g12 (by rfl) (by decide) rfl ?_
    refine v_safety g12 ?_
    (repeat (first | refine Ex.go rfl rfl ?_ | refine Ex.gf rfl rfl (by assumption) (by rfl) (by first | rfl | assumption) ?_))
    refine Ex.cv2 rfl rfl rfl gp (by rfl) (by decide) rfl ?_
    refine vo_bears hO V.1 V.2.1 V.2.2.1 V.2.2.2.1 V.2.2.2.2.1 V.2.2.2.2.2.1 V.2.2.2.2.2.2.1 hp _ (fun r hr => ?_)
    have k := k r G' hr (hO.vi V.1 V.2.1 V.2.2.1) F
    (repeat (first | refine Ex.go rfl rfl ?_ | refine Ex.gf rfl rfl (by assumption) (by rfl) (by first | rfl | assumption) ?_))
    refine Ex.ret rfl rfl rfl ?_
    exact k
def weaI (lg : Nat → Int32) (E : Nat) (v x y : Int32) : Int32 := if askP lg E v x y then weaZ lg E v.toNatClampNeg x y 25 0 (-1) 0 else -1
theorem q_weakest (h : BQ G b us lg E ke) (k : ∀ G', VI G' → FW G G' → Q (some (.int (weaI lg E v x y))) G') : Cx (d + 8) mX10_weakest [.ref 1, .int v, .int x, .int y] G Q := by
  obtain ⟨hb, ⟨st, rs, g1⟩, -⟩ := id h
  unfold weaI at k
  refine Cx.body rfl rfl ?_
  (repeat (first | refine Ex.go rfl rfl ?_ | refine Ex.gf rfl rfl (by assumption) (by rfl) (by first | rfl | assumption) ?_))
  refine Ex.cv3 rfl rfl rfl g1 (by rfl) (by decide) rfl ?_
  refine q_opened h (fun hno G' hI F => ?_) (fun hyes G' st' v' ev hO V F => ?_)
  · rw [if_neg hno] at k
    have k := k G' hI F
    (repeat (first | refine Ex.go rfl rfl ?_ | refine Ex.gf rfl rfl (by assumption) (by rfl) (by first | rfl | assumption) ?_))
    try (first | refine Ex.le0 ?_ | refine Ex.ln0 ?_)
    (repeat (first | refine Ex.go rfl rfl ?_ | refine Ex.gf rfl rfl (by assumption) (by rfl) (by first | rfl | assumption) ?_))
    refine Ex.ret rfl rfl rfl ?_
    exact k
  · rw [if_pos hyes] at k
    have evn : v.toNatClampNeg = v' := by rw [ev]; exact nI_clamp V.2.2.1
    have g1' : G'[1]? = some (mainC b st rs) := by rw [F.2 1 (by omega)]; exact g1
    have g12 := hO.1.1.1
    have e := wea_weC V.1 V.2.1 V.2.2.1 V.2.2.2.2.2.2.2 rfl (vf_24 V) 25 0 (Nat.zero_le _) (by omega)
    have e : weaZ lg E v' x y 25 0 (-1) 0 = (weC (fun p => brZ lg E v' p x y) (psl lg (knC lg y E) v').length).1 := e
    rw [evn, e] at k
    have k := k G' (hO.vi V.1 V.2.1 V.2.2.1) F
    (repeat (first | refine Ex.go rfl rfl ?_ | refine Ex.gf rfl rfl (by assumption) (by rfl) (by first | rfl | assumption) ?_))
    try (first | refine Ex.le0 ?_ | refine Ex.ln0 ?_)
    (repeat (first | refine Ex.go rfl rfl ?_ | refine Ex.gf rfl rfl (by assumption) (by rfl) (by first | rfl | assumption) ?_))
    refine Ex.cv1 rfl rfl rfl g12 (by rfl) (by decide) rfl ?_
    refine v_weakest g12 hO.1.1.2.1 rfl (vf_24 V) (vo_cell hO) (B := fun p => brZ lg E v' p x y) (fun i hi Q k => vo_bears hO V.1 V.2.1 V.2.2.1 V.2.2.2.1 V.2.2.2.2.1 V.2.2.2.2.2.1 V.2.2.2.2.2.2.1 hi Q k) ?_
    (repeat (first | refine Ex.go rfl rfl ?_ | refine Ex.gf rfl rfl (by assumption) (by rfl) (by first | rfl | assumption) ?_))
    refine Ex.ret rfl rfl rfl ?_
    exact k
theorem q_holds (h : BQ G b us lg E ke) (k : ∀ G', VI G' → FW G G' → Q (some (.int (hldI lg E v w x y))) G') : Cx (d + 8) mX10_holds [.ref 1, .int v, .int w, .int x, .int y] G Q := by
  obtain ⟨hb, ⟨st, rs, g1⟩, -⟩ := id h
  unfold hldI at k
  refine Cx.body rfl rfl ?_
  (repeat (first | refine Ex.go rfl rfl ?_ | refine Ex.gf rfl rfl (by assumption) (by rfl) (by first | rfl | assumption) ?_))
  refine Ex.cv3 rfl rfl rfl g1 (by rfl) (by decide) rfl ?_
  refine q_opened h (fun hno G' hI F => ?_) (fun hyes G' st' v' ev hO V F => ?_)
  · rw [if_neg hno] at k
    have k := k G' hI F
    (repeat (first | refine Ex.go rfl rfl ?_ | refine Ex.gf rfl rfl (by assumption) (by rfl) (by first | rfl | assumption) ?_))
    try (first | refine Ex.le0 ?_ | refine Ex.ln0 ?_)
    (repeat (first | refine Ex.go rfl rfl ?_ | refine Ex.gf rfl rfl (by assumption) (by rfl) (by first | rfl | assumption) ?_))
    refine Ex.ret rfl rfl rfl ?_
    exact k
  · rw [if_pos hyes] at k
    have evn : v.toNatClampNeg = v' := by rw [ev]; exact nI_clamp V.2.2.1
    have g1' : G'[1]? = some (mainC b st rs) := by rw [F.2 1 (by omega)]; exact g1
    have g12 := hO.1.1.1
    rw [evn] at k
    have k := k G' (hO.vi V.1 V.2.1 V.2.2.1) F
    (repeat (first | refine Ex.go rfl rfl ?_ | refine Ex.gf rfl rfl (by assumption) (by rfl) (by first | rfl | assumption) ?_))
    try (first | refine Ex.le0 ?_ | refine Ex.ln0 ?_)
    (repeat (first | refine Ex.go rfl rfl ?_ | refine Ex.gf rfl rfl (by assumption) (by rfl) (by first | rfl | assumption) ?_))
    refine Ex.cv1 rfl rfl rfl g12 (by rfl) (by decide) rfl ?_
    refine vo_number hO V ?_
    (repeat (first | refine Ex.go rfl rfl ?_ | refine Ex.gf rfl rfl (by assumption) (by rfl) (by first | rfl | assumption) ?_))
    refine Ex.ret rfl rfl rfl ?_
    exact k
theorem q_due (h : BQ G b us lg E ke) (k : ∀ G', VI G' → FW G G' → Q (some (.int (dueI lg E v w x y))) G') : Cx (d + 8) mX10_due [.ref 1, .int v, .int w, .int x, .int y] G Q := by
  obtain ⟨hb, ⟨st, rs, g1⟩, -⟩ := id h
  unfold dueI at k
  refine Cx.body rfl rfl ?_
  (repeat (first | refine Ex.go rfl rfl ?_ | refine Ex.gf rfl rfl (by assumption) (by rfl) (by first | rfl | assumption) ?_))
  refine Ex.cs3 rfl rfl rfl rfl rfl rfl ?_
  refine c_withinP (lo := 0) (hi := 2) rfl rfl (fun P1 d1 i1 => ?_)
  (repeat (first | refine Ex.go rfl rfl ?_ | refine Ex.gf rfl rfl (by assumption) (by rfl) (by first | rfl | assumption) ?_))
  first | (refine Ex.brz (fun c1 => ?_) (fun c1 => ?_); rotate_left) | (refine Ex.brn (fun c1 => ?_) (fun c1 => ?_); rotate_left)
  · rw [if_neg fun z => c1 (i1.mpr z.1)] at k
    have k := k G h.2.2.2.2 (FW.rfl' G)
    (repeat (first | refine Ex.go rfl rfl ?_ | refine Ex.gf rfl rfl (by assumption) (by rfl) (by first | rfl | assumption) ?_))
    refine Ex.ret rfl rfl rfl ?_
    exact k
  have c1' := i1.mp c1
  (repeat (first | refine Ex.go rfl rfl ?_ | refine Ex.gf rfl rfl (by assumption) (by rfl) (by first | rfl | assumption) ?_))
  refine Ex.cv3 rfl rfl rfl g1 (by rfl) (by decide) rfl ?_
  refine q_opened h (fun hno G' hI F => ?_) (fun hyes G' st' v' ev hO V F => ?_)
  · rw [if_neg fun z => hno z.2] at k
    have k := k G' hI F
    (repeat (first | refine Ex.go rfl rfl ?_ | refine Ex.gf rfl rfl (by assumption) (by rfl) (by first | rfl | assumption) ?_))
    try (first | refine Ex.le0 ?_ | refine Ex.ln0 ?_)
    (repeat (first | refine Ex.go rfl rfl ?_ | refine Ex.gf rfl rfl (by assumption) (by rfl) (by first | rfl | assumption) ?_))
    refine Ex.ret rfl rfl rfl ?_
    exact k
  · rw [if_pos ⟨c1', hyes⟩] at k
    have evn : v.toNatClampNeg = v' := by rw [ev]; exact nI_clamp V.2.2.1
    have g1' : G'[1]? = some (mainC b st rs) := by rw [F.2 1 (by omega)]; exact g1
    have g12 := hO.1.1.1
    obtain ⟨e1, e2, e3⟩ := nI_iof c1'.1
    rw [evn, e1] at k
    have k := k G' (hO.vi V.1 V.2.1 V.2.2.1) F
    rw [e1]
    generalize hw : w.toNatClampNeg = wn at *
    have hw3 : wn < 3 := by have := c1'.2; omega
    (repeat (first | refine Ex.go rfl rfl ?_ | refine Ex.gf rfl rfl (by assumption) (by rfl) (by first | rfl | assumption) ?_))
    try (first | refine Ex.le0 ?_ | refine Ex.ln0 ?_)
    (repeat (first | refine Ex.go rfl rfl ?_ | refine Ex.gf rfl rfl (by assumption) (by rfl) (by first | rfl | assumption) ?_))
    refine Ex.cv1 rfl rfl rfl g12 (by rfl) (by decide) rfl ?_
    refine vo_due2 hO hw3 ?_
    (repeat (first | refine Ex.go rfl rfl ?_ | refine Ex.gf rfl rfl (by assumption) (by rfl) (by first | rfl | assumption) ?_))
    refine Ex.ret rfl rfl rfl ?_
    exact k
theorem why_no (hi : ¬ inP lg E v x y) : whyI lg E v x y = -1 := if_neg hi
theorem why_yes (hi : inP lg E v x y) : whyI lg E v x y = rsnI lg E v x y := if_pos hi
theorem rsn_no (hi : ¬ askP lg E v x y) : rsnI lg E v x y = 1 := if_neg hi
theorem rsn_yes (hi : askP lg E v x y) : rsnI lg E v x y = rsn1 lg E v.toNatClampNeg x y := if_pos hi
theorem q_why (h : BQ G b us lg E ke) (k : ∀ G', VI G' → FW G G' → Q (some (.int (whyI lg E v x y))) G') : Cx (d + 7) mX10_why [.ref 1, .int v, .int x, .int y] G Q := by
  obtain ⟨hb, ⟨st, rs, g1⟩, -, -, hI⟩ := id h
  have hI0 := hI
  obtain ⟨f12, g12⟩ := hI.g12
  refine Cx.body rfl rfl ?_
  (repeat (first | refine Ex.go rfl rfl ?_ | refine Ex.gf rfl rfl (by assumption) (by rfl) (by first | rfl | assumption) ?_))
  refine Ex.cv3 rfl rfl rfl g1 (by rfl) (by decide) rfl ?_
  refine q_asked h (fun P dP iP => ?_)
  (repeat (first | refine Ex.go rfl rfl ?_ | refine Ex.gf rfl rfl (by assumption) (by rfl) (by first | rfl | assumption) ?_))
  first | (refine Ex.brz (fun c1 => ?_) (fun c1 => ?_); rotate_left) | (refine Ex.brn (fun c1 => ?_) (fun c1 => ?_); rotate_left)
  · rw [why_no fun z => c1 (iP.mpr z)] at k
    have k := k G hI0 (FW.rfl' G)
    (repeat (first | refine Ex.go rfl rfl ?_ | refine Ex.gf rfl rfl (by assumption) (by rfl) (by first | rfl | assumption) ?_))
    refine Ex.ret rfl rfl rfl ?_
    exact k
  have hi := iP.mp c1
  rw [why_yes hi] at k
  (repeat (first | refine Ex.go rfl rfl ?_ | refine Ex.gf rfl rfl (by assumption) (by rfl) (by first | rfl | assumption) ?_))
  refine Ex.cv4 rfl rfl rfl g12 (by rfl) (by decide) rfl ?_
  refine q_open h hi (fun hno G' v' _ hN F => ?_) (fun hyes G' st' v' ev hO V F => ?_)
  · have g1' : G'[1]? = some (mainC b st rs) := by rw [F.2 1 (by omega)]; exact g1
    obtain ⟨sf, mk, g12'⟩ := hN.1
    rw [rsn_no hno] at k
    have k := k G' hN.2 F
    (repeat (first | refine Ex.go rfl rfl ?_ | refine Ex.gf rfl rfl (by assumption) (by rfl) (by first | rfl | assumption) ?_))
    refine Ex.cv1 rfl rfl rfl g12' (by rfl) (by decide) rfl ?_
    refine vn_reason hN ?_
    (repeat (first | refine Ex.go rfl rfl ?_ | refine Ex.gf rfl rfl (by assumption) (by rfl) (by first | rfl | assumption) ?_))
    refine Ex.ret rfl rfl rfl ?_
    exact k
  · have g1' : G'[1]? = some (mainC b st rs) := by rw [F.2 1 (by omega)]; exact g1
    have g12' := hO.1.1.1
    have evn : v.toNatClampNeg = v' := by rw [ev]; exact nI_clamp V.2.2.1
    rw [rsn_yes hyes, evn] at k
    have k := k G' (hO.vi V.1 V.2.1 V.2.2.1) F
    (repeat (first | refine Ex.go rfl rfl ?_ | refine Ex.gf rfl rfl (by assumption) (by rfl) (by first | rfl | assumption) ?_))
    refine Ex.cv1 rfl rfl rfl g12' (by rfl) (by decide) rfl ?_
    refine vo_reason hO V ?_
    (repeat (first | refine Ex.go rfl rfl ?_ | refine Ex.gf rfl rfl (by assumption) (by rfl) (by first | rfl | assumption) ?_))
    refine Ex.ret rfl rfl rfl ?_
    exact k
theorem rsn_ge {v : Nat} : ∀ (e i : Nat) (r : Int32), i + e ≤ 3 → ¬ r < 0 → ¬ dueR lg E v x y e i r < 0 := by
  intro e
  induction e with
  | zero => intro i r _ h; exact h
  | succ e ih =>
    intro i r hi h
    unfold dueR
    split
    · exact nI_pos (n := 3 + i) (by omega)
    · exact ih (i + 1) r (by omega) h
theorem fbl_lt {v : Nat} {g : Int32} : ∀ (e p q : Nat), fblO lg E v x y g e p = some q → q < p + e := by
  intro e
  induction e with
  | zero => intro p q h; cases h
  | succ e ih =>
    intro p q h
    unfold fblO at h
    split at h
    · split at h
      · cases h; omega
      · have := ih (p + 1) q h
        omega
    · cases h
theorem tubR_nn {ps al pl mk : Int} : ¬ tubR ps al pl mk < 0 := by
  unfold tubR
  by_cases h : (if al = 0 then ps < mk else ps * al < mk * (al - pl))
  · rw [if_pos h]; decide
  · rw [if_neg h]
    by_cases h2 : al < 10 * pl
    · rw [if_pos h2]; decide
    · rw [if_neg h2]; decide
theorem rsn_nn : ¬ rsnI lg E v x y < 0 := by
  unfold rsnI
  split
  · unfold rsn1
    split
    · decide
    · refine rsn_ge 3 0 _ (by omega) ?_
      unfold rsn2
      split
      · decide
      · split
        · decide
        · unfold rsn3
          cases hf : fblO lg E v.toNatClampNeg x y (setgs lg E v.toNatClampNeg 0 x y (wsl lg E v.toNatClampNeg).length) 25 0 with
          | some q =>
            have := fbl_lt 25 0 q hf
            exact nI_pos (n := 8 + 16 * q) (by omega)
          | none =>
            exact tubR_nn
  · decide
theorem may_no (hi : ¬ inP lg E v x y) : mayI lg E v x y = -1 := by
  unfold mayI
  rw [why_no hi]
  rfl
theorem may_yes (hi : inP lg E v x y) : mayI lg E v x y = if rsnI lg E v x y = 0 then setgs lg E v.toNatClampNeg 1 x y (wsl lg E v.toNatClampNeg).length else 0 := by
  have hn := rsn_nn (lg := lg) (E := E) (v := v) (x := x) (y := y)
  unfold mayI
  rw [why_yes hi, if_neg hn]
  by_cases q : rsnI lg E v x y = 0
  · rw [if_pos q, if_neg (by rw [q]; decide)]
  · rw [if_neg q, if_pos]
    refine Int32.lt_iff_toInt_lt.mpr ?_
    have h1 : ¬ (rsnI lg E v x y).toInt < (0 : Int) := fun z => hn (Int32.lt_iff_toInt_lt.mpr z)
    have h2 : ¬ (rsnI lg E v x y).toInt = (0 : Int) := fun z => q (Int32.toInt_inj.mp z)
    show (0 : Int) < _
    omega
/-- what is allowed, of the view opened -/
theorem q_allowed {v' : Nat} {st : Int32} (ev : v = nI v') (hi : inP lg E v x y) (hyes : askP lg E v x y) (hO : VO G lg E v' b x y st) (V : vfP lg E v' x y) (k : Q (some (.int (mayI lg E v x y))) G) : Cx (d + 5) mX9_allowed [.ref 12, .int x] G Q := by
  have evn : v.toNatClampNeg = v' := by rw [ev]; exact nI_clamp V.2.2.1
  rw [may_yes hi, rsn_yes hyes, evn] at k
  exact vo_allowed hO V k
theorem q_may (h : BQ G b us lg E ke) (k : ∀ G', VI G' → FW G G' → Q (some (.int (mayI lg E v x y))) G') : Cx (d + 7) mX10_may [.ref 1, .int v, .int x, .int y] G Q := by
  obtain ⟨hb, ⟨st, rs, g1⟩, -, -, hI⟩ := id h
  have hI0 := hI
  obtain ⟨f12, g12⟩ := hI.g12
  refine Cx.body rfl rfl ?_
  (repeat (first | refine Ex.go rfl rfl ?_ | refine Ex.gf rfl rfl (by assumption) (by rfl) (by first | rfl | assumption) ?_))
  refine Ex.cv3 rfl rfl rfl g1 (by rfl) (by decide) rfl ?_
  refine q_asked h (fun P dP iP => ?_)
  (repeat (first | refine Ex.go rfl rfl ?_ | refine Ex.gf rfl rfl (by assumption) (by rfl) (by first | rfl | assumption) ?_))
  first | (refine Ex.brz (fun c1 => ?_) (fun c1 => ?_); rotate_left) | (refine Ex.brn (fun c1 => ?_) (fun c1 => ?_); rotate_left)
  · rw [may_no fun z => c1 (iP.mpr z)] at k
    have k := k G hI0 (FW.rfl' G)
    (repeat (first | refine Ex.go rfl rfl ?_ | refine Ex.gf rfl rfl (by assumption) (by rfl) (by first | rfl | assumption) ?_))
    refine Ex.ret rfl rfl rfl ?_
    exact k
  have hi := iP.mp c1
  (repeat (first | refine Ex.go rfl rfl ?_ | refine Ex.gf rfl rfl (by assumption) (by rfl) (by first | rfl | assumption) ?_))
  refine Ex.cv4 rfl rfl rfl g12 (by rfl) (by decide) rfl ?_
  refine q_open h hi (fun hno G' v' _ hN F => ?_) (fun hyes G' st' v' ev hO V F => ?_)
  · have g1' : G'[1]? = some (mainC b st rs) := by rw [F.2 1 (by omega)]; exact g1
    obtain ⟨sf, mk, g12'⟩ := hN.1
    rw [may_yes hi, rsn_no hno, if_neg (by decide)] at k
    have k := k G' hN.2 F
    (repeat (first | refine Ex.go rfl rfl ?_ | refine Ex.gf rfl rfl (by assumption) (by rfl) (by first | rfl | assumption) ?_))
    refine Ex.cv1 rfl rfl rfl g12' (by rfl) (by decide) rfl ?_
    refine vn_allowed hN ?_
    (repeat (first | refine Ex.go rfl rfl ?_ | refine Ex.gf rfl rfl (by assumption) (by rfl) (by first | rfl | assumption) ?_))
    refine Ex.ret rfl rfl rfl ?_
    exact k
  · have g1' : G'[1]? = some (mainC b st rs) := by rw [F.2 1 (by omega)]; exact g1
    have g12' := hO.1.1.1
    have k := k G' (hO.vi V.1 V.2.1 V.2.2.1) F
    (repeat (first | refine Ex.go rfl rfl ?_ | refine Ex.gf rfl rfl (by assumption) (by rfl) (by first | rfl | assumption) ?_))
    refine Ex.cv1 rfl rfl rfl g12' (by rfl) (by decide) rfl ?_
    refine q_allowed ev hi hyes hO V ?_
    (repeat (first | refine Ex.go rfl rfl ?_ | refine Ex.gf rfl rfl (by assumption) (by rfl) (by first | rfl | assumption) ?_))
    refine Ex.ret rfl rfl rfl ?_
    exact k
theorem unt_no (hi : ¬ inP lg E v x y) : untI lg E v x y = -1 := by
  unfold untI
  rw [why_no hi]
  rfl
theorem unt_yes (hi : inP lg E v x y) : untI lg E v x y = clsN lg E v.toNatClampNeg y (min 400 (40000 - x.toNatClampNeg) + 1) (-1) x := by
  obtain ⟨e1, e2, e3⟩ := nI_iof hi.1.1
  unfold untI
  rw [why_yes hi]
  show _ = (if rsnI lg E (nI v.toNatClampNeg) x y = 0 then clsN lg E v.toNatClampNeg y (min 400 (40000 - x.toNatClampNeg)) x (x + 1) else -1)
  rw [cls_unt, ← e1]
theorem q_last {v' : Nat} {st : Int32} (hb : b = 2 ∨ b = 7) (C : CR G b us lg E ke) (hW : WF lg E) (ev : v = nI v') (hi : inP lg E v x y) (hO : VO G lg E v' b x y st) (V : vfP lg E v' x y) (k : ∀ G', VI G' → FW G G' → Q (some (.int (untI lg E v x y))) G') : Cx (d + 7) mX9_lastAllowedDay [.ref 12, .int x] G Q := by
  have evn : v.toNatClampNeg = v' := by rw [ev]; exact nI_clamp V.2.2.1
  obtain ⟨e1, e2, e3⟩ := nI_iof hi.2.1.1
  rw [unt_yes hi, evn] at k
  exact vo_until hb C hW hO V e1 (by have := hi.2.1.2; omega) k
theorem q_until (h : BQ G b us lg E ke) (k : ∀ G', VI G' → FW G G' → Q (some (.int (untI lg E v x y))) G') : Cx (d + 8) mX10_until [.ref 1, .int v, .int x, .int y] G Q := by
  obtain ⟨hb, ⟨st, rs, g1⟩, C, hW, hI⟩ := id h
  have hI0 := hI
  obtain ⟨f12, g12⟩ := hI.g12
  refine Cx.body rfl rfl ?_
  (repeat (first | refine Ex.go rfl rfl ?_ | refine Ex.gf rfl rfl (by assumption) (by rfl) (by first | rfl | assumption) ?_))
  refine Ex.cv3 rfl rfl rfl g1 (by rfl) (by decide) rfl ?_
  refine q_asked h (fun P dP iP => ?_)
  (repeat (first | refine Ex.go rfl rfl ?_ | refine Ex.gf rfl rfl (by assumption) (by rfl) (by first | rfl | assumption) ?_))
  first | (refine Ex.brz (fun c1 => ?_) (fun c1 => ?_); rotate_left) | (refine Ex.brn (fun c1 => ?_) (fun c1 => ?_); rotate_left)
  · rw [unt_no fun z => c1 (iP.mpr z)] at k
    have k := k G hI0 (FW.rfl' G)
    (repeat (first | refine Ex.go rfl rfl ?_ | refine Ex.gf rfl rfl (by assumption) (by rfl) (by first | rfl | assumption) ?_))
    refine Ex.ret rfl rfl rfl ?_
    exact k
  have hi := iP.mp c1
  (repeat (first | refine Ex.go rfl rfl ?_ | refine Ex.gf rfl rfl (by assumption) (by rfl) (by first | rfl | assumption) ?_))
  refine Ex.cv4 rfl rfl rfl g12 (by rfl) (by decide) rfl ?_
  refine q_open h hi (fun hno G' v' _ hN F => ?_) (fun hyes G' st' v' ev hO V F => ?_)
  · have g1' : G'[1]? = some (mainC b st rs) := by rw [F.2 1 (by omega)]; exact g1
    obtain ⟨sf, mk, g12'⟩ := hN.1
    have eu : untI lg E v x y = -1 := by
      unfold untI
      rw [why_yes hi, rsn_no hno]
      rfl
    rw [eu] at k
    have k := k G' hN.2 F
    (repeat (first | refine Ex.go rfl rfl ?_ | refine Ex.gf rfl rfl (by assumption) (by rfl) (by first | rfl | assumption) ?_))
    refine Ex.cv1 rfl rfl rfl g12' (by rfl) (by decide) rfl ?_
    refine vn_until hN hi.2.1.2 hi.2.1.1 ?_
    (repeat (first | refine Ex.go rfl rfl ?_ | refine Ex.gf rfl rfl (by assumption) (by rfl) (by first | rfl | assumption) ?_))
    refine Ex.ret rfl rfl rfl ?_
    exact k
  · have g1' : G'[1]? = some (mainC b st rs) := by rw [F.2 1 (by omega)]; exact g1
    have g12' := hO.1.1.1
    (repeat (first | refine Ex.go rfl rfl ?_ | refine Ex.gf rfl rfl (by assumption) (by rfl) (by first | rfl | assumption) ?_))
    refine Ex.cv1 rfl rfl rfl g12' (by rfl) (by decide) rfl ?_
    refine q_last hb (C.fw hb F) hW ev hi hO V (fun G2 hI2 F2 => ?_)
    have k := k G2 hI2 (F.trans F2)
    (repeat (first | refine Ex.go rfl rfl ?_ | refine Ex.gf rfl rfl (by assumption) (by rfl) (by first | rfl | assumption) ?_))
    refine Ex.ret rfl rfl rfl ?_
    exact k
theorem q_when (h : BQ G b us lg E ke) (k : ∀ G', VI G' → FW G G' → Q (some (.int (whnI lg E v p x y))) G') : Cx (d + 8) mX10_when [.ref 1, .int v, .int p, .int x, .int y] G Q := by
  obtain ⟨hb, ⟨st, rs, g1⟩, C, hW, -⟩ := id h
  unfold whnI at k
  refine Cx.body rfl rfl ?_
  (repeat (first | refine Ex.go rfl rfl ?_ | refine Ex.gf rfl rfl (by assumption) (by rfl) (by first | rfl | assumption) ?_))
  refine Ex.cv4 rfl rfl rfl g1 (by rfl) (by decide) rfl ?_
  refine q_partOn h (fun hno G' hI F => ?_) (fun hyes G' st' v' p' ev ep epn hO V hp F => ?_)
  · rw [if_neg hno] at k
    have k := k G' hI F
    (repeat (first | refine Ex.go rfl rfl ?_ | refine Ex.gf rfl rfl (by assumption) (by rfl) (by first | rfl | assumption) ?_))
    refine Ex.ret rfl rfl rfl ?_
    exact k
  · rw [if_pos hyes] at k
    have evn : v.toNatClampNeg = v' := by rw [ev]; exact nI_clamp V.2.2.1
    have g1' : G'[1]? = some (mainC b st rs) := by rw [F.2 1 (by omega)]; exact g1
    have g12 := hO.1.1.1
    obtain ⟨e1, e2, e3⟩ := nI_iof hyes.1.1.1
    have hx4 := hyes.1.1.2
    rw [evn, epn] at k
    rw [ep]
    (repeat (first | refine Ex.go rfl rfl ?_ | refine Ex.gf rfl rfl (by assumption) (by rfl) (by first | rfl | assumption) ?_))
    refine Ex.cv2 rfl rfl rfl g12 (by rfl) (by decide) rfl ?_
    refine vo_when hb (C.fw hb F) hW hO V hp e1 (by omega) (fun G2 hI2 F2 => ?_)
    have k := k G2 hI2 (F.trans F2)
    (repeat (first | refine Ex.go rfl rfl ?_ | refine Ex.gf rfl rfl (by assumption) (by rfl) (by first | rfl | assumption) ?_))
    refine Ex.ret rfl rfl rfl ?_
    exact k
theorem q_check {pr la : Int32} (h : BQ G b us lg E ke) (k : ∀ G', VI G' → FW G G' → Q (some (.int (chkI lg E v x y pr la))) G') : Cx (d + 8) mX10_check [.ref 1, .int v, .int x, .int y, .int pr, .int la] G Q := by
  obtain ⟨hb, ⟨st, rs, g1⟩, C, hW, hI⟩ := id h
  have hI0 := hI
  obtain ⟨f12, g12⟩ := hI.g12
  unfold chkI at k
  refine Cx.body rfl rfl ?_
  (repeat (first | refine Ex.go rfl rfl ?_ | refine Ex.gf rfl rfl (by assumption) (by rfl) (by first | rfl | assumption) ?_))
  refine Ex.cv3 rfl rfl rfl g1 (by rfl) (by decide) rfl ?_
  refine q_asked h (fun P dP iP => ?_)
  (repeat (first | refine Ex.go rfl rfl ?_ | refine Ex.gf rfl rfl (by assumption) (by rfl) (by first | rfl | assumption) ?_))
  first | (refine Ex.brz (fun c1 => ?_) (fun c1 => ?_); rotate_left) | (refine Ex.brn (fun c1 => ?_) (fun c1 => ?_); rotate_left)
  · rw [if_pos (by rw [why_no fun z => c1 (iP.mpr z)]; decide)] at k
    have k := k G hI0 (FW.rfl' G)
    (repeat (first | refine Ex.go rfl rfl ?_ | refine Ex.gf rfl rfl (by assumption) (by rfl) (by first | rfl | assumption) ?_))
    refine Ex.ret rfl rfl rfl ?_
    exact k
  have hi := iP.mp c1
  rw [if_neg (by rw [why_yes hi]; exact rsn_nn)] at k
  (repeat (first | refine Ex.go rfl rfl ?_ | refine Ex.gf rfl rfl (by assumption) (by rfl) (by first | rfl | assumption) ?_))
  refine Ex.cv4 rfl rfl rfl g12 (by rfl) (by decide) rfl ?_
  refine q_open h hi (fun hno G' v' _ hN F => ?_) (fun hyes G' st' v' ev hO V F => ?_)
  · have g1' : G'[1]? = some (mainC b st rs) := by rw [F.2 1 (by omega)]; exact g1
    obtain ⟨sf, mk, g12'⟩ := hN.1
    have em : mayI lg E v x y = 0 := by rw [may_yes hi, rsn_no hno, if_neg (by decide)]
    have eu : untI lg E v x y = -1 := by
      unfold untI
      rw [why_yes hi, rsn_no hno]
      rfl
    rw [em, eu] at k
    have k := k G' hN.2 F
    (repeat (first | refine Ex.go rfl rfl ?_ | refine Ex.gf rfl rfl (by assumption) (by rfl) (by first | rfl | assumption) ?_))
    refine Ex.cv1 rfl rfl rfl g12' (by rfl) (by decide) rfl ?_
    refine vn_allowed hN ?_
    (repeat (first | refine Ex.go rfl rfl ?_ | refine Ex.gf rfl rfl (by assumption) (by rfl) (by first | rfl | assumption) ?_))
    refine Ex.br (fun c2 => ?_) (fun c2 => ?_); rotate_left
    · rw [if_pos (show ¬ (0 : Int32) = pr from c2)] at k
      (repeat (first | refine Ex.go rfl rfl ?_ | refine Ex.gf rfl rfl (by assumption) (by rfl) (by first | rfl | assumption) ?_))
      refine Ex.ret rfl rfl rfl ?_
      exact k
    rw [if_neg (fun z => z c2)] at k
    (repeat (first | refine Ex.go rfl rfl ?_ | refine Ex.gf rfl rfl (by assumption) (by rfl) (by first | rfl | assumption) ?_))
    refine Ex.cv1 rfl rfl rfl g12' (by rfl) (by decide) rfl ?_
    refine vn_until hN hi.2.1.2 hi.2.1.1 ?_
    (repeat (first | refine Ex.go rfl rfl ?_ | refine Ex.gf rfl rfl (by assumption) (by rfl) (by first | rfl | assumption) ?_))
    refine Ex.br (fun c3 => ?_) (fun c3 => ?_)
    · rw [if_pos (show ¬ (-1 : Int32) = la from c3)] at k
      (repeat (first | refine Ex.go rfl rfl ?_ | refine Ex.gf rfl rfl (by assumption) (by rfl) (by first | rfl | assumption) ?_))
      refine Ex.ret rfl rfl rfl ?_
      exact k
    rw [if_neg (show ¬ ¬ (-1 : Int32) = la from c3)] at k
    (repeat (first | refine Ex.go rfl rfl ?_ | refine Ex.gf rfl rfl (by assumption) (by rfl) (by first | rfl | assumption) ?_))
    refine Ex.ret rfl rfl rfl ?_
    exact k
  · have g1' : G'[1]? = some (mainC b st rs) := by rw [F.2 1 (by omega)]; exact g1
    have g12' := hO.1.1.1
    have kI := hO.vi V.1 V.2.1 V.2.2.1
    (repeat (first | refine Ex.go rfl rfl ?_ | refine Ex.gf rfl rfl (by assumption) (by rfl) (by first | rfl | assumption) ?_))
    refine Ex.cv1 rfl rfl rfl g12' (by rfl) (by decide) rfl ?_
    refine q_allowed ev hi hyes hO V ?_
    generalize mayI lg E v x y = my at *
    (repeat (first | refine Ex.go rfl rfl ?_ | refine Ex.gf rfl rfl (by assumption) (by rfl) (by first | rfl | assumption) ?_))
    refine Ex.br (fun c2 => ?_) (fun c2 => ?_); rotate_left
    · have n2 : ¬ my = pr := c2
      rw [if_pos n2] at k
      have k := k G' kI F
      (repeat (first | refine Ex.go rfl rfl ?_ | refine Ex.gf rfl rfl (by assumption) (by rfl) (by first | rfl | assumption) ?_))
      refine Ex.ret rfl rfl rfl ?_
      exact k
    have n2 : my = pr := c2
    rw [if_neg (fun z => z n2)] at k
    (repeat (first | refine Ex.go rfl rfl ?_ | refine Ex.gf rfl rfl (by assumption) (by rfl) (by first | rfl | assumption) ?_))
    refine Ex.cv1 rfl rfl rfl g12' (by rfl) (by decide) rfl ?_
    refine q_last hb (C.fw hb F) hW ev hi hO V (fun G2 hI2 F2 => ?_)
    have k := k G2 hI2 (F.trans F2)
    generalize untI lg E v x y = uy at *
    (repeat (first | refine Ex.go rfl rfl ?_ | refine Ex.gf rfl rfl (by assumption) (by rfl) (by first | rfl | assumption) ?_))
    refine Ex.br (fun c3 => ?_) (fun c3 => ?_)
    · have n3 : ¬ uy = la := c3
      rw [if_pos n3] at k
      (repeat (first | refine Ex.go rfl rfl ?_ | refine Ex.gf rfl rfl (by assumption) (by rfl) (by first | rfl | assumption) ?_))
      refine Ex.ret rfl rfl rfl ?_
      exact k
    have n3 : ¬ ¬ uy = la := c3
    rw [if_neg n3] at k
    (repeat (first | refine Ex.go rfl rfl ?_ | refine Ex.gf rfl rfl (by assumption) (by rfl) (by first | rfl | assumption) ?_))
    refine Ex.ret rfl rfl rfl ?_
    exact k
end BR
