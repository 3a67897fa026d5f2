/-! The opened view: numbers, the reason, what is allowed. -/
def vfP (lg : Nat → Int32) (E v : Nat) (x y : Int32) : Prop := (∀ j, j < E → wfE lg j) ∧ E ≤ 6000 ∧ v < 2 ^ 31 ∧ v < (vsl lg E).length ∧ ent lg (vat lg E v) ≤ y ∧ dyy lg (vat lg E v) ≤ x ∧ x.toInt ≤ 40000 ∧ askP lg E (nI v) x y
theorem ask_vf {lg : Nat → Int32} {E v : Nat} {x y : Int32} (hW : ∀ j, j < E → wfE lg j) (hE : E ≤ 6000) (hv31 : v < 2 ^ 31) (h : askP lg E (nI v) x y) : vfP lg E v x y := by
  have ev : (nI v).toNatClampNeg = v := nI_clamp hv31
  have et : (nI v).toInt = v := nI_toInt hv31
  have h' := h
  unfold askP at h'
  rw [ev, et] at h'
  obtain ⟨h1, h2, h3, h4, h5⟩ := h'
  exact ⟨hW, hE, hv31, by omega, h4, h5, h1.2, h⟩
section OW
variable {d a v E : Nat} {G G1 : bo_G} {Q : Option Value → bo_G → Prop} {lg : Nat → Int32} {x y st : Int32}
theorem vf_24 (V : vfP lg E v x y) : (psl lg (knC lg y E) v).length ≤ 24 := psl_le2 V.1 V.2.1 knC_le V.2.2.1
theorem vf_6 (V : vfP lg E v x y) : (wsl lg (knC lg y E) v).length ≤ 6 := wsl_le2 V.1 V.2.1 knC_le V.2.2.1
theorem vo_greatest (hO : VO G lg E v a x y st) (V : vfP lg E v x y) (k : Q (some (.int (setgs lg E v 0 x y (wsl lg E v).length))) G) : Cx (d + 1) mX7_greatest [.ref 14] G Q := by
  have h6 := vf_6 V
  have e := (vo_valves (v := v) (x := x) (y := y) V.1 V.2.1).1.1
  refine vw_greatest hO.1.1.2.2.2.1 (by rw [dsL_len]; exact h6) ?_
  rw [dsL_len, e]
  exact k
theorem vo_least (hO : VO G lg E v a x y st) (V : vfP lg E v x y) (k : Q (some (.int (setgs lg E v 1 x y (wsl lg E v).length))) G) : Cx (d + 1) mX7_least [.ref 14] G Q := by
  have h6 := vf_6 V
  have e := (vo_valves (v := v) (x := x) (y := y) V.1 V.2.1).2.1
  refine vw_least hO.1.1.2.2.2.1 (by rw [dsL_len]; exact h6) ?_
  rw [dsL_len, e]
  exact k
theorem vo_pass (hO : VO G lg E v a x y st) (V : vfP lg E v x y) (k : Q (some (.int (pssd lg E v x y (wsl lg E v).length))) G) : Cx (d + 1) mX7_passTogether [.ref 14] G Q := by
  have h6 := vf_6 V
  have e := (vo_valves (v := v) (x := x) (y := y) V.1 V.2.1).2.2
  refine vw_pass hO.1.1.2.2.2.1 (by rw [psL_len]; exact h6) ?_
  rw [psL_len, e]
  exact k
theorem vo_tubes (hO : VO G lg E v a x y st) (V : vfP lg E v x y) (k : Q (some (.int (tubs lg E v 0 x y 25 0 0))) G) : Cx (d + 1) mX9_tubes [.ref 12] G Q := by
  have h24 := vf_24 V
  have hX := hO.1.1
  have e := tubs_sm (b := 0) V.1 V.2.1 V.2.2.1 V.2.2.2.2.2.2.2 rfl h24 25 0 (Nat.zero_le _) (by omega)
  have e : tubs lg E v 0 x y 25 0 0 = smC (tbT lg (knC lg y E) v 0 x y) (psl lg (knC lg y E) v).length := e
  rw [e] at k
  refine v_tubes hX.1 hX.2.1 rfl h24 (vo_cell hO) (fun i hi Q k => ?_) k
  have hP := (hO.1.2 i hi).1
  unfold pvI at hP
  refine pv_tubes hP ?_
  have e2 : tbT lg (knC lg y E) v 0 x y i = if num lg (pat lg (knC lg y E) v i) 1 = 2 then sho lg (knC lg y E) (nI v) (nI i) y 4 1 else 0 := by
    unfold tbT
    rw [if_pos (rfl : (0 : Int32) = 0)]
  rw [e2] at k
  exact k
theorem vo_plugged (hO : VO G lg E v a x y st) (V : vfP lg E v x y) (k : Q (some (.int (tubs lg E v 1 x y 25 0 0))) G) : Cx (d + 1) mX9_pluggedTubes [.ref 12] G Q := by
  have h24 := vf_24 V
  have hX := hO.1.1
  have e := tubs_sm (b := 1) V.1 V.2.1 V.2.2.1 V.2.2.2.2.2.2.2 rfl h24 25 0 (Nat.zero_le _) (by omega)
  have e : tubs lg E v 1 x y 25 0 0 = smC (tbT lg (knC lg y E) v 1 x y) (psl lg (knC lg y E) v).length := e
  rw [e] at k
  refine v_plugged hX.1 hX.2.1 rfl h24 (vo_cell hO) (fun i hi Q k => ?_) k
  have hP := (hO.1.2 i hi).1
  unfold pvI at hP
  refine pv_plugged hP ?_
  have e2 : tbT lg (knC lg y E) v 1 x y i = if num lg (pat lg (knC lg y E) v i) 1 = 2 then plg lg (knC lg y E) (nI v) (nI i) x y else 0 := by
    unfold tbT
    rw [if_neg (show ¬ (1 : Int32) = 0 by decide)]
  rw [e2] at k
  exact k
theorem three_at {f : Int32 → Int32} : ∀ i, i < 3 → bo_at [f 0, f 1, f 2] (nI i) = f (nI i)
  | 0, _ => rfl
  | 1, _ => rfl
  | 2, _ => rfl
  | i + 3, h => absurd h (by omega)
theorem vo_dueDay (hO : VO G lg E v a x y st) {i : Nat} (hi : i < 3) (k : Q (some (.int (duo lg E v (nI i) x y))) G) : Cx (d + 1) mX1_dueDay [.ref 18, .int (nI i)] G Q := by
  refine pw_due hO.1.1.2.2.2.2 ?_
  rw [three_at (f := fun kd => dgC lg (dyy lg (vat lg E v)) v x y (knC lg y E) kd) i hi, three_at (f := fun kd => ruC lg y (knC lg y E) 1 kd) i hi, three_at (f := fun kd => ruC lg y (knC lg y E) 2 kd) i hi]
  rw [vo_due] at k
  exact k
theorem vo_due2 (hO : VO G lg E v a x y st) {i : Nat} (hi : i < 3) (k : Q (some (.int (duo lg E v (nI i) x y))) G) : Cx (d + 2) mX9_dueDay [.ref 12, .int (nI i)] G Q := by
  have g0 := hO.1.1.1
  have g18 := hO.1.1.2.2.2.2.1
  refine Cx.body rfl rfl ?_
  (repeat (first | refine Ex.go rfl rfl ?_ | refine Ex.gf rfl rfl (by assumption) (by rfl) (by first | rfl | assumption) ?_))
  refine Ex.cv1 rfl rfl rfl g18 (by rfl) (by decide) rfl ?_
  refine vo_dueDay hO hi ?_
  (repeat (first | refine Ex.go rfl rfl ?_ | refine Ex.gf rfl rfl (by assumption) (by rfl) (by first | rfl | assumption) ?_))
  refine Ex.ret rfl rfl rfl ?_
  exact k
theorem vo_number {w : Int32} (hO : VO G lg E v a x y st) (V : vfP lg E v x y) (k : Q (some (.int (hldN lg E v w x y))) G) : Cx (d + 2) mX9_number [.ref 12, .int w] G Q := by
  have g0 := hO.1.1.1
  have g14 := hO.1.1.2.2.2.1.1
  have g18 := hO.1.1.2.2.2.2.1
  unfold hldN at k
  refine Cx.body rfl rfl ?_
  (repeat (first | refine Ex.go rfl rfl ?_ | refine Ex.gf rfl rfl (by assumption) (by rfl) (by first | rfl | assumption) ?_))
  rcases sw6 w.toInt with hw | hw | hw | hw | hw | hw | hw
  · rw [if_neg (by omega), if_neg (by omega), if_neg (by omega), if_neg (by omega), if_neg (by omega), if_neg (by omega)] at k
    refine Ex.tsw 82 rfl (bo_tswD hw) (by decide) ?_
    (repeat (first | refine Ex.go rfl rfl ?_ | refine Ex.gf rfl rfl (by assumption) (by rfl) (by first | rfl | assumption) ?_))
    refine Ex.ret rfl rfl rfl ?_
    exact k
  · rw [if_pos hw] at k
    refine Ex.tsw 40 rfl (by rw [hw]; rfl) (by decide) ?_
    (repeat (first | refine Ex.go rfl rfl ?_ | refine Ex.gf rfl rfl (by assumption) (by rfl) (by first | rfl | assumption) ?_))
    refine Ex.cv0 rfl rfl rfl g14 (by rfl) (by decide) rfl ?_
    refine vo_greatest hO V ?_
    (repeat (first | refine Ex.go rfl rfl ?_ | refine Ex.gf rfl rfl (by assumption) (by rfl) (by first | rfl | assumption) ?_))
    refine Ex.ret rfl rfl rfl ?_
    exact k
  · rw [if_neg (by omega), if_pos hw] at k
    refine Ex.tsw 48 rfl (by rw [hw]; rfl) (by decide) ?_
    (repeat (first | refine Ex.go rfl rfl ?_ | refine Ex.gf rfl rfl (by assumption) (by rfl) (by first | rfl | assumption) ?_))
    refine Ex.cv0 rfl rfl rfl g14 (by rfl) (by decide) rfl ?_
    refine vo_least hO V ?_
    (repeat (first | refine Ex.go rfl rfl ?_ | refine Ex.gf rfl rfl (by assumption) (by rfl) (by first | rfl | assumption) ?_))
    refine Ex.ret rfl rfl rfl ?_
    exact k
  · rw [if_neg (by omega), if_neg (by omega), if_pos hw] at k
    refine Ex.tsw 56 rfl (by rw [hw]; rfl) (by decide) ?_
    (repeat (first | refine Ex.go rfl rfl ?_ | refine Ex.gf rfl rfl (by assumption) (by rfl) (by first | rfl | assumption) ?_))
    refine Ex.cv0 rfl rfl rfl g14 (by rfl) (by decide) rfl ?_
    refine vo_pass hO V ?_
    (repeat (first | refine Ex.go rfl rfl ?_ | refine Ex.gf rfl rfl (by assumption) (by rfl) (by first | rfl | assumption) ?_))
    refine Ex.ret rfl rfl rfl ?_
    exact k
  · rw [if_neg (by omega), if_neg (by omega), if_neg (by omega), if_pos hw] at k
    refine Ex.tsw 64 rfl (by rw [hw]; rfl) (by decide) ?_
    (repeat (first | refine Ex.go rfl rfl ?_ | refine Ex.gf rfl rfl (by assumption) (by rfl) (by first | rfl | assumption) ?_))
    refine Ex.cv0 rfl rfl rfl g0 (by rfl) (by decide) rfl ?_
    refine vo_tubes hO V ?_
    (repeat (first | refine Ex.go rfl rfl ?_ | refine Ex.gf rfl rfl (by assumption) (by rfl) (by first | rfl | assumption) ?_))
    refine Ex.ret rfl rfl rfl ?_
    exact k
  · rw [if_neg (by omega), if_neg (by omega), if_neg (by omega), if_neg (by omega), if_pos hw] at k
    refine Ex.tsw 69 rfl (by rw [hw]; rfl) (by decide) ?_
    (repeat (first | refine Ex.go rfl rfl ?_ | refine Ex.gf rfl rfl (by assumption) (by rfl) (by first | rfl | assumption) ?_))
    refine Ex.cv0 rfl rfl rfl g0 (by rfl) (by decide) rfl ?_
    refine vo_plugged hO V ?_
    (repeat (first | refine Ex.go rfl rfl ?_ | refine Ex.gf rfl rfl (by assumption) (by rfl) (by first | rfl | assumption) ?_))
    refine Ex.ret rfl rfl rfl ?_
    exact k
  · rw [if_neg (by omega), if_neg (by omega), if_neg (by omega), if_neg (by omega), if_neg (by omega), if_pos hw] at k
    rw [vo_owner] at k
    refine Ex.tsw 74 rfl (by rw [hw]; rfl) (by decide) ?_
    (repeat (first | refine Ex.go rfl rfl ?_ | refine Ex.gf rfl rfl (by assumption) (by rfl) (by first | rfl | assumption) ?_))
    refine Ex.cv0 rfl rfl rfl g18 (by rfl) (by decide) rfl ?_
    refine pw_owner hO.1.1.2.2.2.2 ?_
    (repeat (first | refine Ex.go rfl rfl ?_ | refine Ex.gf rfl rfl (by assumption) (by rfl) (by first | rfl | assumption) ?_))
    refine Ex.ret rfl rfl rfl ?_
    exact k
theorem vo_reasonOfTubes (hO : VO G lg E v a x y st) (V : vfP lg E v x y) (k : Q (some (.int (tubR (pssd lg E v x y (wsl lg E v).length).toInt (tubs lg E v 0 x y 25 0 0).toInt (tubs lg E v 1 x y 25 0 0).toInt (num lg (vat lg E v) 2).toInt))) G) : Cx (d + 2) mX9_reasonOfTubes [.ref 12] G Q := by
  have g0 := hO.1.1.1
  have g14 := hO.1.1.2.2.2.1.1
  have b0 := tubs_rng (v := v) (x := x) (y := y) (b := 0) V.1 25 0 0 (by omega) (by decide)
  have b1 := tubs_rng (v := v) (x := x) (y := y) (b := 1) V.1 25 0 0 (by omega) (by decide)
  have h6 := wsl_le V.1 V.2.1 V.2.2.1
  have b2 := pssd_rng (x := x) (y := y) V.1 h6 (wsl lg E v).length (Nat.le_refl _)
  have b3 := (wf_v V.1 V.2.2.2.1).2.2.2.1
  have t0 : ∀ Q : Option Value → bo_G → Prop, Q (some (.int (tubs lg E v 0 x y 25 0 0))) G → Cx (d + 1) mX9_tubes [.ref 12] G Q := fun Q k => vo_tubes hO V k
  have t1 : ∀ Q : Option Value → bo_G → Prop, Q (some (.int (tubs lg E v 1 x y 25 0 0))) G → Cx (d + 1) mX9_pluggedTubes [.ref 12] G Q := fun Q k => vo_plugged hO V k
  have t2 : ∀ Q : Option Value → bo_G → Prop, Q (some (.int (pssd lg E v x y (wsl lg E v).length))) G → Cx (d + 1) mX7_passTogether [.ref 14] G Q := fun Q k => vo_pass hO V k
  clear hO V
  generalize tubs lg E v 0 x y 25 0 0 = al at *
  generalize tubs lg E v 1 x y 25 0 0 = pl at *
  generalize pssd lg E v x y (wsl lg E v).length = ps at *
  generalize num lg (vat lg E v) 2 = mk at *
  unfold tubR at k
  have hsub : (al - pl).toInt = al.toInt - pl.toInt := z_sub rfl rfl (by omega)
  have m1 := z_pb (show 0 ≤ ps.toInt by omega) (show ps.toInt ≤ 600000 by omega) (show 0 ≤ al.toInt by omega) (show al.toInt ≤ 12500 by omega)
  have l1 : (ps.toInt64 * al.toInt64).toInt = ps.toInt * al.toInt := l_mul (l_of rfl) (l_of rfl) (by omega)
  have m2 : -1250000000 ≤ mk.toInt * (al.toInt - pl.toInt) ∧ mk.toInt * (al.toInt - pl.toInt) ≤ 1250000000 := by
    have q1 := z_pb b3.1 b3.2 (show 0 ≤ al.toInt by omega) (show al.toInt ≤ 12500 by omega)
    have q2 := z_pb b3.1 b3.2 (show 0 ≤ pl.toInt by omega) (show pl.toInt ≤ 12500 by omega)
    rw [Int.mul_sub]
    omega
  have l2 : (mk.toInt64 * (al - pl).toInt64).toInt = mk.toInt * (al.toInt - pl.toInt) := l_mul (l_of rfl) (l_of hsub) (by omega)
  have hz : (10 * pl).toInt = 10 * pl.toInt := z_mul rfl rfl (by omega)
  have tail : ∀ b : Int32, (b = 1 ∧ (if al.toInt = 0 then ps.toInt < mk.toInt else ps.toInt * al.toInt < mk.toInt * (al.toInt - pl.toInt))) ∨ (b = 0 ∧ ¬ (if al.toInt = 0 then ps.toInt < mk.toInt else ps.toInt * al.toInt < mk.toInt * (al.toInt - pl.toInt))) → Ex (d + 2) mX9_reasonOfTubes (64, [(0, .ref 12), (1, .int al), (2, .int pl), (3, .long ps.toInt64)], [.int b], G) Q := by
    rintro b (⟨rfl, hb⟩ | ⟨rfl, hb⟩)
    · rw [if_pos hb] at k
      (repeat (first | refine Ex.go rfl rfl ?_ | refine Ex.gf rfl rfl (by assumption) (by rfl) (by first | rfl | assumption) ?_))
      try (first | refine Ex.le0 ?_ | refine Ex.ln0 ?_)
      (repeat (first | refine Ex.go rfl rfl ?_ | refine Ex.gf rfl rfl (by assumption) (by rfl) (by first | rfl | assumption) ?_))
      refine Ex.ret rfl rfl rfl ?_
      exact k
    · rw [if_neg hb] at k
      (repeat (first | refine Ex.go rfl rfl ?_ | refine Ex.gf rfl rfl (by assumption) (by rfl) (by first | rfl | assumption) ?_))
      try (first | refine Ex.le0 ?_ | refine Ex.ln0 ?_)
      (repeat (first | refine Ex.go rfl rfl ?_ | refine Ex.gf rfl rfl (by assumption) (by rfl) (by first | rfl | assumption) ?_))
      refine Ex.br (fun c1 => ?_) (fun c1 => ?_)
      · have c2 := Int32.le_iff_toInt_le.mp c1
        rw [show (Int32.ofInt 10 * pl).toInt = 10 * pl.toInt from hz] at c2
        rw [if_neg (by omega)] at k
        (repeat (first | refine Ex.go rfl rfl ?_ | refine Ex.gf rfl rfl (by assumption) (by rfl) (by first | rfl | assumption) ?_))
        refine Ex.ret rfl rfl rfl ?_
        exact k
      · have c2 := Int32.lt_iff_toInt_lt.mp (Int32.not_le.mp c1)
        rw [show (Int32.ofInt 10 * pl).toInt = 10 * pl.toInt from hz] at c2
        rw [if_pos (by omega)] at k
        (repeat (first | refine Ex.go rfl rfl ?_ | refine Ex.gf rfl rfl (by assumption) (by rfl) (by first | rfl | assumption) ?_))
        refine Ex.ret rfl rfl rfl ?_
        exact k
  refine Cx.body rfl rfl ?_
  (repeat (first | refine Ex.go rfl rfl ?_ | refine Ex.gf rfl rfl (by assumption) (by rfl) (by first | rfl | assumption) ?_))
  refine Ex.cv0 rfl rfl rfl g0 (by rfl) (by decide) rfl ?_
  refine t0 _ ?_
  (repeat (first | refine Ex.go rfl rfl ?_ | refine Ex.gf rfl rfl (by assumption) (by rfl) (by first | rfl | assumption) ?_))
  refine Ex.cv0 rfl rfl rfl g0 (by rfl) (by decide) rfl ?_
  refine t1 _ ?_
  (repeat (first | refine Ex.go rfl rfl ?_ | refine Ex.gf rfl rfl (by assumption) (by rfl) (by first | rfl | assumption) ?_))
  refine Ex.cv0 rfl rfl rfl g14 (by rfl) (by decide) rfl ?_
  refine t2 _ ?_
  (repeat (first | refine Ex.go rfl rfl ?_ | refine Ex.gf rfl rfl (by assumption) (by rfl) (by first | rfl | assumption) ?_))
  refine Ex.br (fun c1 => ?_) (fun c1 => ?_)
  · have n1 : ¬ al.toInt = 0 := fun z => c1 (Int32.toInt_inj.mp z)
    (repeat (first | refine Ex.go rfl rfl ?_ | refine Ex.gf rfl rfl (by assumption) (by rfl) (by first | rfl | assumption) ?_))
    refine Ex.br (fun c2 => ?_) (fun c2 => ?_)
    · have c3 := lcmp_ge c2
      rw [l1, l2] at c3
      (repeat (first | exact tail 0 (Or.inr ⟨rfl, by rw [if_neg n1]; omega⟩) | refine Ex.go rfl rfl ?_ | refine Ex.gf rfl rfl (by assumption) (by rfl) (by first | rfl | assumption) ?_))
    · have c3 := lcmp_nge c2
      rw [l1, l2] at c3
      (repeat (first | exact tail 1 (Or.inl ⟨rfl, by rw [if_neg n1]; omega⟩) | refine Ex.go rfl rfl ?_ | refine Ex.gf rfl rfl (by assumption) (by rfl) (by first | rfl | assumption) ?_))
  · have n1 : al.toInt = 0 := by rw [Decidable.not_not.mp c1]; rfl
    (repeat (first | refine Ex.go rfl rfl ?_ | refine Ex.gf rfl rfl (by assumption) (by rfl) (by first | rfl | assumption) ?_))
    refine Ex.br (fun c2 => ?_) (fun c2 => ?_)
    · have c3 := lcmp_ge c2
      rw [Int32.toInt_toInt64, Int32.toInt_toInt64] at c3
      (repeat (first | exact tail 0 (Or.inr ⟨rfl, by rw [if_pos n1]; omega⟩) | refine Ex.go rfl rfl ?_ | refine Ex.gf rfl rfl (by assumption) (by rfl) (by first | rfl | assumption) ?_))
    · have c3 := lcmp_nge c2
      rw [Int32.toInt_toInt64, Int32.toInt_toInt64] at c3
      (repeat (first | exact tail 1 (Or.inl ⟨rfl, by rw [if_pos n1]; omega⟩) | refine Ex.go rfl rfl ?_ | refine Ex.gf rfl rfl (by assumption) (by rfl) (by first | rfl | assumption) ?_))
/-- the reason, where the vessel is there -/
theorem vo_reason (hO : VO G lg E v a x y st) (V : vfP lg E v x y) (k : Q (some (.int (rsn1 lg E v x y))) G) : Cx (d + 4) mX9_reason [.ref 12, .int x] G Q := by
  have g0 := hO.1.1.1
  have hq := hO.1.1.2.1
  have g14 := hO.1.1.2.2.2.1.1
  have hP := hO.1.1.2.2.2.2
  have g18 := hP.1
  have h24 := vf_24 V
  have hset := (vo_valves (v := v) (x := x) (y := y) V.1 V.2.1).1.2
  unfold rsn1 at k
  -- behind the dues
  have rest : Q (some (.int (rsn2 lg E v x y))) G → ∀ b : Int32, Ex (d + 4) mX9_reason (50, [(0, .ref 12), (1, .int x), (2, .int b)], [], G) Q := by
    intro k b
    unfold rsn2 at k
    (repeat (first | refine Ex.go rfl rfl ?_ | refine Ex.gf rfl rfl (by assumption) (by rfl) (by first | rfl | assumption) ?_))
    refine Ex.cv0 rfl rfl rfl g18 (by rfl) (by decide) rfl ?_
    refine pw_untested hP ?_
    (repeat (first | refine Ex.go rfl rfl ?_ | refine Ex.gf rfl rfl (by assumption) (by rfl) (by first | rfl | assumption) ?_))
    first | (refine Ex.brz (fun c1 => ?_) (fun c1 => ?_); rotate_left) | (refine Ex.brn (fun c1 => ?_) (fun c1 => ?_); rotate_left)
    rotate_left
    · rw [if_pos ((vo_mend V.1).mp c1)] at k
      (repeat (first | refine Ex.go rfl rfl ?_ | refine Ex.gf rfl rfl (by assumption) (by rfl) (by first | rfl | assumption) ?_))
      refine Ex.ret rfl rfl rfl ?_
      exact k
    rw [if_neg fun z => c1 ((vo_mend V.1).mpr z)] at k
    (repeat (first | refine Ex.go rfl rfl ?_ | refine Ex.gf rfl rfl (by assumption) (by rfl) (by first | rfl | assumption) ?_))
    refine Ex.cv0 rfl rfl rfl g14 (by rfl) (by decide) rfl ?_
    refine vo_greatest hO V ?_
    unfold rsn3 at k
    generalize setgs lg E v 0 x y (wsl lg E v).length = g at *
    (repeat (first | refine Ex.go rfl rfl ?_ | refine Ex.gf rfl rfl (by assumption) (by rfl) (by first | rfl | assumption) ?_))
    refine Ex.br (fun c2 => ?_) (fun c2 => ?_); rotate_left
    · have c3 : g = -1 := Decidable.not_not.mp c2
      rw [if_pos (by rw [c3]; decide)] at k
      (repeat (first | refine Ex.go rfl rfl ?_ | refine Ex.gf rfl rfl (by assumption) (by rfl) (by first | rfl | assumption) ?_))
      refine Ex.ret rfl rfl rfl ?_
      exact k
    have c3 : ¬ g = -1 := c2
    have c4 : ¬ g < 0 := fun z => by
      have z2 : g.toInt < (0 : Int) := Int32.lt_iff_toInt_lt.mp z
      rcases hset with q | q
      · exact c3 q
      · omega
    rw [if_neg c4] at k
    (repeat (first | refine Ex.go rfl rfl ?_ | refine Ex.gf rfl rfl (by assumption) (by rfl) (by first | rfl | assumption) ?_))
    refine Ex.cv2 rfl rfl rfl g0 (by rfl) (by decide) rfl ?_
    refine v_firstBelow g0 hq rfl h24 (vo_cell hO) (B := fun p => brZ lg E v p x y) (fun i hi Q k => vo_bears hO V.1 V.2.1 V.2.2.1 V.2.2.2.1 V.2.2.2.2.1 V.2.2.2.2.2.1 V.2.2.2.2.2.2.1 hi Q k) (fun hno => ?_) (fun i hi hb hbef => ?_)
    · rw [fbl_none V.1 V.2.1 V.2.2.1 V.2.2.2.2.2.2.2 hno 25 0 (by omega)] at k
      (repeat (first | refine Ex.go rfl rfl ?_ | refine Ex.gf rfl rfl (by assumption) (by rfl) (by first | rfl | assumption) ?_))
      try (first | refine Ex.le0 ?_ | refine Ex.ln0 ?_)
      (repeat (first | refine Ex.go rfl rfl ?_ | refine Ex.gf rfl rfl (by assumption) (by rfl) (by first | rfl | assumption) ?_))
      refine Ex.cv0 rfl rfl rfl g0 (by rfl) (by decide) rfl ?_
      refine vo_reasonOfTubes hO V ?_
      (repeat (first | refine Ex.go rfl rfl ?_ | refine Ex.gf rfl rfl (by assumption) (by rfl) (by first | rfl | assumption) ?_))
      refine Ex.ret rfl rfl rfl ?_
      exact k
    · rw [fbl_some V.1 V.2.1 V.2.2.1 V.2.2.2.2.2.2.2 hi hb hbef 25 0 (by omega) (by omega) (by omega)] at k
      have k : Q (some (.int (nI (8 + 16 * i)))) G := k
      have e8 : nI 8 + nI 16 * nI i = nI (8 + 16 * i) := by rw [pk_mul, nI_add]
      rw [← e8] at k
      (repeat (first | refine Ex.go rfl rfl ?_ | refine Ex.gf rfl rfl (by assumption) (by rfl) (by first | rfl | assumption) ?_))
      refine Ex.br (fun c5 => ?_) (fun c5 => ?_); rotate_left
      · have c6 : nI i = -1 := Decidable.not_not.mp c5
        have c7 := nI_toInt (n := i) (by omega)
        rw [c6] at c7
        have c8 : (-1 : Int) = (i : Int) := c7
        omega
      (repeat (first | refine Ex.go rfl rfl ?_ | refine Ex.gf rfl rfl (by assumption) (by rfl) (by first | rfl | assumption) ?_))
      refine Ex.ret rfl rfl rfl ?_
      exact k
  have dues : Q (some (.int (dueR lg E v x y 3 0 (rsn2 lg E v x y)))) G → ∀ (e i : Nat) (b : Int32), b = nI i → i + e = 3 → (Q (some (.int (dueR lg E v x y e i (rsn2 lg E v x y)))) G) → Ex (d + 4) mX9_reason (23, [(0, .ref 12), (1, .int x), (2, .int b)], [], G) Q := by
    intro _ e
    induction e with
    | zero =>
      intro i b hb hi k
      have hi3 : i = 3 := by omega
      have hb2 : nI 3 ≤ b := by rw [hb, hi3]; exact Int32.le_refl _
      clear hb
      have rest := rest k b
      (repeat (first | refine Ex.go rfl rfl ?_ | refine Ex.gf rfl rfl (by assumption) (by rfl) (by first | rfl | assumption) ?_))
      refine Ex.br (fun c1 => ?_) (fun c1 => ?_); rotate_left
      · exact absurd hb2 c1
      (repeat (first | exact rest | refine Ex.go rfl rfl ?_ | refine Ex.gf rfl rfl (by assumption) (by rfl) (by first | rfl | assumption) ?_))
    | succ e ih =>
      intro i b hb hi k
      unfold dueR at k
      have nx := ih (i + 1) (b + 1) (by rw [hb]; exact nI_1 i) (by omega)
      have e3 : nI 3 + nI i = nI (3 + i) := nI_add 3 i
      subst hb
      (repeat (first | refine Ex.go rfl rfl ?_ | refine Ex.gf rfl rfl (by assumption) (by rfl) (by first | rfl | assumption) ?_))
      refine Ex.br (fun c1 => ?_) (fun c1 => ?_)
      · have := (n_ge (a := i) (b := 3) (by omega) (by omega)).mp c1
        omega
      (repeat (first | refine Ex.go rfl rfl ?_ | refine Ex.gf rfl rfl (by assumption) (by rfl) (by first | rfl | assumption) ?_))
      refine Ex.cv1 rfl rfl rfl g18 (by rfl) (by decide) rfl ?_
      refine vo_dueDay hO (by omega) ?_
      (repeat (first | refine Ex.go rfl rfl ?_ | refine Ex.gf rfl rfl (by assumption) (by rfl) (by first | rfl | assumption) ?_))
      refine Ex.br (fun c2 => ?_) (fun c2 => ?_)
      · rw [if_neg (Int32.not_lt.mpr c2)] at k
        have nx := nx k
        (repeat (first | exact nx | refine Ex.go rfl rfl ?_ | refine Ex.gf rfl rfl (by assumption) (by rfl) (by first | rfl | assumption) ?_))
      · rw [if_pos (Int32.not_le.mp c2), ← e3] at k
        (repeat (first | refine Ex.go rfl rfl ?_ | refine Ex.gf rfl rfl (by assumption) (by rfl) (by first | rfl | assumption) ?_))
        refine Ex.ret rfl rfl rfl ?_
        exact k
  refine Cx.body rfl rfl ?_
  (repeat (first | refine Ex.go rfl rfl ?_ | refine Ex.gf rfl rfl (by assumption) (by rfl) (by first | rfl | assumption) ?_))
  try (first | refine Ex.le0 ?_ | refine Ex.ln0 ?_)
  (repeat (first | refine Ex.go rfl rfl ?_ | refine Ex.gf rfl rfl (by assumption) (by rfl) (by first | rfl | assumption) ?_))
  refine Ex.cv0 rfl rfl rfl g18 (by rfl) (by decide) rfl ?_
  refine pw_stopped hP ?_
  (repeat (first | refine Ex.go rfl rfl ?_ | refine Ex.gf rfl rfl (by assumption) (by rfl) (by first | rfl | assumption) ?_))
  first | (refine Ex.brz (fun c1 => ?_) (fun c1 => ?_); rotate_left) | (refine Ex.brn (fun c1 => ?_) (fun c1 => ?_); rotate_left)
  rotate_left
  · rw [if_pos ((vo_stop V.1).mp c1)] at k
    (repeat (first | refine Ex.go rfl rfl ?_ | refine Ex.gf rfl rfl (by assumption) (by rfl) (by first | rfl | assumption) ?_))
    refine Ex.ret rfl rfl rfl ?_
    exact k
  rw [if_neg fun z => c1 ((vo_stop V.1).mpr z)] at k
  have l0 := dues k 3 0 0 rfl rfl k
  (repeat (first | exact l0 | refine Ex.go rfl rfl ?_ | refine Ex.gf rfl rfl (by assumption) (by rfl) (by first | rfl | assumption) ?_))
/-- the reason, where it isn't -/
theorem vn_reason {z : Int32} (h : VN0 G v a y) (k : Q (some (.int 1)) G) : Cx d mX9_reason [.ref 12, .int z] G Q := by
  obtain ⟨⟨sf, mk, g0⟩, -⟩ := h
  refine Cx.body rfl rfl ?_
  (repeat (first | refine Ex.go rfl rfl ?_ | refine Ex.gf rfl rfl (by assumption) (by rfl) (by first | rfl | assumption) ?_))
  try (first | refine Ex.le0 ?_ | refine Ex.ln0 ?_)
  (repeat (first | refine Ex.go rfl rfl ?_ | refine Ex.gf rfl rfl (by assumption) (by rfl) (by first | rfl | assumption) ?_))
  refine Ex.ret rfl rfl rfl ?_
  exact k
theorem vo_allowed (hO : VO G lg E v a x y st) (V : vfP lg E v x y) (k : Q (some (.int (if rsn1 lg E v x y = 0 then setgs lg E v 1 x y (wsl lg E v).length else 0))) G) : Cx (d + 5) mX9_allowed [.ref 12, .int x] G Q := by
  have g0 := hO.1.1.1
  have g14 := hO.1.1.2.2.2.1.1
  refine Cx.body rfl rfl ?_
  (repeat (first | refine Ex.go rfl rfl ?_ | refine Ex.gf rfl rfl (by assumption) (by rfl) (by first | rfl | assumption) ?_))
  refine Ex.cv1 rfl rfl rfl g0 (by rfl) (by decide) rfl ?_
  refine vo_reason hO V ?_
  generalize rsn1 lg E v x y = rr at *
  (repeat (first | refine Ex.go rfl rfl ?_ | refine Ex.gf rfl rfl (by assumption) (by rfl) (by first | rfl | assumption) ?_))
  refine Ex.br (fun c => ?_) (fun c => ?_)
  · rw [if_neg (show ¬ rr = 0 from c)] at k
    (repeat (first | refine Ex.go rfl rfl ?_ | refine Ex.gf rfl rfl (by assumption) (by rfl) (by first | rfl | assumption) ?_))
    refine Ex.ret rfl rfl rfl ?_
    exact k
  rw [if_pos (show rr = 0 from Decidable.not_not.mp c)] at k
  (repeat (first | refine Ex.go rfl rfl ?_ | refine Ex.gf rfl rfl (by assumption) (by rfl) (by first | rfl | assumption) ?_))
  refine Ex.cv0 rfl rfl rfl g14 (by rfl) (by decide) rfl ?_
  refine vo_least hO V ?_
  (repeat (first | refine Ex.go rfl rfl ?_ | refine Ex.gf rfl rfl (by assumption) (by rfl) (by first | rfl | assumption) ?_))
  refine Ex.ret rfl rfl rfl ?_
  exact k
theorem vn_allowed {z : Int32} (h : VN0 G v a y) (k : Q (some (.int 0)) G) : Cx (d + 1) mX9_allowed [.ref 12, .int z] G Q := by
  obtain ⟨sf, mk, g0⟩ := h.1
  refine Cx.body rfl rfl ?_
  (repeat (first | refine Ex.go rfl rfl ?_ | refine Ex.gf rfl rfl (by assumption) (by rfl) (by first | rfl | assumption) ?_))
  refine Ex.cv1 rfl rfl rfl g0 (by rfl) (by decide) rfl ?_
  refine vn_reason h ?_
  (repeat (first | refine Ex.go rfl rfl ?_ | refine Ex.gf rfl rfl (by assumption) (by rfl) (by first | rfl | assumption) ?_))
  try (first | refine Ex.le0 ?_ | refine Ex.ln0 ?_)
  (repeat (first | refine Ex.go rfl rfl ?_ | refine Ex.gf rfl rfl (by assumption) (by rfl) (by first | rfl | assumption) ?_))
  refine Ex.ret rfl rfl rfl ?_
  exact k
end OW
