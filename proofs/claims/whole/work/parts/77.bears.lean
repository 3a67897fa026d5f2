/-! The class's view of a part: thickness, doubts, what it bears. -/
section CL
variable {d p : Nat} {G : bo_G} {Q : Option Value → bo_G → Prop} {kd sg ra sh sp we mn pa pd pt md gd pl : Int32} {pw : Int64} {S : Nat → spT} {x : Int32}
def spZ (s : spT) (w x : Int32) : Int := thZ s.1.toInt s.2.1.toInt (spO s) w.toInt x.toInt
def spX (S : Nat → spT) (w x : Int32) : Prop := rng w 0 1000 ∧ x.toInt ≤ 40000 ∧ ∀ i, i < 12 → spB (S i) ∧ (S i).1.toInt ≤ x.toInt
def leC (S : Nat → spT) (w x : Int32) : Nat → Int
  | 0 => 10000
  | n + 1 => min (leC S w x n) (spZ (S n) w x)
def dbC (S : Nat → spT) : Nat → Int32
  | 0 => 0
  | n + 1 => dbC S n + (if (S n).2.2.1 ≠ -1 ∧ (S n).2.2.2 < (S n).2.1 then 1 else 0)
theorem pv_thick {s : Int32} (h : PV G p (pvC p kd sg ra sh sp we mn pa pd pt md pw gd pl) S) (hX : spX S we x) (k0 : ¬ (0 ≤ s.toInt ∧ s.toInt < 12) → Q (some (.int 0)) G) (k1 : 0 ≤ s.toInt ∧ s.toInt < 12 → ∀ r : Int32, r.toInt = spZ (S s.toNatClampNeg) we x → Q (some (.int r)) G) : Cx (d + 1) mX2_thickOn [.ref p, .int s, .int x] G Q := by
  obtain ⟨h0, hq, hs⟩ := h
  refine Cx.body rfl rfl ?_
  (repeat (first | refine Ex.go rfl rfl ?_ | refine Ex.gf rfl rfl (by assumption) (by rfl) (by first | rfl | assumption) ?_))
  refine Ex.br (fun c1 => ?_) (fun c1 => ?_)
  · have k := k0 fun z => absurd c1 (Int32.not_lt.mpr (Int32.le_iff_toInt_le.mpr z.1))
    (repeat (first | refine Ex.go rfl rfl ?_ | refine Ex.gf rfl rfl (by assumption) (by rfl) (by first | rfl | assumption) ?_))
    refine Ex.ret rfl rfl rfl ?_
    exact k
  have c2 := Int32.le_iff_toInt_le.mp (Int32.not_lt.mp c1)
  obtain ⟨e1, e2, e3⟩ := nI_iof c2
  (repeat (first | refine Ex.go rfl rfl ?_ | refine Ex.gf rfl rfl (by assumption) (by rfl) (by first | rfl | assumption) ?_))
  refine Ex.alq rfl hq ?_
  (repeat (first | refine Ex.go rfl rfl ?_ | refine Ex.gf rfl rfl (by assumption) (by rfl) (by first | rfl | assumption) ?_))
  refine Ex.br (fun c3 => ?_) (fun c3 => ?_)
  · have c4 := Int32.le_iff_toInt_le.mp c3
    have c5 : (12 : Int) ≤ s.toInt := c4
    have k := k0 fun z => by omega
    (repeat (first | refine Ex.go rfl rfl ?_ | refine Ex.gf rfl rfl (by assumption) (by rfl) (by first | rfl | assumption) ?_))
    refine Ex.ret rfl rfl rfl ?_
    exact k
  have c5 : s.toInt < (12 : Int) := Int32.lt_iff_toInt_lt.mp (Int32.not_le.mp c3)
  have hs1 := hs s.toNatClampNeg (by omega)
  have hb := hX.2.2 s.toNatClampNeg (by omega)
  (repeat (first | refine Ex.go rfl rfl ?_ | refine Ex.gf rfl rfl (by assumption) (by rfl) (by first | rfl | assumption) ?_))
  refine Ex.aapv rfl e1 hq (by omega) ?_
  (repeat (first | refine Ex.go rfl rfl ?_ | refine Ex.gf rfl rfl (by assumption) (by rfl) (by first | rfl | assumption) ?_))
  refine Ex.cv2 rfl rfl rfl hs1 (by rfl) (by decide) rfl ?_
  refine s_spThick hs1 hb.1 hX.1 hb.2 hX.2.1 (fun r hr => ?_)
  have k := k1 ⟨c2, c5⟩ r hr
  (repeat (first | refine Ex.go rfl rfl ?_ | refine Ex.gf rfl rfl (by assumption) (by rfl) (by first | rfl | assumption) ?_))
  refine Ex.ret rfl rfl rfl ?_
  exact k
theorem pv_doubt (h : PV G p (pvC p kd sg ra sh sp we mn pa pd pt md pw gd pl) S) (hsp : rng sp 1 12) (k : Q (some (.int (dbC S sp.toNatClampNeg))) G) : Cx (d + 1) mX2_spotsInDoubt [.ref p] G Q := by
  obtain ⟨h0, hq, hs⟩ := h
  obtain ⟨e1, e2, e3⟩ := nI_iof (show 0 ≤ sp.toInt by have := hsp.1; omega)
  have hn : sp.toNatClampNeg ≤ 12 := by have := hsp.2; omega
  generalize hgen : sp.toNatClampNeg = n at *
  have loop : ∀ (e i : Nat) (b c : Int32), b = nI i → i + e = n → c = dbC S i → Ex (d + 1) mX2_spotsInDoubt (4, [(0, .ref p), (1, .int c), (2, .int b)], [], G) Q := by
    intro e
    induction e with
    | zero =>
      intro i b c hb hi hc
      have hi' : i = n := by omega
      rw [← hi', ← hc] at k
      have hb2 : sp ≤ b := by rw [hb, e1, hi']; exact nI_le (Nat.le_refl _) (by omega)
      clear hb hc
      (repeat (first | refine Ex.go rfl rfl ?_ | refine Ex.gf rfl rfl (by assumption) (by rfl) (by first | rfl | assumption) ?_))
      refine Ex.br (fun c1 => ?_) (fun c1 => ?_); rotate_left
      · exact absurd hb2 c1
      (repeat (first | refine Ex.go rfl rfl ?_ | refine Ex.gf rfl rfl (by assumption) (by rfl) (by first | rfl | assumption) ?_))
      refine Ex.ret rfl rfl rfl ?_
      exact k
    | succ e ih =>
      intro i b c hb hi hc
      have hs1 := hs i (by omega)
      have nx := ih (i + 1) (b + 1) (c + (if (S i).2.2.1 ≠ -1 ∧ (S i).2.2.2 < (S i).2.1 then 1 else 0)) (by rw [hb]; exact nI_1 i) (by omega) (by rw [hc]; rfl)
      (repeat (first | refine Ex.go rfl rfl ?_ | refine Ex.gf rfl rfl (by assumption) (by rfl) (by first | rfl | assumption) ?_))
      refine Ex.br (fun c1 => ?_) (fun c1 => ?_)
      · rw [hb, e1, nI_leI (by omega) (by omega)] at c1
        omega
      (repeat (first | refine Ex.go rfl rfl ?_ | refine Ex.gf rfl rfl (by assumption) (by rfl) (by first | rfl | assumption) ?_))
      refine Ex.alq rfl hq ?_
      (repeat (first | refine Ex.go rfl rfl ?_ | refine Ex.gf rfl rfl (by assumption) (by rfl) (by first | rfl | assumption) ?_))
      refine Ex.br (fun c2 => ?_) (fun c2 => ?_)
      · have c3 : nI 12 ≤ b := c2
        rw [hb, nI_leI (by omega) (by omega)] at c3
        omega
      (repeat (first | refine Ex.go rfl rfl ?_ | refine Ex.gf rfl rfl (by assumption) (by rfl) (by first | rfl | assumption) ?_))
      refine Ex.aapv rfl hb hq (by omega) ?_
      (repeat (first | refine Ex.go rfl rfl ?_ | refine Ex.gf rfl rfl (by assumption) (by rfl) (by first | rfl | assumption) ?_))
      refine Ex.cv0 rfl rfl rfl hs1 (by rfl) (by decide) rfl ?_
      refine s_spDoubt hs1 ?_
      (repeat (first | refine Ex.go rfl rfl ?_ | refine Ex.gf rfl rfl (by assumption) (by rfl) (by first | rfl | assumption) ?_))
      first | (refine Ex.brz (fun c4 => ?_) (fun c4 => ?_); rotate_left) | (refine Ex.brn (fun c4 => ?_) (fun c4 => ?_); rotate_left)
      · rw [if_neg c4] at nx
        (repeat (first | exact nx | refine Ex.go rfl rfl ?_ | refine Ex.gf rfl rfl (by assumption) (by rfl) (by first | rfl | assumption) ?_))
      · rw [if_pos c4] at nx
        (repeat (first | exact nx | refine Ex.go rfl rfl ?_ | refine Ex.gf rfl rfl (by assumption) (by rfl) (by first | rfl | assumption) ?_))
  refine Cx.body rfl rfl ?_
  have l0 := loop n 0 0 0 rfl (by omega) rfl
  (repeat (first | exact l0 | refine Ex.go rfl rfl ?_ | refine Ex.gf rfl rfl (by assumption) (by rfl) (by first | rfl | assumption) ?_))
theorem pv_least (h : PV G p (pvC p kd sg ra sh sp we mn pa pd pt md pw gd pl) S) (hsp : rng sp 1 12) (hX : spX S we x) (k : ∀ r : Int32, r.toInt = leC S we x sp.toNatClampNeg → Q (some (.int r)) G) : Cx (d + 1) mX2_leastThick [.ref p, .int x] G Q := by
  obtain ⟨h0, hq, hs⟩ := h
  obtain ⟨e1, e2, e3⟩ := nI_iof (show 0 ≤ sp.toInt by have := hsp.1; omega)
  have hn : sp.toNatClampNeg ≤ 12 := by have := hsp.2; omega
  generalize hgen : sp.toNatClampNeg = n at *
  have loop : ∀ (e i : Nat) (b c : Int32), b = nI i → i + e = n → c.toInt = leC S we x i → Ex (d + 1) mX2_leastThick (6, [(0, .ref p), (1, .int x), (2, .int c), (3, .int b)], [], G) Q := by
    intro e
    induction e with
    | zero =>
      intro i b c hb hi hc
      have hi' : i = n := by omega
      rw [hi'] at hc
      have k := k c hc
      have hb2 : sp ≤ b := by rw [hb, e1, hi']; exact nI_le (Nat.le_refl _) (by omega)
      clear hb hc
      (repeat (first | refine Ex.go rfl rfl ?_ | refine Ex.gf rfl rfl (by assumption) (by rfl) (by first | rfl | assumption) ?_))
      refine Ex.br (fun c1 => ?_) (fun c1 => ?_); rotate_left
      · exact absurd hb2 c1
      (repeat (first | refine Ex.go rfl rfl ?_ | refine Ex.gf rfl rfl (by assumption) (by rfl) (by first | rfl | assumption) ?_))
      refine Ex.ret rfl rfl rfl ?_
      exact k
    | succ e ih =>
      intro i b c hb hi hc
      have hs1 := hs i (by omega)
      have hbb := hX.2.2 i (by omega)
      have nx := fun (r : Int32) (hr : r.toInt = spZ (S i) we x) => ih (i + 1) (b + 1) (mnI c r) (by rw [hb]; exact nI_1 i) (by omega) (by rw [mnI_toInt, hc, hr]; rfl)
      (repeat (first | refine Ex.go rfl rfl ?_ | refine Ex.gf rfl rfl (by assumption) (by rfl) (by first | rfl | assumption) ?_))
      refine Ex.br (fun c1 => ?_) (fun c1 => ?_)
      · rw [hb, e1, nI_leI (by omega) (by omega)] at c1
        omega
      (repeat (first | refine Ex.go rfl rfl ?_ | refine Ex.gf rfl rfl (by assumption) (by rfl) (by first | rfl | assumption) ?_))
      refine Ex.alq rfl hq ?_
      (repeat (first | refine Ex.go rfl rfl ?_ | refine Ex.gf rfl rfl (by assumption) (by rfl) (by first | rfl | assumption) ?_))
      refine Ex.br (fun c2 => ?_) (fun c2 => ?_)
      · have c3 : nI 12 ≤ b := c2
        rw [hb, nI_leI (by omega) (by omega)] at c3
        omega
      (repeat (first | refine Ex.go rfl rfl ?_ | refine Ex.gf rfl rfl (by assumption) (by rfl) (by first | rfl | assumption) ?_))
      refine Ex.aapv rfl hb hq (by omega) ?_
      (repeat (first | refine Ex.go rfl rfl ?_ | refine Ex.gf rfl rfl (by assumption) (by rfl) (by first | rfl | assumption) ?_))
      refine Ex.cv2 rfl rfl rfl hs1 (by rfl) (by decide) rfl ?_
      refine s_spThick hs1 hbb.1 hX.1 hbb.2 hX.2.1 (fun r hr => ?_)
      have nx := nx r hr
      (repeat (first | refine Ex.go rfl rfl ?_ | refine Ex.gf rfl rfl (by assumption) (by rfl) (by first | rfl | assumption) ?_))
      refine Ex.cs2 rfl rfl rfl rfl rfl rfl ?_
      refine j_min ?_
      (repeat (first | exact nx | refine Ex.go rfl rfl ?_ | refine Ex.gf rfl rfl (by assumption) (by rfl) (by first | rfl | assumption) ?_))
  refine Cx.body rfl rfl ?_
  have l0 := loop n 0 0 10000 rfl (by omega) rfl
  (repeat (first | exact l0 | refine Ex.go rfl rfl ?_ | refine Ex.gf rfl rfl (by assumption) (by rfl) (by first | rfl | assumption) ?_))
end CL
